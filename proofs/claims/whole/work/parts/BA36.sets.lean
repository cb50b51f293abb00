/-! sets of deeds or houses: bits -/
def xbt (S i : Int) : Bool := decide (xand (xshr S i) 1 = 1)
theorem bit_all : ∀ (S : Fin 256) (i : Fin 8), xand (xshr (S.val : Int) (i.val : Int)) 1 = b01 (xbt S.val i.val) ∧ (if xwl (xland (xlshr (S.val : Int) (i.val : Int)) 1) = 1 then (1 : Int) else 0) = b01 (xbt S.val i.val) := by decide +kernel
theorem set_all : ∀ (n : Fin 9) (S : Fin 256), S.val < 2 ^ n.val → (0 ≤ xbc S.val ∧ xbc S.val ≤ n.val) ∧ xshl 1 n.val - 1 = 2 ^ n.val - 1 ∧ (0 ≤ xand (xshl 1 n.val - 1) (xxor S.val (-1)) ∧ xand (xshl 1 n.val - 1) (xxor S.val (-1)) < 256) ∧ xand (xshl 1 n.val - 1) (xxor (2 ^ n.val - 1) (-1)) = 0 := by decide +kernel
theorem bit_b {S i : Int} (hS : 0 ≤ S ∧ S < 256) (hi : 0 ≤ i ∧ i < 8) : xand (xshr S i) 1 = b01 (xbt S i) ∧ (if xwl (xland (xlshr S i) 1) = 1 then (1 : Int) else 0) = b01 (xbt S i) := by
  obtain ⟨a, rfl⟩ := Int.eq_ofNat_of_zero_le hS.1
  obtain ⟨b, rfl⟩ := Int.eq_ofNat_of_zero_le hi.1
  exact bit_all ⟨a, by omega⟩ ⟨b, by omega⟩
theorem has_m {S i : Int} {s : xW} (hS : 0 ≤ S ∧ S < 256) (hi : 0 ≤ i ∧ i < 8) : F_X11_has S i s = some (b01 (xbt S i)) := by
  rw [← (bit_b hS hi).2]
  unfold F_X11_has
  split <;> rfl
theorem set_b {n S : Int} (hn : 0 ≤ n ∧ n ≤ 8) (hS : 0 ≤ S ∧ S ≤ xshl 1 n - 1) : S < 256 ∧ (0 ≤ xbc S ∧ xbc S ≤ n) ∧ (0 ≤ xand (xshl 1 n - 1) (xxor S (-1)) ∧ xand (xshl 1 n - 1) (xxor S (-1)) < 256) := by
  obtain ⟨a, rfl⟩ := Int.eq_ofNat_of_zero_le hn.1
  obtain ⟨b, rfl⟩ := Int.eq_ofNat_of_zero_le hS.1
  have h1 := (set_all ⟨a, by omega⟩ ⟨0, by decide⟩ (Nat.pos_of_ne_zero (by simp))).2.1
  have h2 : xshl 1 (a : Int) - 1 = 2 ^ a - 1 := h1
  have hp : (2 : Int) ^ a ≤ 256 := by
    rcases (by omega : a = 0 ∨ a = 1 ∨ a = 2 ∨ a = 3 ∨ a = 4 ∨ a = 5 ∨ a = 6 ∨ a = 7 ∨ a = 8) with rfl | rfl | rfl | rfl | rfl | rfl | rfl | rfl | rfl <;> decide
  have hb : b < 2 ^ a := by
    have : (b : Int) < 2 ^ a := by omega
    exact_mod_cast this
  have hb2 : b < 256 := by omega
  have h3 := set_all ⟨a, by omega⟩ ⟨b, hb2⟩ hb
  exact ⟨by omega, h3.1, h3.2.2.1⟩
theorem all_b {n : Int} (hn : 0 ≤ n ∧ n ≤ 8) : (0 ≤ xshl 1 n - 1 ∧ xshl 1 n - 1 ≤ 255) ∧ xand (xshl 1 n - 1) (xxor (xshl 1 n - 1) (-1)) = 0 ∧ 1 ≤ xshl 1 n := by
  rcases (by omega : n = 0 ∨ n = 1 ∨ n = 2 ∨ n = 3 ∨ n = 4 ∨ n = 5 ∨ n = 6 ∨ n = 7 ∨ n = 8) with rfl | rfl | rfl | rfl | rfl | rfl | rfl | rfl | rfl <;> decide
theorem xbt_0 {i : Int} (hi : 0 ≤ i ∧ i < 8) : xbt 0 i = false := by
  rcases (by omega : i = 0 ∨ i = 1 ∨ i = 2 ∨ i = 3 ∨ i = 4 ∨ i = 5 ∨ i = 6 ∨ i = 7) with rfl | rfl | rfl | rfl | rfl | rfl | rfl | rfl <;> decide
/-- no two of the first k of S are foes -/
def xpe (foe : Int → Int) (S : Int) : Nat → Bool
  | 0 => true
  | k + 1 => xpe foe S k && (!xbt S k || decide (xand (foe k) S = 0))
theorem xpe_f {foe : Int → Int} {S : Int} {i : Nat} (h : xpe foe S i = false) : ∀ n : Nat, i ≤ n → xpe foe S n = false := by
  intro n hn
  induction n with
  | zero => obtain rfl : i = 0 := by omega
            exact h
  | succ n ih =>
    by_cases q : i = n + 1
    · rw [← q]; exact h
    · unfold xpe
      rw [ih (by omega), Bool.false_and]
theorem xpe_0 {foe : Int → Int} : ∀ k : Nat, k ≤ 8 → xpe foe 0 k = true
  | 0, _ => rfl
  | k + 1, h => by
    unfold xpe
    rw [xpe_0 k (by omega), xbt_0 (by omega)]
    rfl
theorem xpe_congr {f g : Int → Int} {S : Int} : ∀ k : Nat, (∀ i : Int, 0 ≤ i → i < k → f i = g i) → xpe f S k = xpe g S k
  | 0, _ => rfl
  | k + 1, h => by
    unfold xpe
    rw [xpe_congr k (fun i a b => h i a (by omega)), h k (by omega) (by omega)]
theorem peace_loopC {S n : Int} {s : xW} (hS : 0 ≤ S ∧ S < 256) (hn : 0 ≤ n ∧ n ≤ 8) (e0 : s 92 0 = n) :
    ∀ (j i f : Nat), (i : Int) + j = n → j < f → xpe (s 107) S i = true → F_X10_isPeaceful_2 S s f i (fun (l2_12 : Int) => some 1) = some (b01 (xpe (s 107) S n.toNat)) := by
  intro j
  induction j with
  | zero =>
    intro i f hi hf hx
    obtain ⟨f, rfl⟩ : ∃ f', f = f' + 1 := ⟨f - 1, by omega⟩
    unfold F_X10_isPeaceful_2
    rw [e0, xw_sm (by omega) (by omega), xw_sm (by omega) (by omega), if_neg (by omega), show n.toNat = i by omega, hx]
    rfl
  | succ j ih =>
    intro i f hi hf hx
    obtain ⟨f, rfl⟩ : ∃ f', f = f' + 1 := ⟨f - 1, by omega⟩
    have hb := (bit_b hS (show 0 ≤ (i : Int) ∧ (i : Int) < 8 by omega)).1
    have ih' := ih (i + 1) f (by omega) (by omega)
    have hx1 : xpe (s 107) S (i + 1) = (xpe (s 107) S i && (!xbt S i || decide (xand (s 107 i) S = 0))) := rfl
    rw [hx, Bool.true_and] at hx1
    unfold F_X10_isPeaceful_2
    simp only [xbp_s, xbd_s, xls, xli, xlt, xjn]
    rw [e0, xw_sm (x := (i : Int)) (by omega) (by omega), xw_sm (x := n) (by omega) (by omega), if_pos (by omega), hb, xw_b01, xw_id (I32_xand _ _), show ((i : Int) + 1) = ((i + 1 : Nat) : Int) by omega]
    cases hq : xbt S i
    · rw [hq] at hx1
      rw [if_neg (by decide)]
      exact ih' hx1
    · rw [hq] at hx1
      rw [if_pos (by decide), xgd_t (by omega)]
      by_cases w : xand (s 107 i) S = 0
      · rw [if_neg (fun z => z w)]
        exact ih' (by rw [hx1, w]; rfl)
      · rw [if_pos w]
        have hf2 : xpe (s 107) S (i + 1) = false := by rw [hx1]; simp [w]
        rw [xpe_f hf2 n.toNat (by omega)]
        rfl
theorem peaceful_c {S : Int} {s : xW} (hS : 0 ≤ S ∧ S < 256) (hn : 0 ≤ s 92 0 ∧ s 92 0 ≤ 8) : F_X10_isPeaceful S s = some (b01 (xpe (s 107) S (s 92 0).toNat)) := by
  unfold F_X10_isPeaceful
  exact peace_loopC hS hn rfl (s 92 0).toNat 0 xN (by omega) (by have := xN_ge; omega) rfl
theorem peace_loopM {S n : Int} {s : xW} {k : Int → Int → Option Int} (hS : 0 ≤ S ∧ S < 256) (hn : 0 ≤ n ∧ n ≤ 8) (e0 : s 121 4 = n) :
    ∀ (j i f : Nat), (i : Int) + j = n → j < f → F_X11_isPeace_4 S s f (b01 (xpe (s 143) S i)) i k = k (b01 (xpe (s 143) S n.toNat)) n := by
  intro j
  induction j with
  | zero =>
    intro i f hi hf
    obtain ⟨f, rfl⟩ : ∃ f', f = f' + 1 := ⟨f - 1, by omega⟩
    unfold F_X11_isPeace_4
    rw [e0, xw_sm (by omega) (by omega), xw_sm (by omega) (by omega), if_neg (by omega), show n.toNat = i by omega, show n = (i : Int) by omega]
  | succ j ih =>
    intro i f hi hf
    obtain ⟨f, rfl⟩ : ∃ f', f = f' + 1 := ⟨f - 1, by omega⟩
    have ih' := ih (i + 1) f (by omega) (by omega)
    have hx1 : xpe (s 143) S (i + 1) = (xpe (s 143) S i && (!xbt S i || decide (xand (s 143 i) S = 0))) := rfl
    rw [← ih', F_X11_isPeace_4]
    simp only [xbp_s, xbd_s, xls, xli, xlt, xjn]
    rw [e0, xw_sm (x := (i : Int)) (by omega) (by omega), xw_sm (x := n) (by omega) (by omega), if_pos (by omega), xw_b01, xw_sm (x := S) (by omega) (by omega), has_m hS (by omega), show ((i : Int) + 1) = ((i + 1 : Nat) : Int) by omega, hx1]
    simp only [xbp_s, xbd_s, xls, xli, xlt, xjn]
    rw [xw_b01, xw_id (I32_xand _ _)]
    cases xpe (s 143) S i
    · rw [if_neg (by decide)]
      rfl
    · rw [if_pos (by decide)]
      cases xbt S i
      · rw [if_neg (by decide)]
        rfl
      · rw [if_pos (by decide), xgd_t (by omega)]
        by_cases w : xand (s 143 i) S = 0
        · rw [if_pos w]
          simp [w]
          rfl
        · rw [if_neg w]
          simp [w]
          rfl
theorem peace_m {S : Int} {s : xW} (hS : 0 ≤ S ∧ S < 256) (hn : 0 ≤ s 121 4 ∧ s 121 4 ≤ 8) : F_X11_isPeace S s = some (b01 (xpe (s 143) S (s 121 4).toNat)) := by
  unfold F_X11_isPeace
  refine Eq.trans (peace_loopM (k := fun (l2_24 : Int) (l3_25 : Int) => xgd (l2_24 = 0 ∨ l2_24 = 1) <| some l2_24) hS hn rfl (s 121 4).toNat 0 xN (by omega) (by have := xN_ge; omega)) ?_
  rw [xgd_t (by have := b01_r (xpe (s 143) S (s 121 4).toNat); omega)]
/-- both know who is whose foe -/
theorem foes_d {B : Int} {σ τ : xW} (hB1 : B ≤ 1000000) (h : XR B σ τ) : ∃ s t, F_X10_findFoes σ = some (xshl 1 (σ 92 0) - 1, s) ∧ F_X11_laysFoes (xu τ 121 0 0) = some t ∧ s 92 0 = σ 92 0 ∧ t 121 4 = σ 92 0 ∧ s 20 = σ 20 ∧ (∀ d, 0 ≤ d → d < σ 92 0 → t 127 (24 + d) = σ 20 d) ∧ (∀ i, 0 ≤ i → i < σ 92 0 → s 107 i = t 143 i) := by
  have hcw := XR_cw h
  have hmw := XR_mw h
  have hmr := XR_mr hB1 h
  obtain ⟨h1, h2, h3, h4, h5, h6, h7, h8, h9, h10⟩ := id h
  have hday := h6.1.1.2.2.2.2.2
  have hgun := h6.1.1.1
  have hnd := h5.2.2.1
  have hr := hcw.1
  obtain ⟨s2, a1, a2⟩ := today_c hcw hgun (by omega)
  obtain ⟨b1, b2, b3, b4, b5⟩ := id a2
  have hmw1 : Xmw (τ 121 23) (τ 131) σ (xu τ 121 0 0) := Xmw_c hmw (fun c hc => xu_row _ _ _ (by omega)) (fun k hk => xu_slot _ _ _ (by omega))
  obtain ⟨t2, m1, m2, m3, m4, m5⟩ := lays_d (r := 127) hmw1 (Or.inl rfl) (by rw [xu_row _ _ _ (by decide)]; exact hmr)
  have e92 : s2 92 = σ 92 := b1 92 (by decide) (by decide) (by omega) (by decide) (by decide)
  have e20 : s2 20 = σ 20 := b1 20 (by decide) (by decide) (by omega) (by decide) (by decide)
  have e4 : t2 121 4 = σ 92 0 := by rw [m2 121 (by decide) (by decide) (by decide)]; exact hmw1.2.2.2.2.1
  have kC : ∀ (j i : Nat) (s : xW) (f : Nat), (i : Int) + j = σ 92 0 → j < f → (∀ c, c ≠ 107 → s c = s2 c) → (∀ x : Int, 0 ≤ x → x < i → s 107 x = xbits (xq (s2 94) (s2 95) (s2 20) x) (σ 92 0).toNat) → ∃ s', F_X10_findFoes_6 f i s (fun (l1_13 : Int) (s14 : xW) => some (((xshl 1 (s14 92 0)) - 1), s14)) = some (xshl 1 (σ 92 0) - 1, s') ∧ (∀ c, c ≠ 107 → s' c = s2 c) ∧ (∀ x : Int, 0 ≤ x → x < σ 92 0 → s' 107 x = xbits (xq (s2 94) (s2 95) (s2 20) x) (σ 92 0).toNat) := by
    intro j
    induction j with
    | zero =>
      intro i s f hi hf hc hx
      obtain ⟨f, rfl⟩ : ∃ f', f = f' + 1 := ⟨f - 1, by omega⟩
      refine ⟨s, ?_, hc, fun x a b => hx x a (by omega)⟩
      unfold F_X10_findFoes_6
      rw [hc 92 (by decide), e92, xw_sm (by omega) (by omega), xw_sm (by omega) (by omega), if_neg (by omega)]
      show some (xshl 1 (s 92 0) - 1, s) = _
      rw [hc 92 (by decide), e92]
    | succ j ih =>
      intro i s f hi hf hc hx
      obtain ⟨f, rfl⟩ : ∃ f', f = f' + 1 := ⟨f - 1, by omega⟩
      have hpl : Xpl s := by
        unfold Xpl
        rw [hc 92 (by decide), hc 95 (by decide), hc 20 (by decide), hc 96 (by decide)]
        exact b2
      unfold F_X10_findFoes_6
      rw [hc 92 (by decide), e92, xw_sm (by omega) (by omega), xw_sm (by omega) (by omega), if_pos (by omega), foes_c hpl (by rw [hc 92 (by decide), e92]; omega), hc 92 (by decide), e92, hc 94 (by decide), hc 95 (by decide), hc 20 (by decide)]
      simp only [xbp_s, xbd_s, xls, xli, xlt, xjn]
      rw [xgd_t (by omega), show ((i : Int) + 1) = ((i + 1 : Nat) : Int) by omega]
      refine ih (i + 1) _ f (by omega) (by omega) (fun c c1 => by rw [xu_row _ _ _ c1]; exact hc c c1) (fun x a b => ?_)
      by_cases q : x = i
      · rw [q, xu_same]
      · rw [xu_slot _ _ _ q]; exact hx x a (by omega)
  have kM : ∀ (j i : Nat) (t : xW) (f : Nat), (i : Int) + j = σ 92 0 → j < f → (∀ c, c ≠ 143 → t c = t2 c) → (∀ x : Int, 0 ≤ x → x < i → t 143 x = xbits (xq (t2 126) (t2 135) (fun d => t2 127 (24 + d)) x) (σ 92 0).toNat) → ∃ t', F_X11_laysFoes_10 f i t (fun (l1_13 : Int) (s14 : xW) => some s14) = some t' ∧ (∀ c, c ≠ 143 → t' c = t2 c) ∧ (∀ x : Int, 0 ≤ x → x < σ 92 0 → t' 143 x = xbits (xq (t2 126) (t2 135) (fun d => t2 127 (24 + d)) x) (σ 92 0).toNat) := by
    intro j
    induction j with
    | zero =>
      intro i t f hi hf hc hx
      obtain ⟨f, rfl⟩ : ∃ f', f = f' + 1 := ⟨f - 1, by omega⟩
      refine ⟨t, ?_, hc, fun x a b => hx x a (by omega)⟩
      unfold F_X11_laysFoes_10
      rw [hc 121 (by decide), e4, xw_sm (by omega) (by omega), xw_sm (by omega) (by omega), if_neg (by omega)]
    | succ j ih =>
      intro i t f hi hf hc hx
      obtain ⟨f, rfl⟩ : ∃ f', f = f' + 1 := ⟨f - 1, by omega⟩
      have hbg : Xbg 127 t := by
        unfold Xbg
        rw [hc 121 (by decide), hc 135 (by decide), hc 127 (by decide)]
        exact m3
      unfold F_X11_laysFoes_10
      rw [hc 121 (by decide), e4, xw_sm (by omega) (by omega), xw_sm (by omega) (by omega), if_pos (by omega), clashing_m (Or.inl rfl) hbg (by rw [hc 121 (by decide), e4]; omega), hc 121 (by decide), e4, hc 126 (by decide), hc 135 (by decide), hc 127 (by decide)]
      simp only [xbp_s, xbd_s, xls, xli, xlt, xjn]
      rw [xgd_t (by omega), show ((i : Int) + 1) = ((i + 1 : Nat) : Int) by omega]
      refine ih (i + 1) _ f (by omega) (by omega) (fun c c1 => by rw [xu_row _ _ _ c1]; exact hc c c1) (fun x a b => ?_)
      by_cases q : x = i
      · rw [q, xu_same]
      · rw [xu_slot _ _ _ q]; exact hx x a (by omega)
  obtain ⟨s, c1, c2, c3⟩ := kC (σ 92 0).toNat 0 s2 xN (by omega) (by have := xN_ge; omega) (fun c _ => rfl) (fun x a b => by omega)
  obtain ⟨t, d1, d2, d3⟩ := kM (σ 92 0).toNat 0 t2 xN (by omega) (by have := xN_ge; omega) (fun c _ => rfl) (fun x a b => by omega)
  refine ⟨s, t, ?_, ?_, by rw [c2 92 (by decide), e92], by rw [d2 121 (by decide), e4], by rw [c2 20 (by decide), e20], fun d x y => ?_, fun i x y => ?_⟩
  · unfold F_X10_findFoes
    rw [a1]
    exact c1
  · unfold F_X11_laysFoes
    rw [m1]
    exact d1
  · rw [d2 127 (by decide), m2 127 (by decide) (by decide) (by decide), xu_row _ _ _ (by decide)]
    exact (h6.2.2.2 d x y).1.symm
  · rw [c3 i x y, d3 i x y]
    exact xbits_congr _ (fun e a b => (b5 i e x y a (by omega)).trans (m5 i e x y a (by omega)).symm)
