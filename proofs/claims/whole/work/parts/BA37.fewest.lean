/-- the first set of the fewest that leaves peace: -1 none yet -/
def xfw (p : Int → Bool) : Nat → Int
  | 0 => -1
  | k + 1 => if (xfw p k < 0 ∨ xbc k < xbc (xfw p k)) ∧ p k = true then (k : Int) else xfw p k
theorem xfw_r (p : Int → Bool) : ∀ k : Nat, -1 ≤ xfw p k ∧ xfw p k < k
  | 0 => (by decide : (-1 : Int) ≤ -1 ∧ (-1 : Int) < ((0 : Nat) : Int))
  | k + 1 => by
    have h := xfw_r p k
    unfold xfw
    split <;> omega
theorem fewest_loopC {n : Int} {s : xW} {k : Int → Int → Int → Option (Int × xW)} (hn : 0 ≤ n ∧ n ≤ 8) (e0 : s 92 0 = n) :
    ∀ (j i f : Nat) (a b : Int), (i : Int) + j = xshl 1 n → j < f → (a = if xfw (fun S => xpe (s 107) (xand (xshl 1 n - 1) (xxor S (-1))) n.toNat) i < 0 then n + 1 else xbc (xfw (fun S => xpe (s 107) (xand (xshl 1 n - 1) (xxor S (-1))) n.toNat) i)) → (b = if xfw (fun S => xpe (s 107) (xand (xshl 1 n - 1) (xxor S (-1))) n.toNat) i < 0 then 0 else xfw (fun S => xpe (s 107) (xand (xshl 1 n - 1) (xxor S (-1))) n.toNat) i) →
    ∃ a' b', F_X10_fewest_20 (xshl 1 n - 1) s f a b i k = k a' b' (xshl 1 n) ∧ (a' = if xfw (fun S => xpe (s 107) (xand (xshl 1 n - 1) (xxor S (-1))) n.toNat) (xshl 1 n).toNat < 0 then n + 1 else xbc (xfw (fun S => xpe (s 107) (xand (xshl 1 n - 1) (xxor S (-1))) n.toNat) (xshl 1 n).toNat)) ∧ (b' = if xfw (fun S => xpe (s 107) (xand (xshl 1 n - 1) (xxor S (-1))) n.toNat) (xshl 1 n).toNat < 0 then 0 else xfw (fun S => xpe (s 107) (xand (xshl 1 n - 1) (xxor S (-1))) n.toNat) (xshl 1 n).toNat) := by
  have hal := all_b hn
  intro j
  induction j with
  | zero =>
    intro i f a b hi hf ha hb
    obtain ⟨f, rfl⟩ : ∃ f', f = f' + 1 := ⟨f - 1, by omega⟩
    refine ⟨a, b, ?_, by rw [show (xshl 1 n).toNat = i by omega]; exact ha, by rw [show (xshl 1 n).toNat = i by omega]; exact hb⟩
    unfold F_X10_fewest_20
    rw [xw_sm (by omega) (by omega), xw_sm (by omega) (by omega), if_neg (by omega), show xshl 1 n = (i : Int) by omega]
  | succ j ih =>
    intro i f a b hi hf ha hb
    obtain ⟨f, rfl⟩ : ∃ f', f = f' + 1 := ⟨f - 1, by omega⟩
    have hs := set_b (S := i) hn (by omega)
    have hr := xfw_r (fun S => xpe (s 107) (xand (xshl 1 n - 1) (xxor S (-1))) n.toNat) i
    have hpc := peaceful_c (S := xand (xshl 1 n - 1) (xxor i (-1))) (s := s) hs.2.2 (by rw [e0]; exact hn)
    rw [e0] at hpc
    have hxs : xfw (fun S => xpe (s 107) (xand (xshl 1 n - 1) (xxor S (-1))) n.toNat) (i + 1) = if (xfw (fun S => xpe (s 107) (xand (xshl 1 n - 1) (xxor S (-1))) n.toNat) i < 0 ∨ xbc i < xbc (xfw (fun S => xpe (s 107) (xand (xshl 1 n - 1) (xxor S (-1))) n.toNat) i)) ∧ xpe (s 107) (xand (xshl 1 n - 1) (xxor i (-1))) n.toNat = true then (i : Int) else xfw (fun S => xpe (s 107) (xand (xshl 1 n - 1) (xxor S (-1))) n.toNat) i := rfl
    have next := fun a1 b1 => ih (i + 1) f a1 b1 (by omega) (by omega)
    have hw : 0 ≤ a ∧ a ≤ 9 := by
      rw [ha]
      split
      · omega
      · have := set_b (S := xfw (fun S => xpe (s 107) (xand (xshl 1 n - 1) (xxor S (-1))) n.toNat) i) hn (by omega)
        omega
    rw [F_X10_fewest_20]
    simp only [xbp_s, xbd_s, xls, xli, xlt, xjn]
    rw [xw_sm (x := (i : Int)) (by omega) (by omega), xw_sm (x := xshl 1 n - 1) (by omega) (by omega), if_pos (by omega), xw_sm (x := xbc i) (by omega) (by omega), xw_sm (x := a) (by omega) (by omega), hpc, show ((i : Int) + 1) = ((i + 1 : Nat) : Int) by omega]
    simp only [xbp_s, xbd_s, xls, xli, xlt, xjn]
    rw [xw_b01]
    generalize xfw (fun S => xpe (s 107) (xand (xshl 1 n - 1) (xxor S (-1))) n.toNat) (i + 1) = G at *
    generalize xfw (fun S => xpe (s 107) (xand (xshl 1 n - 1) (xxor S (-1))) n.toNat) i = F at *
    generalize xpe (s 107) (xand (xshl 1 n - 1) (xxor i (-1))) n.toNat = P at *
    have keep : G = F → ∃ a' b', F_X10_fewest_20 (xshl 1 n - 1) s f a b ((i + 1 : Nat) : Int) k = k a' b' (xshl 1 n) ∧ (a' = if xfw (fun S => xpe (s 107) (xand (xshl 1 n - 1) (xxor S (-1))) n.toNat) (xshl 1 n).toNat < 0 then n + 1 else xbc (xfw (fun S => xpe (s 107) (xand (xshl 1 n - 1) (xxor S (-1))) n.toNat) (xshl 1 n).toNat)) ∧ (b' = if xfw (fun S => xpe (s 107) (xand (xshl 1 n - 1) (xxor S (-1))) n.toNat) (xshl 1 n).toNat < 0 then 0 else xfw (fun S => xpe (s 107) (xand (xshl 1 n - 1) (xxor S (-1))) n.toNat) (xshl 1 n).toNat) := fun hG => next a b (by rw [hG]; exact ha) (by rw [hG]; exact hb)
    by_cases w : xbc i < a
    · rw [if_pos w]
      have hw2 : F < 0 ∨ xbc i < xbc F := by
        by_cases z : F < 0
        · exact Or.inl z
        · rw [if_neg z] at ha; right; omega
      cases P
      · rw [if_neg (by decide)]
        exact keep (by rw [hxs, if_neg (fun z => nomatch z.2)])
      · rw [if_pos (by decide)]
        have hG : G = (i : Int) := by rw [hxs, if_pos ⟨hw2, rfl⟩]
        exact next _ _ (by rw [hG, if_neg (by omega)]) (by rw [hG, if_neg (by omega)])
    · rw [if_neg w]
      have hw2 : ¬ (F < 0 ∨ xbc i < xbc F) := by
        rintro (z | z)
        · rw [if_pos z] at ha; omega
        · by_cases z2 : F < 0
          · rw [if_pos z2] at ha; omega
          · rw [if_neg z2] at ha; omega
      exact keep (by rw [hxs, if_neg (fun z => hw2 z.1)])
theorem isFewer_m {S b : Int} {s : xW} {n : Int} (hn : 0 ≤ n ∧ n ≤ 8) (hS : 0 ≤ S ∧ S ≤ xshl 1 n - 1) (hb : -1 ≤ b ∧ b ≤ xshl 1 n - 1) : F_X11_isFewer S b s = some (if b < 0 ∨ xbc S < xbc b then 1 else 0) := by
  have h1 := set_b hn hS
  have ha := all_b hn
  unfold F_X11_isFewer
  simp only [xbp_s, xbd_s, xls, xli, xlt, xjn]
  rw [xw_sm (x := b) (by omega) (by omega)]
  by_cases q : 0 ≤ b
  · have h2 := set_b (S := b) hn (by omega)
    rw [if_pos q, xw_sm (by omega) (by omega), xw_sm (by omega) (by omega)]
    by_cases w : xbc S < xbc b
    · rw [if_pos w, if_pos (Or.inr w)]; rfl
    · rw [if_neg w, if_neg (by omega)]; rfl
  · rw [if_neg q, if_pos (Or.inl (by omega))]; rfl
theorem fewest_loopM {n : Int} {s : xW} {k : Int → Int → Option (Int × xW)} (hn : 0 ≤ n ∧ n ≤ 8) (e0 : s 121 4 = n) :
    ∀ (j i f : Nat), (i : Int) + j = xshl 1 n → j < f → F_X11_fewest_22 (xshl 1 n - 1) s f (xfw (fun S => xpe (s 143) (xand (xshl 1 n - 1) (xxor S (-1))) n.toNat) i) i k = k (xfw (fun S => xpe (s 143) (xand (xshl 1 n - 1) (xxor S (-1))) n.toNat) (xshl 1 n).toNat) (xshl 1 n) := by
  have hal := all_b hn
  intro j
  induction j with
  | zero =>
    intro i f hi hf
    obtain ⟨f, rfl⟩ : ∃ f', f = f' + 1 := ⟨f - 1, by omega⟩
    unfold F_X11_fewest_22
    rw [xw_sm (by omega) (by omega), xw_sm (by omega) (by omega), if_neg (by omega)]
    rw [show k (xfw _ (xshl 1 n).toNat) (xshl 1 n) = k (xfw (fun S => xpe (s 143) (xand (xshl 1 n - 1) (xxor S (-1))) n.toNat) i) i by rw [show (xshl 1 n).toNat = i by omega, show xshl 1 n = (i : Int) by omega]]
  | succ j ih =>
    intro i f hi hf
    obtain ⟨f, rfl⟩ : ∃ f', f = f' + 1 := ⟨f - 1, by omega⟩
    have hs := set_b (S := i) hn (by omega)
    have hr := xfw_r (fun S => xpe (s 143) (xand (xshl 1 n - 1) (xxor S (-1))) n.toNat) i
    have hpc := peace_m (S := xand (xshl 1 n - 1) (xxor i (-1))) (s := s) hs.2.2 (by rw [e0]; exact hn)
    rw [e0] at hpc
    have next := ih (i + 1) f (by omega) (by omega)
    rw [show xfw (fun S => xpe (s 143) (xand (xshl 1 n - 1) (xxor S (-1))) n.toNat) (i + 1) = if (xfw (fun S => xpe (s 143) (xand (xshl 1 n - 1) (xxor S (-1))) n.toNat) i < 0 ∨ xbc i < xbc (xfw (fun S => xpe (s 143) (xand (xshl 1 n - 1) (xxor S (-1))) n.toNat) i)) ∧ xpe (s 143) (xand (xshl 1 n - 1) (xxor i (-1))) n.toNat = true then (i : Int) else xfw (fun S => xpe (s 143) (xand (xshl 1 n - 1) (xxor S (-1))) n.toNat) i from rfl] at next
    rw [← next, F_X11_fewest_22]
    simp only [xbp_s, xbd_s, xls, xli, xlt, xjn]
    rw [xw_sm (x := (i : Int)) (by omega) (by omega), xw_sm (x := xshl 1 n - 1) (by omega) (by omega), if_pos (by omega), isFewer_m hn (by omega) (by omega), hpc, show ((i : Int) + 1) = ((i + 1 : Nat) : Int) by omega]
    simp only [xbp_s, xbd_s, xls, xli, xlt, xjn, xif01]
    rw [xw_b01]
    generalize xfw (fun S => xpe (s 143) (xand (xshl 1 n - 1) (xxor S (-1))) n.toNat) i = F at *
    generalize xpe (s 143) (xand (xshl 1 n - 1) (xxor i (-1))) n.toNat = P at *
    by_cases w : F < 0 ∨ xbc i < xbc F
    · rw [if_pos w, if_pos (by decide)]
      cases P
      · rw [if_neg (by decide), if_neg (by simp)]
      · rw [if_pos (by decide), if_pos ⟨w, rfl⟩]
    · rw [if_neg w, if_neg (by decide), if_neg (fun z => w z.1)]
theorem xfw_end {p : Int → Bool} {N : Nat} (hN : 0 < N) (h : p ((N - 1 : Nat) : Int) = true) : 0 ≤ xfw p N := by
  obtain ⟨k, rfl⟩ : ∃ k, N = k + 1 := ⟨N - 1, by omega⟩
  have hr := xfw_r p k
  unfold xfw
  by_cases q : xfw p k < 0
  · rw [if_pos ⟨Or.inl q, h⟩]
    omega
  · split <;> omega
theorem xfw_congr {p q : Int → Bool} : ∀ k : Nat, (∀ i : Int, 0 ≤ i → i < k → p i = q i) → xfw p k = xfw q k
  | 0, _ => rfl
  | k + 1, h => by
    unfold xfw
    rw [xfw_congr k (fun i a b => h i a (by omega)), h k (by omega) (by omega)]
theorem op_fewest : XO F_X10_fewest F_X11_fewest := by
  intro B σ τ hB hB1 h
  obtain ⟨s, t, a1, a2, a3, a4, a5, a6, a7⟩ := foes_d hB1 h
  have hnd := h.2.2.2.2.1.2.2.1
  have hal := all_b hnd
  obtain ⟨x, y, b1, b2, b3⟩ := fewest_loopC (n := σ 92 0) (s := s) (k := fun (l2_22 : Int) (l3_23 : Int) (l4_24 : Int) => xbp (F_X6_tell (xw l3_23) s) fun s26 => some (l2_22, s26)) hnd a3 (xshl 1 (σ 92 0)).toNat 0 xN (σ 92 0 + 1) 0 (by omega) (by have := xN_ge; omega) rfl rfl
  have c1 := fewest_loopM (n := σ 92 0) (s := t) (k := fun (l2_25 : Int) (l3_26 : Int) => xls (xu t 121 1 0) fun s27 => xbp (F_X11_enters (xw l2_25) s27) fun s30 => some ((xbc l2_25), s30)) hnd a4 (xshl 1 (σ 92 0)).toNat 0 xN (by omega) (by have := xN_ge; omega)
  have hsame : xfw (fun S => xpe (t 143) (xand (xshl 1 (σ 92 0) - 1) (xxor S (-1))) (σ 92 0).toNat) (xshl 1 (σ 92 0)).toNat = xfw (fun S => xpe (s 107) (xand (xshl 1 (σ 92 0) - 1) (xxor S (-1))) (σ 92 0).toNat) (xshl 1 (σ 92 0)).toNat := xfw_congr _ (fun i _ _ => xpe_congr _ (fun d x y => (a7 d x (by omega)).symm))
  rw [hsame] at c1
  have hend := xfw_end (p := fun S => xpe (s 107) (xand (xshl 1 (σ 92 0) - 1) (xxor S (-1))) (σ 92 0).toNat) (N := (xshl 1 (σ 92 0)).toNat) (by omega) (by
    show xpe (s 107) (xand (xshl 1 (σ 92 0) - 1) (xxor (((xshl 1 (σ 92 0)).toNat - 1 : Nat) : Int) (-1))) (σ 92 0).toNat = true
    rw [show (((xshl 1 (σ 92 0)).toNat - 1 : Nat) : Int) = xshl 1 (σ 92 0) - 1 by omega, hal.2.1]
    exact xpe_0 _ (by omega))
  have hr := xfw_r (fun S => xpe (s 107) (xand (xshl 1 (σ 92 0) - 1) (xxor S (-1))) (σ 92 0).toNat) (xshl 1 (σ 92 0)).toNat
  generalize xfw (fun S => xpe (s 107) (xand (xshl 1 (σ 92 0) - 1) (xxor S (-1))) (σ 92 0).toNat) (xshl 1 (σ 92 0)).toNat = F at *
  rw [if_neg (by omega)] at b2 b3
  rw [b2, b3] at b1
  have eC : F_X10_fewest σ = some (xbc F, xt1 s F) := by
    unfold F_X10_fewest
    rw [a1]
    simp only [xbp_s, xbd_s, xls, xli, xlt, xjn]
    rw [a3]
    refine Eq.trans b1 ?_
    rw [xw_sm (by omega) (by omega), tell_1]
    rfl
  have eM : F_X11_fewest τ = some (xbc F, xe1 t F) := by
    unfold F_X11_fewest
    simp only [xbp_s, xbd_s, xls, xli, xlt, xjn]
    rw [a2]
    simp only [xbp_s, xbd_s, xls, xli, xlt, xjn]
    rw [a4]
    refine Eq.trans c1 ?_
    simp only [xbp_s, xbd_s, xls, xli, xlt, xjn]
    rw [xw_sm (by omega) (by omega), ent_1]
    rfl
  exact ⟨_, _, _, eC, eM, XR_W (fr_X10_fewest eC) (by decide +kernel) (fr_X11_fewest eM) (by decide +kernel) h (Xrow_1 (a := F) rfl (by simp [xt1, xu]) rfl (by simp [xe1, xu]))⟩
/-- the lengths of a set together -/
def xle (l : Int → Int) (S : Int) : Nat → Int := xsum (fun d => b01 (xbt S d) * l d)
theorem xle_r {l : Int → Int} {S : Int} (n : Nat) (hl : ∀ d : Int, 0 ≤ d → d < n → 0 ≤ l d ∧ l d ≤ 9) : 0 ≤ xle l S n ∧ xle l S n ≤ 9 * n := xsum_r n (fun i a b => by
  have h1 := hl i a b
  have h2 := b01_r (xbt S i)
  rcases (by omega : b01 (xbt S i) = 0 ∨ b01 (xbt S i) = 1) with z | z <;> rw [z] <;> omega)
theorem lengths_c {S : Int} {s : xW} (hS : 0 ≤ S ∧ S < 256) (hn : 0 ≤ s 92 0 ∧ s 92 0 ≤ 8) : F_X10_lengthsOf S s = some (xle (s 20) S (s 92 0).toNat) := by
  have key : ∀ (j i f : Nat), (i : Int) + j = s 92 0 → j < f → F_X10_lengthsOf_4 S s f (xle (s 20) S i) i (fun (l2_9 : Int) (l3_10 : Int) => some l2_9) = some (xle (s 20) S (s 92 0).toNat) := by
    intro j
    induction j with
    | zero =>
      intro i f hi hf
      obtain ⟨f, rfl⟩ : ∃ f', f = f' + 1 := ⟨f - 1, by omega⟩
      unfold F_X10_lengthsOf_4
      rw [xw_sm (by omega) (by omega), xw_sm (by omega) (by omega), if_neg (by omega), show (s 92 0).toNat = i by omega]
    | succ j ih =>
      intro i f hi hf
      obtain ⟨f, rfl⟩ : ∃ f', f = f' + 1 := ⟨f - 1, by omega⟩
      unfold F_X10_lengthsOf_4
      rw [xw_sm (by omega) (by omega), xw_sm (by omega) (by omega), if_pos (by omega), xgd_t (by omega), (bit_b hS (by omega)).1, show ((i : Int) + 1) = ((i + 1 : Nat) : Int) by omega]
      exact ih (i + 1) f (by omega) (by omega)
  unfold F_X10_lengthsOf
  exact key (s 92 0).toNat 0 xN (by omega) (by have := xN_ge; omega)
theorem length_m {S : Int} {s : xW} {l : Int → Int} (hS : 0 ≤ S ∧ S < 256) (hn : 0 ≤ s 121 4 ∧ s 121 4 ≤ 8) (hl : ∀ d, 0 ≤ d → d < s 121 4 → s 127 (24 + d) = l d) : F_X11_lengthOf S s = some (xle l S (s 121 4).toNat) := by
  have key : ∀ (j i f : Nat), (i : Int) + j = s 121 4 → j < f → F_X11_lengthOf_4 S s f (xle l S i) i (fun (l2_16 : Int) (l3_17 : Int) => some l2_16) = some (xle l S (s 121 4).toNat) := by
    intro j
    induction j with
    | zero =>
      intro i f hi hf
      obtain ⟨f, rfl⟩ : ∃ f', f = f' + 1 := ⟨f - 1, by omega⟩
      unfold F_X11_lengthOf_4
      rw [xw_sm (by omega) (by omega), xw_sm (by omega) (by omega), if_neg (by omega), show (s 121 4).toNat = i by omega]
    | succ j ih =>
      intro i f hi hf
      obtain ⟨f, rfl⟩ : ∃ f', f = f' + 1 := ⟨f - 1, by omega⟩
      have ih' := ih (i + 1) f (by omega) (by omega)
      have hx : xle l S (i + 1) = xle l S i + b01 (xbt S i) * l i := rfl
      rw [hx] at ih'
      unfold F_X11_lengthOf_4
      simp only [xbp_s, xbd_s, xls, xli, xlt, xjn]
      rw [xw_sm (x := (i : Int)) (by omega) (by omega), xw_sm (x := s 121 4) (by omega) (by omega), if_pos (by omega), xw_sm (x := S) (by omega) (by omega), has_m hS (by omega), show ((i : Int) + 1) = ((i + 1 : Nat) : Int) by omega]
      simp only [xbp_s, xbd_s, xls, xli, xlt, xjn]
      rw [xw_b01, hl i (by omega) (by omega)]
      cases hq : xbt S i
      · rw [hq] at ih'
        rw [if_neg (by decide)]
        rw [show b01 false = 0 from rfl, Int.zero_mul] at ih'
        exact ih'
      · rw [hq] at ih'
        rw [if_pos (by decide), xgd_t (by omega)]
        rw [show b01 true = 1 from rfl, Int.one_mul] at ih'
        exact ih'
  unfold F_X11_lengthOf
  exact key (s 121 4).toNat 0 xN (by omega) (by have := xN_ge; omega)
def xlo (L : Int → Int) (p : Int → Bool) : Nat → Int
  | 0 => 0
  | k + 1 => if (L (xlo L p k) < L (k + 1) ∨ (L (k + 1) = L (xlo L p k) ∧ xbc (xlo L p k) < xbc (k + 1))) ∧ p (k + 1) = true then (k : Int) + 1 else xlo L p k
theorem xlo_r (L : Int → Int) (p : Int → Bool) : ∀ k : Nat, 0 ≤ xlo L p k ∧ xlo L p k ≤ k
  | 0 => (by decide : (0 : Int) ≤ 0 ∧ (0 : Int) ≤ ((0 : Nat) : Int))
  | k + 1 => by
    have h := xlo_r L p k
    unfold xlo
    split <;> omega
