theorem xlo_congr {L M : Int → Int} {p q : Int → Bool} : ∀ k : Nat, (∀ i : Int, 0 ≤ i → i ≤ k → L i = M i ∧ p i = q i) → xlo L p k = xlo M q k
  | 0, _ => rfl
  | k + 1, h => by
    have hr := xlo_r M q k
    have e := xlo_congr k (fun i a b => h i a (by omega))
    unfold xlo
    rw [e, (h ((k : Int) + 1) (by omega) (by omega)).1, (h ((k : Int) + 1) (by omega) (by omega)).2, (h (xlo M q k) hr.1 (by omega)).1]
theorem longest_loopC {n : Int} {s : xW} {k : Int → Int → Int → Option (Int × xW)} (hn : 0 ≤ n ∧ n ≤ 8) (e0 : s 92 0 = n) (hl : ∀ d : Int, 0 ≤ d → d < n → 0 ≤ s 20 d ∧ s 20 d ≤ 9) :
    ∀ (j i f : Nat), (i : Int) + 1 + j = xshl 1 n → j < f → F_X10_longest_12 (xshl 1 n - 1) s f (xle (s 20) (xlo (fun S => xle (s 20) S n.toNat) (fun S => xpe (s 107) S n.toNat) i) n.toNat) (xlo (fun S => xle (s 20) S n.toNat) (fun S => xpe (s 107) S n.toNat) i) ((i : Int) + 1) k = k (xle (s 20) (xlo (fun S => xle (s 20) S n.toNat) (fun S => xpe (s 107) S n.toNat) ((xshl 1 n).toNat - 1)) n.toNat) (xlo (fun S => xle (s 20) S n.toNat) (fun S => xpe (s 107) S n.toNat) ((xshl 1 n).toNat - 1)) (xshl 1 n) := by
  have hal := all_b hn
  have hlr : ∀ S, 0 ≤ xle (s 20) S n.toNat ∧ xle (s 20) S n.toNat ≤ 72 := fun S => by
    have := xle_r (l := s 20) (S := S) n.toNat (fun d a b => hl d a (by omega))
    omega
  intro j
  induction j with
  | zero =>
    intro i f hi hf
    obtain ⟨f, rfl⟩ : ∃ f', f = f' + 1 := ⟨f - 1, by omega⟩
    rw [F_X10_longest_12, xw_sm (by omega) (by omega), xw_sm (by omega) (by omega), if_neg (by omega), show (xshl 1 n).toNat - 1 = i by omega, show xshl 1 n = (i : Int) + 1 by omega]
  | succ j ih =>
    intro i f hi hf
    obtain ⟨f, rfl⟩ : ∃ f', f = f' + 1 := ⟨f - 1, by omega⟩
    have hs := set_b (S := (i : Int) + 1) hn (by omega)
    have hr := xlo_r (fun S => xle (s 20) S n.toNat) (fun S => xpe (s 107) S n.toNat) i
    have hs2 := set_b (S := xlo (fun S => xle (s 20) S n.toNat) (fun S => xpe (s 107) S n.toNat) i) hn (by omega)
    have hpc := peaceful_c (S := (i : Int) + 1) (s := s) (by omega) (by rw [e0]; exact hn)
    have hlc := lengths_c (S := (i : Int) + 1) (s := s) (by omega) (by rw [e0]; exact hn)
    rw [e0] at hpc hlc
    have next := ih (i + 1) f (by omega) (by omega)
    have hxs : xlo (fun S => xle (s 20) S n.toNat) (fun S => xpe (s 107) S n.toNat) (i + 1) = if (xle (s 20) (xlo (fun S => xle (s 20) S n.toNat) (fun S => xpe (s 107) S n.toNat) i) n.toNat < xle (s 20) ((i : Int) + 1) n.toNat ∨ (xle (s 20) ((i : Int) + 1) n.toNat = xle (s 20) (xlo (fun S => xle (s 20) S n.toNat) (fun S => xpe (s 107) S n.toNat) i) n.toNat ∧ xbc (xlo (fun S => xle (s 20) S n.toNat) (fun S => xpe (s 107) S n.toNat) i) < xbc ((i : Int) + 1))) ∧ xpe (s 107) ((i : Int) + 1) n.toNat = true then (i : Int) + 1 else xlo (fun S => xle (s 20) S n.toNat) (fun S => xpe (s 107) S n.toNat) i := rfl
    rw [show ((i + 1 : Nat) : Int) = (i : Int) + 1 by omega] at next
    have l1 := hlr ((i : Int) + 1)
    have l2 := hlr (xlo (fun S => xle (s 20) S n.toNat) (fun S => xpe (s 107) S n.toNat) i)
    rw [← next, F_X10_longest_12]
    simp only [xbp_s, xbd_s, xls, xli, xlt, xjn]
    rw [xw_sm (x := (i : Int) + 1) (by omega) (by omega), xw_sm (x := xshl 1 n - 1) (by omega) (by omega), if_pos (by omega), hlc, hpc]
    simp only [xbp_s, xbd_s, xls, xli, xlt, xjn]
    rw [xw_b01]
    generalize xlo (fun S => xle (s 20) S n.toNat) (fun S => xpe (s 107) S n.toNat) (i + 1) = G at *
    generalize hFF : xlo (fun S => xle (s 20) S n.toNat) (fun S => xpe (s 107) S n.toNat) i = F at *
    generalize hA0 : xle (s 20) ((i : Int) + 1) n.toNat = A at *
    generalize hC0 : xle (s 20) F n.toNat = C at *
    generalize xpe (s 107) ((i : Int) + 1) n.toNat = P at *
    rw [xw_sm (x := A) (by omega) (by omega), xw_sm (x := C) (by omega) (by omega), xw_sm (x := xbc F) (by omega) (by omega), xw_sm (x := xbc ((i : Int) + 1)) (by omega) (by omega)]
    have no : ¬ (C < A ∨ (A = C ∧ xbc F < xbc ((i : Int) + 1))) → F_X10_longest_12 (xshl 1 n - 1) s f C F ((i : Int) + 1 + 1) k = F_X10_longest_12 (xshl 1 n - 1) s f (xle (s 20) G n.toNat) G ((i : Int) + 1 + 1) k := fun w => by
      have hG : G = F := by rw [hxs, if_neg (fun z => w z.1)]
      rw [hG, hC0]
    have yes : (C < A ∨ (A = C ∧ xbc F < xbc ((i : Int) + 1))) → (if b01 P ≠ 0 then F_X10_longest_12 (xshl 1 n - 1) s f A ((i : Int) + 1) ((i : Int) + 1 + 1) k else F_X10_longest_12 (xshl 1 n - 1) s f C F ((i : Int) + 1 + 1) k) = F_X10_longest_12 (xshl 1 n - 1) s f (xle (s 20) G n.toNat) G ((i : Int) + 1 + 1) k := fun w => by
      cases P
      · have hG : G = F := by rw [hxs, if_neg (fun z => nomatch z.2)]
        rw [hG, hC0, if_neg (by decide)]
      · have hG : G = (i : Int) + 1 := by rw [hxs, if_pos ⟨w, rfl⟩]
        rw [hG, hA0, if_pos (by decide)]
    rw [if_pos (show xw 1 ≠ 0 by decide), if_neg (show ¬ xw 0 ≠ 0 by decide)]
    by_cases w1 : A ≤ C
    · rw [if_pos w1]
      by_cases w2 : A = C
      · rw [if_pos w2]
        by_cases w3 : xbc F < xbc ((i : Int) + 1)
        · rw [if_pos w3]
          exact yes (Or.inr ⟨w2, w3⟩)
        · rw [if_neg w3]
          exact no (by omega)
      · rw [if_neg w2]
        exact no (by omega)
    · rw [if_neg w1]
      exact yes (Or.inl (by omega))
theorem longest_loopM {n : Int} {s : xW} {l : Int → Int} {k : Int → Int → Option (Int × xW)} (hn : 0 ≤ n ∧ n ≤ 8) (e0 : s 121 4 = n) (hl : ∀ d : Int, 0 ≤ d → d < n → 0 ≤ l d ∧ l d ≤ 9) (hls : ∀ d, 0 ≤ d → d < s 121 4 → s 127 (24 + d) = l d) :
    ∀ (j i f : Nat), (i : Int) + 1 + j = xshl 1 n → j < f → F_X11_longest_13 s f (xlo (fun S => xle l S n.toNat) (fun S => xpe (s 143) S n.toNat) i) ((i : Int) + 1) k = k (xlo (fun S => xle l S n.toNat) (fun S => xpe (s 143) S n.toNat) ((xshl 1 n).toNat - 1)) (xshl 1 n) := by
  have hal := all_b hn
  have hlr : ∀ S, 0 ≤ xle l S n.toNat ∧ xle l S n.toNat ≤ 72 := fun S => by
    have := xle_r (l := l) (S := S) n.toNat (fun d a b => hl d a (by omega))
    omega
  intro j
  induction j with
  | zero =>
    intro i f hi hf
    obtain ⟨f, rfl⟩ : ∃ f', f = f' + 1 := ⟨f - 1, by omega⟩
    rw [F_X11_longest_13, e0, xw_sm (by omega) (by omega), xw_sm (by omega) (by omega), if_neg (by omega), show (xshl 1 n).toNat - 1 = i by omega, show xshl 1 n = (i : Int) + 1 by omega]
  | succ j ih =>
    intro i f hi hf
    obtain ⟨f, rfl⟩ : ∃ f', f = f' + 1 := ⟨f - 1, by omega⟩
    have hs := set_b (S := (i : Int) + 1) hn (by omega)
    have hr := xlo_r (fun S => xle l S n.toNat) (fun S => xpe (s 143) S n.toNat) i
    have hs2 := set_b (S := xlo (fun S => xle l S n.toNat) (fun S => xpe (s 143) S n.toNat) i) hn (by omega)
    have hpc := peace_m (S := (i : Int) + 1) (s := s) (by omega) (by rw [e0]; exact hn)
    have hlc := length_m (S := (i : Int) + 1) (s := s) (l := l) (by omega) (by rw [e0]; exact hn) hls
    have hlc2 := length_m (S := xlo (fun S => xle l S n.toNat) (fun S => xpe (s 143) S n.toNat) i) (s := s) (l := l) (by omega) (by rw [e0]; exact hn) hls
    rw [e0] at hpc hlc hlc2
    have next := ih (i + 1) f (by omega) (by omega)
    have hxs : xlo (fun S => xle l S n.toNat) (fun S => xpe (s 143) S n.toNat) (i + 1) = if (xle l (xlo (fun S => xle l S n.toNat) (fun S => xpe (s 143) S n.toNat) i) n.toNat < xle l ((i : Int) + 1) n.toNat ∨ (xle l ((i : Int) + 1) n.toNat = xle l (xlo (fun S => xle l S n.toNat) (fun S => xpe (s 143) S n.toNat) i) n.toNat ∧ xbc (xlo (fun S => xle l S n.toNat) (fun S => xpe (s 143) S n.toNat) i) < xbc ((i : Int) + 1))) ∧ xpe (s 143) ((i : Int) + 1) n.toNat = true then (i : Int) + 1 else xlo (fun S => xle l S n.toNat) (fun S => xpe (s 143) S n.toNat) i := rfl
    rw [show ((i + 1 : Nat) : Int) = (i : Int) + 1 by omega] at next
    have l1 := hlr ((i : Int) + 1)
    have l2 := hlr (xlo (fun S => xle l S n.toNat) (fun S => xpe (s 143) S n.toNat) i)
    rw [← next, F_X11_longest_13]
    simp only [xbp_s, xbd_s, xls, xli, xlt, xjn]
    rw [e0, xw_sm (x := (i : Int) + 1) (by omega) (by omega), xw_sm (x := xshl 1 n) (by omega) (by omega), if_pos (by omega), hlc, hlc2, hpc]
    simp only [xbp_s, xbd_s, xls, xli, xlt, xjn]
    rw [xw_b01]
    generalize xlo (fun S => xle l S n.toNat) (fun S => xpe (s 143) S n.toNat) (i + 1) = G at *
    generalize xlo (fun S => xle l S n.toNat) (fun S => xpe (s 143) S n.toNat) i = F at *
    generalize xle l ((i : Int) + 1) n.toNat = A at *
    generalize xle l F n.toNat = C at *
    generalize xpe (s 143) ((i : Int) + 1) n.toNat = P at *
    rw [xw_sm (x := A - C) (by omega) (by omega), xw_sm (x := xbc F) (by omega) (by omega), xw_sm (x := xbc ((i : Int) + 1)) (by omega) (by omega)]
    have no : ¬ (C < A ∨ (A = C ∧ xbc F < xbc ((i : Int) + 1))) → F_X11_longest_13 s f F ((i : Int) + 1 + 1) k = F_X11_longest_13 s f G ((i : Int) + 1 + 1) k := fun w => by
      have hG : G = F := by rw [hxs, if_neg (fun z => w z.1)]
      rw [hG]
    have yes : (C < A ∨ (A = C ∧ xbc F < xbc ((i : Int) + 1))) → (if b01 P ≠ 0 then F_X11_longest_13 s f ((i : Int) + 1) ((i : Int) + 1 + 1) k else F_X11_longest_13 s f F ((i : Int) + 1 + 1) k) = F_X11_longest_13 s f G ((i : Int) + 1 + 1) k := fun w => by
      cases P
      · have hG : G = F := by rw [hxs, if_neg (fun z => nomatch z.2)]
        rw [hG, if_neg (by decide)]
      · have hG : G = (i : Int) + 1 := by rw [hxs, if_pos ⟨w, rfl⟩]
        rw [hG, if_pos (by decide)]
    rw [if_pos (show xw 1 ≠ 0 by decide), if_neg (show ¬ xw 0 ≠ 0 by decide)]
    by_cases w1 : A - C ≤ 0
    · rw [if_pos w1]
      by_cases w2 : A - C = 0
      · rw [if_pos w2]
        by_cases w3 : xbc F < xbc ((i : Int) + 1)
        · rw [if_pos w3]
          exact yes (Or.inr ⟨by omega, w3⟩)
        · rw [if_neg w3]
          exact no (by omega)
      · rw [if_neg w2]
        exact no (by omega)
    · rw [if_neg w1]
      exact yes (Or.inl (by omega))
theorem xle_0 (l : Int → Int) : ∀ n : Nat, n ≤ 8 → xle l 0 n = 0
  | 0, _ => rfl
  | n + 1, h => by
    have e := xle_0 l n (by omega)
    show xle l 0 n + b01 (xbt 0 n) * l n = 0
    rw [e, xbt_0 (by omega), show b01 false = 0 from rfl, Int.zero_mul]
    rfl
theorem op_longest : XO F_X10_longest F_X11_longest := by
  intro B σ τ hB hB1 h
  obtain ⟨s, t, a1, a2, a3, a4, a5, a6, a7⟩ := foes_d hB1 h
  have hnd := h.2.2.2.2.1.2.2.1
  have h6 := h.2.2.2.2.2.1
  have hal := all_b hnd
  have hl : ∀ d : Int, 0 ≤ d → d < σ 92 0 → 0 ≤ σ 20 d ∧ σ 20 d ≤ 9 := fun d x y => by
    have z1 := (h6.2.2.2 d x y).2
    have z2 := h6.1.2.2.2 d x (by omega)
    omega
  have b1 := longest_loopC (n := σ 92 0) (s := s) (k := fun (l2_37 : Int) (l3_38 : Int) (l4_39 : Int) => xbp (F_X6_tell (xw l3_38) s) fun s41 => some (l2_37, s41)) hnd a3 (by rw [a5]; exact hl)
  have c1 := longest_loopM (n := σ 92 0) (s := t) (l := σ 20) (k := fun (l1_39 : Int) (l2_40 : Int) => xls (xu t 121 1 0) fun s41 => xbp (F_X11_enters (xw l1_39) s41) fun s44 => xbp (F_X11_lengthOf l1_39 s44) fun r46 => some (r46, s44)) hnd a4 hl (by rw [a4]; exact a6) ((xshl 1 (σ 92 0)).toNat - 1) 0 xN (by omega) (by have := xN_ge; omega)
  obtain ⟨f, hf, hf2⟩ := xN_s
  have b2 := b1 ((xshl 1 (σ 92 0)).toNat - 1) 0 f (by omega) (by omega)
  rw [a5] at b2
  have hsame : xlo (fun S => xle (σ 20) S (σ 92 0).toNat) (fun S => xpe (t 143) S (σ 92 0).toNat) ((xshl 1 (σ 92 0)).toNat - 1) = xlo (fun S => xle (σ 20) S (σ 92 0).toNat) (fun S => xpe (s 107) S (σ 92 0).toNat) ((xshl 1 (σ 92 0)).toNat - 1) := xlo_congr _ (fun i _ _ => ⟨rfl, xpe_congr _ (fun d x y => (a7 d x (by omega)).symm)⟩)
  rw [hsame] at c1
  have hr := xlo_r (fun S => xle (σ 20) S (σ 92 0).toNat) (fun S => xpe (s 107) S (σ 92 0).toNat) ((xshl 1 (σ 92 0)).toNat - 1)
  have e0 : xlo (fun S => xle (σ 20) S (σ 92 0).toNat) (fun S => xpe (s 107) S (σ 92 0).toNat) 0 = 0 := rfl
  rw [e0, xle_0 _ _ (by omega)] at b2
  generalize hG : xlo (fun S => xle (σ 20) S (σ 92 0).toNat) (fun S => xpe (s 107) S (σ 92 0).toNat) ((xshl 1 (σ 92 0)).toNat - 1) = G at *
  have hlc := lengths_c (S := 0) (s := s) (by decide) (by rw [a3]; exact hnd)
  rw [a3, xle_0 _ _ (by omega)] at hlc
  have b3 : F_X10_longest_12 (xshl 1 (σ 92 0) - 1) s xN 0 0 0 (fun (l2_37 : Int) (l3_38 : Int) (l4_39 : Int) => xbp (F_X6_tell (xw l3_38) s) fun s41 => some (l2_37, s41)) = some (xle (σ 20) G (σ 92 0).toNat, xt1 s G) := by
    rw [hf, F_X10_longest_12]
    simp only [xbp_s, xbd_s, xls, xli, xlt, xjn]
    rw [xw_sm (x := xshl 1 (σ 92 0) - 1) (by omega) (by omega), if_pos (show xw 0 ≤ xshl 1 (σ 92 0) - 1 by rw [xw_sm (by decide) (by decide)]; omega), hlc]
    simp only [xbp_s, xbd_s, xls, xli, xlt, xjn]
    rw [if_pos (show xw 0 ≤ xw 0 from Int.le_refl _), if_pos trivial, if_neg (show ¬ xw (xbc 0) < xw (xbc 0) from Int.lt_irrefl _), if_neg (show ¬ xw 0 ≠ 0 by decide)]
    refine Eq.trans b2 ?_
    rw [xw_sm (by omega) (by omega), tell_1]
    rfl
  have eC : F_X10_longest σ = some (xle (σ 20) G (σ 92 0).toNat, xt1 s G) := by
    unfold F_X10_longest
    rw [a1]
    exact b3
  have hGs := set_b (S := G) hnd (by omega)
  have hlm := length_m (S := G) (s := xe1 t G) (l := σ 20) (by omega) (by rw [xe1_k (by decide), a4]; exact hnd) (by rw [xe1_k (by decide), a4, xe1_o (by decide) (by decide)]; exact a6)
  rw [xe1_k (by decide), a4] at hlm
  have eM : F_X11_longest τ = some (xle (σ 20) G (σ 92 0).toNat, xe1 t G) := by
    unfold F_X11_longest
    simp only [xbp_s, xbd_s, xls, xli, xlt, xjn]
    rw [a2]
    simp only [xbp_s, xbd_s, xls, xli, xlt, xjn]
    refine Eq.trans c1 ?_
    simp only [xbp_s, xbd_s, xls, xli, xlt, xjn]
    rw [xw_sm (by omega) (by omega), ent_1]
    simp only [xbp_s, xbd_s, xls, xli, xlt, xjn]
    rw [hlm]
    rfl
  exact ⟨_, _, _, eC, eM, XR_W (fr_X10_longest eC) (by decide +kernel) (fr_X11_longest eM) (by decide +kernel) h (Xrow_1 (a := G) rfl (by simp [xt1, xu]) rfl (by simp [xe1, xu]))⟩
