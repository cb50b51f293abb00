theorem xlo_congr {L M : Int → Int} {p q : Int → Bool} : ∀ k : Nat, (∀ i : Int, 0 ≤ i → i ≤ k → L i = M i ∧ p i = q i) → xlo L p k = xlo M q k
  | 0, _ => rfl
  | k + 1, h => by
    have hr := xlo_r M q k
    have e := xlo_congr k (fun i a b => h i a (by omega))
    unfold xlo
    rw [e, (h ((k : Int) + 1) (by omega) (by omega)).1, (h ((k : Int) + 1) (by omega) (by omega)).2, (h (xlo M q k) hr.1 (by omega)).1]
theorem longest_loopC {n : Int} {s : xW} {k : Int → Int → Int → Option (Int × xW)} (hn : 0 ≤ n ∧ n ≤ 8) (e0 : s 92 0 = n) (hl : ∀ d : Int, 0 ≤ d → d < n → 0 ≤ s 20 d ∧ s 20 d ≤ 9) :
    ∀ (j i f : Nat), (i : Int) + 1 + j = xshl 1 n → j < f → F_X10_longest_12 (xshl 1 n - 1) s f (xle (s 20) (xlo (fun S => xle (s 20) S n.toNat) (fun S => xpe (s 107) S n.toNat) i) n.toNat) (xlo (fun S => xle (s 20) S n.toNat) (fun S => xpe (s 107) S n.toNat) i) ((i : Int) + 1) k = k (xle (s 20) (xlo (fun S => xle (s 20) S n.toNat) (fun S => xpe (s 107) S n.toNat) ((xshl 1 n).toNat - 1)) n.toNat) (xlo (fun S => xle (s 20) S n.toNat) (fun S => xpe (s 107) S n.toNat) ((xshl 1 n).toNat - 1)) (xshl 1 n) := by
  have hal := all_b hn
  have hlr : ∀ S, 0 ≤ xle (s 20) S n.toNat ∧ xle (s 20) S n.toNat ≤ 72 := fun S => by
    have := xle_r (l := s 20) (S := S) n.toNat (fun d a b => hl d a (by omega))
    omega
  intro j
  induction j with
  | zero =>
    intro i f hi hf
    obtain ⟨f, rfl⟩ : ∃ f', f = f' + 1 := ⟨f - 1, by omega⟩
    rw [F_X10_longest_12, xw_sm (by omega) (by omega), xw_sm (by omega) (by omega), if_neg (by omega), show (xshl 1 n).toNat - 1 = i by omega, show xshl 1 n = (i : Int) + 1 by omega]
  | succ j ih =>
    intro i f hi hf
    obtain ⟨f, rfl⟩ : ∃ f', f = f' + 1 := ⟨f - 1, by omega⟩
    have hs := set_b (S := (i : Int) + 1) hn (by omega)
    have hr := xlo_r (fun S => xle (s 20) S n.toNat) (fun S => xpe (s 107) S n.toNat) i
    have hs2 := set_b (S := xlo (fun S => xle (s 20) S n.toNat) (fun S => xpe (s 107) S n.toNat) i) hn (by omega)
    have hpc := peaceful_c (S := (i : Int) + 1) (s := s) (by omega) (by rw [e0]; exact hn)
    have hlc := lengths_c (S := (i : Int) + 1) (s := s) (by omega) (by rw [e0]; exact hn)
    rw [e0] at hpc hlc
    have next := ih (i + 1) f (by omega) (by omega)
    have hxs : xlo (fun S => xle (s 20) S n.toNat) (fun S => xpe (s 107) S n.toNat) (i + 1) = if (xle (s 20) (xlo (fun S => xle (s 20) S n.toNat) (fun S => xpe (s 107) S n.toNat) i) n.toNat < xle (s 20) ((i : Int) + 1) n.toNat ∨ (xle (s 20) ((i : Int) + 1) n.toNat = xle (s 20) (xlo (fun S => xle (s 20) S n.toNat) (fun S => xpe (s 107) S n.toNat) i) n.toNat ∧ xbc (xlo (fun S => xle (s 20) S n.toNat) (fun S => xpe (s 107) S n.toNat) i) < xbc ((i : Int) + 1))) ∧ xpe (s 107) ((i : Int) + 1) n.toNat = true then (i : Int) + 1 else xlo (fun S => xle (s 20) S n.toNat) (fun S => xpe (s 107) S n.toNat) i := rfl
    rw [show ((i + 1 : Nat) : Int) = (i : Int) + 1 by omega] at next
    have l1 := hlr ((i : Int) + 1)
    have l2 := hlr (xlo (fun S => xle (s 20) S n.toNat) (fun S => xpe (s 107) S n.toNat) i)
    rw [← next, F_X10_longest_12]
    simp only [xbp_s, xbd_s, xls, xli, xlt, xjn]
    rw [xw_sm (x := (i : Int) + 1) (by omega) (by omega), xw_sm (x := xshl 1 n - 1) (by omega) (by omega), if_pos (by omega), hlc, hpc]
    simp only [xbp_s, xbd_s, xls, xli, xlt, xjn]
    rw [xw_b01]
    generalize xlo (fun S => xle (s 20) S n.toNat) (fun S => xpe (s 107) S n.toNat) (i + 1) = G at *
    generalize hFF : xlo (fun S => xle (s 20) S n.toNat) (fun S => xpe (s 107) S n.toNat) i = F at *
    generalize hA0 : xle (s 20) ((i : Int) + 1) n.toNat = A at *
    generalize hC0 : xle (s 20) F n.toNat = C at *
    generalize xpe (s 107) ((i : Int) + 1) n.toNat = P at *
    rw [xw_sm (x := A) (by omega) (by omega), xw_sm (x := C) (by omega) (by omega), xw_sm (x := xbc F) (by omega) (by omega), xw_sm (x := xbc ((i : Int) + 1)) (by omega) (by omega)]
    have no : ¬ (C < A ∨ (A = C ∧ xbc F < xbc ((i : Int) + 1))) → F_X10_longest_12 (xshl 1 n - 1) s f C F ((i : Int) + 1 + 1) k = F_X10_longest_12 (xshl 1 n - 1) s f (xle (s 20) G n.toNat) G ((i : Int) + 1 + 1) k := fun w => by
      have hG : G = F := by rw [hxs, if_neg (fun z => w z.1)]
      rw [hG, hC0]
    have yes : (C < A ∨ (A = C ∧ xbc F < xbc ((i : Int) + 1))) → (if b01 P ≠ 0 then F_X10_longest_12 (xshl 1 n - 1) s f A ((i : Int) + 1) ((i : Int) + 1 + 1) k else F_X10_longest_12 (xshl 1 n - 1) s f C F ((i : Int) + 1 + 1) k) = F_X10_longest_12 (xshl 1 n - 1) s f (xle (s 20) G n.toNat) G ((i : Int) + 1 + 1) k := fun w => by
      cases P
      · have hG : G = F := by rw [hxs, if_neg (fun z => nomatch z.2)]
        rw [hG, hC0, if_neg (by decide)]
      · have hG : G = (i : Int) + 1 := by rw [hxs, if_pos ⟨w, rfl⟩]
        rw [hG, hA0, if_pos (by decide)]
    rw [if_pos (show xw 1 ≠ 0 by decide), if_neg (show ¬ xw 0 ≠ 0 by decide)]
    by_cases w1 : A ≤ C
    · rw [if_pos w1]
      by_cases w2 : A = C
      · rw [if_pos w2]
        by_cases w3 : xbc F < xbc ((i : Int) + 1)
        · rw [if_pos w3]
          exact yes (Or.inr ⟨w2, w3⟩)
        · rw [if_neg w3]
          exact no (by omega)
      · rw [if_neg w2]
        exact no (by omega)
    · rw [if_neg w1]
      exact yes (Or.inl (by omega))
theorem longest_loopM {n : Int} {s : xW} {l : Int → Int} {k : Int → Int → Option (Int × xW)} (hn : 0 ≤ n ∧ n ≤ 8) (e0 : s 121 4 = n) (hl : ∀ d : Int, 0 ≤ d → d < n → 0 ≤ l d ∧ l d ≤ 9) (hls : ∀ d, 0 ≤ d → d < s 121 4 → s 127 (24 + d) = l d) :
    ∀ (j i f : Nat), (i : Int) + 1 + j = xshl 1 n → j < f → F_X11_longest_13 s f (xlo (fun S => xle l S n.toNat) (fun S => xpe (s 143) S n.toNat) i) ((i : Int) + 1) k = k (xlo (fun S => xle l S n.toNat) (fun S => xpe (s 143) S n.toNat) ((xshl 1 n).toNat - 1)) (xshl 1 n) := by
  have hal := all_b hn
  have hlr : ∀ S, 0 ≤ xle l S n.toNat ∧ xle l S n.toNat ≤ 72 := fun S => by
    have := xle_r (l := l) (S := S) n.toNat (fun d a b => hl d a (by omega))
    omega
  intro j
  induction j with
  | zero =>
    intro i f hi hf
    obtain ⟨f, rfl⟩ : ∃ f', f = f' + 1 := ⟨f - 1, by omega⟩
    rw [F_X11_longest_13, e0, xw_sm (by omega) (by omega), xw_sm (by omega) (by omega), if_neg (by omega), show (xshl 1 n).toNat - 1 = i by omega, show xshl 1 n = (i : Int) + 1 by omega]
  | succ j ih =>
    intro i f hi hf
    obtain ⟨f, rfl⟩ : ∃ f', f = f' + 1 := ⟨f - 1, by omega⟩
    have hs := set_b (S := (i : Int) + 1) hn (by omega)
    have hr := xlo_r (fun S => xle l S n.toNat) (fun S => xpe (s 143) S n.toNat) i
    have hs2 := set_b (S := xlo (fun S => xle l S n.toNat) (fun S => xpe (s 143) S n.toNat) i) hn (by omega)
    have hpc := peace_m (S := (i : Int) + 1) (s := s) (by omega) (by rw [e0]; exact hn)
    have hlc := length_m (S := (i : Int) + 1) (s := s) (l := l) (by omega) (by rw [e0]; exact hn) hls
    have hlc2 := length_m (S := xlo (fun S => xle l S n.toNat) (fun S => xpe (s 143) S n.toNat) i) (s := s) (l := l) (by omega) (by rw [e0]; exact hn) hls
    rw [e0] at hpc hlc hlc2
    have next := ih (i + 1) f (by omega) (by omega)
    have hxs : xlo (fun S => xle l S n.toNat) (fun S => xpe (s 143) S n.toNat) (i + 1) = if (xle l (xlo (fun S => xle l S n.toNat) (fun S => xpe (s 143) S n.toNat) i) n.toNat < xle l ((i : Int) + 1) n.toNat ∨ (xle l ((i : Int) + 1) n.toNat = xle l (xlo (fun S => xle l S n.toNat) (fun S => xpe (s 143) S n.toNat) i) n.toNat ∧ xbc (xlo (fun S => xle l S n.toNat) (fun S => xpe (s 143) S n.toNat) i) < xbc ((i : Int) + 1))) ∧ xpe (s 143) ((i : Int) + 1) n.toNat = true then (i : Int) + 1 else xlo (fun S => xle l S n.toNat) (fun S => xpe (s 143) S n.toNat) i := rfl
    rw [show ((i + 1 : Nat) : Int) = (i : Int) + 1 by omega] at next
    have l1 := hlr ((i : Int) + 1)
    have l2 := hlr (xlo (fun S => xle l S n.toNat) (fun S => xpe (s 143) S n.toNat) i)
    rw [← next, F_X11_longest_13]
    simp only [xbp_s, xbd_s, xls, xli, xlt, xjn]
    rw [e0, xw_sm (x := (i : Int) + 1) (by omega) (by omega), xw_sm (x := xshl 1 n) (by omega) (by omega), if_pos (by omega), hlc, hlc2, hpc]
    simp only [xbp_s, xbd_s, xls, xli, xlt, xjn]
    rw [xw_b01]
    generalize xlo (fun S => xle l S n.toNat) (fun S => xpe (s 143) S n.toNat) (i + 1) = G at *
    generalize xlo (fun S => xle l S n.toNat) (fun S => xpe (s 143) S n.toNat) i = F at *
    generalize xle l ((i : Int) + 1) n.toNat = A at *
    generalize xle l F n.toNat = C at *
    generalize xpe (s 143) ((i : Int) + 1) n.toNat = P at *
    rw [xw_sm (x := A - C) (by omega) (by omega), xw_sm (x := xbc F) (by omega) (by omega), xw_sm (x := xbc ((i : Int) + 1)) (by omega) (by omega)]
    have no : ¬ (C < A ∨ (A = C ∧ xbc F < xbc ((i : Int) + 1))) → F_X11_longest_13 s f F ((i : Int) + 1 + 1) k = F_X11_longest_13 s f G ((i : Int) + 1 + 1) k := fun w => by
      have hG : G = F := by rw [hxs, if_neg (fun z => w z.1)]
      rw [hG]
    have yes : (C < A ∨ (A = C ∧ xbc F < xbc ((i : Int) + 1))) → (if b01 P ≠ 0 then F_X11_longest_13 s f ((i : Int) + 1) ((i : Int) + 1 + 1) k else F_X11_longest_13 s f F ((i : Int) + 1 + 1) k) = F_X11_longest_13 s f G ((i : Int) + 1 + 1) k := fun w => by
      cases P
      · have hG : G = F := by rw [hxs, if_neg (fun z => nomatch z.2)]
        rw [hG, if_neg (by decide)]
      · have hG : G = (i : Int) + 1 := by rw [hxs, if_pos ⟨w, rfl⟩]
        rw [hG, if_pos (by decide)]
    rw [if_pos (show xw 1 ≠ 0 by decide), if_neg (show ¬ xw 0 ≠ 0 by decide)]
    by_cases w1 : A - C ≤ 0
    · rw [if_pos w1]
      by_cases w2 : A - C = 0
      · rw [if_pos w2]
        by_cases w3 : xbc F < xbc ((i : Int) + 1)
        · rw [if_pos w3]
          exact yes (Or.inr ⟨by omega, w3⟩)
        · rw [if_neg w3]
          exact no (by omega)
      · rw [if_neg w2]
        exact no (by omega)
    · rw [if_neg w1]
      exact yes (Or.inl (by omega))
