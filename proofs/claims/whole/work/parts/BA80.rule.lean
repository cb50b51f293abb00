/-! rule: the reference reads -/
def Xrs (s : xW) (f : Int → Int) (p E : Nat) (dep : Int) (C : List Int) : Prop := Xat s f (p : Int) (E : Int) ∧ s 121 15 = 0 ∧ s 121 18 = dep ∧ s 121 24 = C.length ∧ Xmem s 132 C
theorem codes_r {s : xW} {f : Int → Int} {p E : Nat} {dep v : Int} {C : List Int} (h : Xrs s f p E dep C) (hl : C.length < 80) : ∃ s', F_X11_codes v s = some s' ∧ Xrs s' f p E dep (C ++ [v]) := by
  obtain ⟨h1, h2, h3, h4, h5⟩ := h
  refine ⟨xu (xu s 132 (s 121 24) v) 121 24 (s 121 24 + 1), ?_, Xat_o h1 ?_ ?_ ?_, ?_, ?_, ?_, ?_⟩
  · unfold F_X11_codes
    rw [xgd_t (by omega)]
    simp only [xbp_s, xbd_s, xls, xli, xlt, xjn]
    rw [xu_row s _ _ (show (121 : Int) ≠ 132 by decide)]
  · rw [xu_slot _ _ _ (show (16 : Int) ≠ 24 by decide), xu_row s _ _ (show (121 : Int) ≠ 132 by decide)]
  · rw [xu_slot _ _ _ (show (17 : Int) ≠ 24 by decide), xu_row s _ _ (show (121 : Int) ≠ 132 by decide)]
  · rw [xu_row _ _ _ (show (129 : Int) ≠ 121 by decide), xu_row _ _ _ (show (129 : Int) ≠ 132 by decide)]
  · rw [xu_slot _ _ _ (show (15 : Int) ≠ 24 by decide), xu_row s _ _ (show (121 : Int) ≠ 132 by decide)]; exact h2
  · rw [xu_slot _ _ _ (show (18 : Int) ≠ 24 by decide), xu_row s _ _ (show (121 : Int) ≠ 132 by decide)]; exact h3
  · rw [xu_same, h4, List.length_append]
    rfl
  · rw [h4]
    exact Xmem_o (Xmem_p h5) (fun i _ => by rw [xu_row _ _ _ (show (132 : Int) ≠ 121 by decide)])
theorem Xrs_u {s : xW} {f : Int → Int} {p E q : Nat} {dep : Int} {C : List Int} (h : Xrs s f p E dep C) (hq : q ≤ E) : Xrs (xu s 121 16 (q : Int)) f q E dep C := by
  obtain ⟨h1, h2, h3, h4, h5⟩ := h
  refine ⟨Xat_u h1 (by omega), ?_, ?_, ?_, Xmem_o h5 (fun i _ => by rw [xu_row _ _ _ (show (132 : Int) ≠ 121 by decide)])⟩
  · rw [xu_slot _ _ _ (show (15 : Int) ≠ 16 by decide)]; exact h2
  · rw [xu_slot _ _ _ (show (18 : Int) ≠ 16 by decide)]; exact h3
  · rw [xu_slot _ _ _ (show (24 : Int) ≠ 16 by decide)]; exact h4
theorem Xrs_d {s : xW} {f : Int → Int} {p E : Nat} {dep v : Int} {C : List Int} (h : Xrs s f p E dep C) : Xrs (xu s 121 18 v) f p E v C := by
  obtain ⟨h1, h2, h3, h4, h5⟩ := h
  refine ⟨Xat_o h1 ?_ ?_ ?_, ?_, xu_same _ _ _ _, ?_, Xmem_o h5 (fun i _ => by rw [xu_row _ _ _ (show (132 : Int) ≠ 121 by decide)])⟩
  · rw [xu_slot _ _ _ (show (16 : Int) ≠ 18 by decide)]
  · rw [xu_slot _ _ _ (show (17 : Int) ≠ 18 by decide)]
  · rw [xu_row _ _ _ (show (129 : Int) ≠ 121 by decide)]
  · rw [xu_slot _ _ _ (show (15 : Int) ≠ 18 by decide)]; exact h2
  · rw [xu_slot _ _ _ (show (24 : Int) ≠ 18 by decide)]; exact h4
theorem tsign_1 {s : xW} {f : Int → Int} {p E : Nat} {dep a : Int} {C : List Int} (h : Xrs s f p E dep C) (ha : 0 ≤ a ∧ a ≤ 255) (hz : (p : Int) < E ∧ f p = a) : ∃ s', F_X11_takesSign a s = some (1, s') ∧ Xrs s' f (p + 1) E dep C := by
  refine ⟨xu s 121 16 (((p + 1 : Nat)) : Int), ?_, Xrs_u h (by omega)⟩
  rw [takesSign_m h.1 ha, if_pos hz, show ((p + 1 : Nat) : Int) = (p : Int) + 1 by omega]
theorem tsign_0 {s : xW} {f : Int → Int} {p E : Nat} {dep a : Int} {C : List Int} (h : Xrs s f p E dep C) (ha : 0 ≤ a ∧ a ≤ 255) (hz : ¬ ((p : Int) < E ∧ f p = a)) : ∃ s', F_X11_takesSign a s = some (0, s') ∧ Xrs s' f p E dep C := by
  have hp := h.1.2.2.1
  refine ⟨xu s 121 16 (p : Int), ?_, Xrs_u h (by omega)⟩
  rw [takesSign_m h.1 ha, if_neg hz]
theorem isDigit_r {s : xW} {f : Int → Int} {p E : Nat} {dep : Int} {C : List Int} (h : Xrs s f p E dep C) : F_X11_isDigit s = some (if (p : Int) < E ∧ 48 ≤ f p ∧ f p ≤ 57 then 1 else 0) := by
  obtain ⟨h1, h2, h3, h4⟩ := h.1
  by_cases z : (p : Int) < E
  · have q := h4 p (by omega) z
    rw [digit_m (by omega) (by omega) (fun _ => by rw [h1, q.1]; exact q.2), h1, h2, q.1]
  · rw [digit_m (by omega) (by omega) (fun w => by rw [h1, h2] at w; exact absurd w z), h1, h2, if_neg (fun w => z w.1), if_neg (fun w => z w.1)]
theorem num13_1 {s : xW} {f : Int → Int} {p E fu : Nat} {dep acc cnt : Int} {C : List Int} {K : Int → Int → xW → Option (Int × xW)} (h : Xrs s f p E dep C) (hd : (p : Int) < E ∧ 48 ≤ f p ∧ f p ≤ 57) (hc : 0 ≤ cnt ∧ cnt < 3) : F_X11_number_13 3 (fu + 1) acc cnt s K = F_X11_number_13 3 fu (10 * acc + f p - 48) (cnt + 1) (xu s 121 16 ((p + 1 : Nat) : Int)) K := by
  have e := isDigit_r h
  rw [if_pos hd] at e
  have q := h.1.2.2.2 p (by omega) hd.1
  have hp := h.1.2.2.1
  rw [F_X11_number_13, xw_sm (x := cnt) (by omega) (by omega), show xw 3 = 3 by decide, if_pos hc.2, e]
  simp only [xbp_s, xbd_s, xls, xli, xlt, xjn]
  rw [if_pos (show xw 1 ≠ 0 by decide), h.1.1, xgd_t (by omega), q.1, show ((p + 1 : Nat) : Int) = (p : Int) + 1 by omega]
theorem num13_0 {s : xW} {f : Int → Int} {p E fu : Nat} {dep acc cnt : Int} {C : List Int} {K : Int → Int → xW → Option (Int × xW)} (h : Xrs s f p E dep C) (hd : cnt = 3 ∨ ¬ ((p : Int) < E ∧ 48 ≤ f p ∧ f p ≤ 57)) (hc : 0 ≤ cnt ∧ cnt ≤ 3) : F_X11_number_13 3 (fu + 1) acc cnt s K = K acc cnt s := by
  rw [F_X11_number_13, xw_sm (x := cnt) (by omega) (by omega), show xw 3 = 3 by decide]
  by_cases z : cnt < 3
  · have e := isDigit_r h
    rw [if_neg (by omega)] at e
    rw [if_pos z, e]
    simp only [xbp_s, xbd_s, xls, xli, xlt, xjn]
    rw [if_neg (show ¬ xw 0 ≠ 0 by decide)]
  · rw [if_neg z]
theorem number_r {d0 : Int} {s : xW} {f : Int → Int} {p E : Nat} {dep dig : Int} {C o st : List Int} (h : Xrs s f p E dep C) (hr : xrn d0 f p = some (o, st, dep, dig, 1)) (hd : (p : Int) < E ∧ 48 ≤ f p ∧ f p ≤ 57) : ∃ (j : Nat) (v : Int) (s' : xW), F_X11_number 3 s = some (v, s') ∧ (1 ≤ j ∧ j ≤ 3) ∧ p + j ≤ E ∧ Xrs s' f (p + j) E dep C ∧ xrn d0 f (p + j) = some (o ++ [v], st, dep, (j : Int), 0) ∧ (0 ≤ v ∧ v < 1000) ∧ ¬ (((p + j : Nat) : Int) < E ∧ (48 ≤ f ((p + j : Nat) : Int) ∧ f ((p + j : Nat) : Int) ≤ 57) ∧ (j : Int) < 3) := by
  have hN := xN_ge
  obtain ⟨g, hg⟩ : ∃ g, xN = g + 1 + 1 + 1 + 1 := ⟨xN - 4, by omega⟩
  have e := isDigit_r h
  rw [if_pos hd] at e
  have r1 : xrn d0 f (p + 1) = some (o ++ [f p - 48], st, dep, 1, 0) := by
    rw [xrn_s hr]
    unfold xpst
    simp only
    rw [if_pos (by decide), if_neg (by omega), if_neg (by omega), if_pos hd.2]
  have h1 : Xrs (xu s 121 16 ((p + 1 : Nat) : Int)) f (p + 1) E dep C := Xrs_u h (by omega)
  have go : ∀ (q : Nat) (x dg : Int), xrn d0 f q = some (o ++ [x], st, dep, dg, 0) → dg < 3 → 48 ≤ f q ∧ f q ≤ 57 → xrn d0 f (q + 1) = some (o ++ [x * 10 + (f q - 48)], st, dep, dg + 1, 0) := fun q x dg hx hdg hq => by
    rw [xrn_s hx]
    unfold xpst
    simp only
    rw [if_neg (by decide), if_pos hq, if_pos hdg]
    simp
  have hF : F_X11_number 3 s = F_X11_number_13 3 (g + 1 + 1 + 1 + 1) 0 0 s (fun (l2_18 : Int) (l3_19 : Int) (s20 : xW) => some (l2_18, s20)) := by
    unfold F_X11_number
    rw [e]
    simp only [xbp_s, xbd_s, xls, xli, xlt, xjn]
    rw [if_neg (show ¬ xw 1 = 0 by decide), hg]
  rw [hF, num13_1 h hd (by decide)]
  by_cases z1 : ((p + 1 : Nat) : Int) < E ∧ 48 ≤ f ((p + 1 : Nat) : Int) ∧ f ((p + 1 : Nat) : Int) ≤ 57
  · have r2 := go (p + 1) _ 1 r1 (by decide) z1.2
    have h2 : Xrs (xu (xu s 121 16 ((p + 1 : Nat) : Int)) 121 16 ((p + 1 + 1 : Nat) : Int)) f (p + 1 + 1) E dep C := Xrs_u h1 (by omega)
    rw [num13_1 h1 z1 (by decide)]
    by_cases z2 : ((p + 1 + 1 : Nat) : Int) < E ∧ 48 ≤ f ((p + 1 + 1 : Nat) : Int) ∧ f ((p + 1 + 1 : Nat) : Int) ≤ 57
    · have r3 := go (p + 1 + 1) _ 2 r2 (by decide) z2.2
      have h3 : Xrs (xu (xu (xu s 121 16 ((p + 1 : Nat) : Int)) 121 16 ((p + 1 + 1 : Nat) : Int)) 121 16 ((p + 1 + 1 + 1 : Nat) : Int)) f (p + 1 + 1 + 1) E dep C := Xrs_u h2 (by omega)
      rw [num13_1 h2 z2 (by decide), num13_0 (cnt := 0 + 1 + 1 + 1) h3 (Or.inl rfl) (by decide)]
      refine ⟨3, _, _, rfl, by decide, by omega, h3, ?_, ?_, fun w => by omega⟩
      · rw [show p + 3 = p + 1 + 1 + 1 by omega, r3]
        congr 2
        simp only [List.append_cancel_left_eq, List.cons.injEq, and_true]
        omega
      · omega
    · rw [num13_0 h2 (Or.inr z2) (by decide)]
      refine ⟨2, _, _, rfl, by decide, by omega, h2, ?_, ?_, fun w => z2 ⟨w.1, w.2.1⟩⟩
      · rw [show p + 2 = p + 1 + 1 by omega, r2]
        congr 2
        simp only [List.append_cancel_left_eq, List.cons.injEq, and_true]
        omega
      · omega
  · rw [num13_0 h1 (Or.inr z1) (by decide)]
    refine ⟨1, _, _, rfl, by decide, by omega, h1, ?_, ?_, fun w => z1 ⟨w.1, w.2.1⟩⟩
    · rw [r1]
      congr 2
      simp only [List.append_cancel_left_eq, List.cons.injEq, and_true]
      omega
    · omega
/-- the signs of a rank, as the reference numbers them -/
def xopl (r : Int) : List Int := if r = 0 then [60, 62, 61] else if r = 1 then [43, 45] else [42, 47]
def xopc (ch : Int) : Int := if ch = 60 then 2000 else if ch = 62 then 2001 else if ch = 61 then 2002 else if ch = 43 then 2003 else if ch = 45 then 2004 else if ch = 42 then 2005 else 2006
theorem takes_op {s : xW} {f : Int → Int} {p E : Nat} {dep r : Int} {C : List Int} (h : Xrs s f p E dep C) (hr : r = 0 ∨ r = 1 ∨ r = 2) : ((p : Int) < E ∧ xbnd (f p) = r + 1 → ∃ i0 s', F_X11_takesOf (xopl r) s = some (i0, s') ∧ 0 ≤ i0 ∧ i0 ≤ 2 ∧ Xrs s' f (p + 1) E dep C ∧ (2000 + i0) + (if r = 0 then 0 else if r = 1 then 3 else 5) = xopc (f p)) ∧ (¬ ((p : Int) < E ∧ xbnd (f p) = r + 1) → F_X11_takesOf (xopl r) s = some (-1, s)) := by
  have hN := xN_ge
  have hp := h.1.2.2.1
  have hone : ∀ (w : List Int) (i0 : Int), (p : Int) < E → w.length ≤ 100 → (∀ i : Int, 0 ≤ i → i < w.length → 0 ≤ xch w i ∧ xch w i ≤ 255) → (0 ≤ i0 ∧ i0 < w.length) → xch w i0 = f p → (∀ i : Int, 0 ≤ i → i < i0 → xch w i ≠ f p) → F_X11_takesOf w s = some (i0, xu s 121 16 ((p + 1 : Nat) : Int)) := fun w i0 z hl hr hi h0 hn => by
    unfold F_X11_takesOf
    rw [show ((p + 1 : Nat) : Int) = (p : Int) + 1 by omega]
    exact takesOf_l h.1 z hl hr hi h0 hn i0.toNat 0 xN (by omega) (by omega)
  have hnone : ∀ (w : List Int), (p : Int) < E → w.length ≤ 100 → (∀ i : Int, 0 ≤ i → i < w.length → 0 ≤ xch w i ∧ xch w i ≤ 255) → (∀ i : Int, 0 ≤ i → i < w.length → xch w i ≠ f p) → F_X11_takesOf w s = some (-1, s) := fun w z hl hr hn => by
    unfold F_X11_takesOf
    exact takesOf_n (k := fun (l2_13 : Int) (s14 : xW) => some (-1, s14)) h.1 z hl hr hn w.length 0 xN (by omega) (by omega)
  have hs1 : (p : Int) < E → Xrs (xu s 121 16 ((p + 1 : Nat) : Int)) f (p + 1) E dep C := fun z => Xrs_u h (by omega)
  have hb : xbnd (f p) = 1 ↔ f p = 60 ∨ f p = 61 ∨ f p = 62 := by
    unfold xbnd
    (repeat' split) <;> omega
  have hb2 : xbnd (f p) = 2 ↔ f p = 43 ∨ f p = 45 := by
    unfold xbnd
    (repeat' split) <;> omega
  have hb3 : xbnd (f p) = 3 ↔ f p = 42 ∨ f p = 47 := by
    unfold xbnd
    (repeat' split) <;> omega
  rcases hr with rfl | rfl | rfl
  · have hw : ∀ i : Int, 0 ≤ i → i < 3 → 0 ≤ xch ([60, 62, 61] : List Int) i ∧ xch ([60, 62, 61] : List Int) i ≤ 255 := fun i i1 i2 => by
      rcases (by omega : i = 0 ∨ i = 1 ∨ i = 2) with rfl | rfl | rfl <;> decide
    refine ⟨fun z => ?_, fun z => ?_⟩
    · rcases hb.1 z.2 with q | q | q
      · exact ⟨0, _, hone [60, 62, 61] 0 z.1 (by decide) hw (by decide) (by rw [q]; rfl) (fun i i1 i2 => by omega), by decide, by decide, hs1 z.1, by rw [q]; rfl⟩
      · exact ⟨2, _, hone [60, 62, 61] 2 z.1 (by decide) hw (by decide) (by rw [q]; rfl) (fun i i1 i2 => by
          rcases (by omega : i = 0 ∨ i = 1) with rfl | rfl <;> rw [q] <;> decide), by decide, by decide, hs1 z.1, by rw [q]; rfl⟩
      · exact ⟨1, _, hone [60, 62, 61] 1 z.1 (by decide) hw (by decide) (by rw [q]; rfl) (fun i i1 i2 => by
          rcases (by omega : i = 0) with rfl
          rw [q]; decide), by decide, by decide, hs1 z.1, by rw [q]; rfl⟩
    · by_cases y : (p : Int) < E
      · refine hnone [60, 62, 61] y (by decide) hw (fun i i1 i2 w => z ⟨y, hb.2 ?_⟩)
        have i2' : i < 3 := i2
        rcases (by omega : i = 0 ∨ i = 1 ∨ i = 2) with rfl | rfl | rfl
        · exact Or.inl w.symm
        · exact Or.inr (Or.inr w.symm)
        · exact Or.inr (Or.inl w.symm)
      · exact takesOf_e h.1 (by decide) y
  · have hw : ∀ i : Int, 0 ≤ i → i < 2 → 0 ≤ xch ([43, 45] : List Int) i ∧ xch ([43, 45] : List Int) i ≤ 255 := fun i i1 i2 => by
      rcases (by omega : i = 0 ∨ i = 1) with rfl | rfl <;> decide
    refine ⟨fun z => ?_, fun z => ?_⟩
    · rcases hb2.1 z.2 with q | q
      · exact ⟨0, _, hone [43, 45] 0 z.1 (by decide) hw (by decide) (by rw [q]; rfl) (fun i i1 i2 => by omega), by decide, by decide, hs1 z.1, by rw [q]; rfl⟩
      · exact ⟨1, _, hone [43, 45] 1 z.1 (by decide) hw (by decide) (by rw [q]; rfl) (fun i i1 i2 => by
          rcases (by omega : i = 0) with rfl
          rw [q]; decide), by decide, by decide, hs1 z.1, by rw [q]; rfl⟩
    · by_cases y : (p : Int) < E
      · refine hnone [43, 45] y (by decide) hw (fun i i1 i2 w => z ⟨y, hb2.2 ?_⟩)
        have i2' : i < 2 := i2
        rcases (by omega : i = 0 ∨ i = 1) with rfl | rfl
        · exact Or.inl w.symm
        · exact Or.inr w.symm
      · exact takesOf_e h.1 (by decide) y
  · have hw : ∀ i : Int, 0 ≤ i → i < 2 → 0 ≤ xch ([42, 47] : List Int) i ∧ xch ([42, 47] : List Int) i ≤ 255 := fun i i1 i2 => by
      rcases (by omega : i = 0 ∨ i = 1) with rfl | rfl <;> decide
    refine ⟨fun z => ?_, fun z => ?_⟩
    · rcases hb3.1 z.2 with q | q
      · exact ⟨0, _, hone [42, 47] 0 z.1 (by decide) hw (by decide) (by rw [q]; rfl) (fun i i1 i2 => by omega), by decide, by decide, hs1 z.1, by rw [q]; rfl⟩
      · exact ⟨1, _, hone [42, 47] 1 z.1 (by decide) hw (by decide) (by rw [q]; rfl) (fun i i1 i2 => by
          rcases (by omega : i = 0) with rfl
          rw [q]; decide), by decide, by decide, hs1 z.1, by rw [q]; rfl⟩
    · by_cases y : (p : Int) < E
      · refine hnone [42, 47] y (by decide) hw (fun i i1 i2 w => z ⟨y, hb3.2 ?_⟩)
        have i2' : i < 2 := i2
        rcases (by omega : i = 0 ∨ i = 1) with rfl | rfl
        · exact Or.inl w.symm
        · exact Or.inr w.symm
      · exact takesOf_e h.1 (by decide) y
theorem xopc_s {ch : Int} (h : 1 ≤ xbnd ch ∧ xbnd ch ≤ 3) : xsc (xopc ch) = 2000 + ch ∧ (2000 ≤ xopc ch ∧ xopc ch ≤ 2006) := by
  have hc : ch = 42 ∨ ch = 47 ∨ ch = 43 ∨ ch = 45 ∨ ch = 60 ∨ ch = 61 ∨ ch = 62 := by
    unfold xbnd at h
    by_cases y1 : ch = 42 ∨ ch = 47
    · omega
    · by_cases y2 : ch = 43 ∨ ch = 45
      · omega
      · by_cases y3 : ch = 60 ∨ ch = 61 ∨ ch = 62
        · omega
        · rw [if_neg y1, if_neg y2, if_neg y3] at h
          by_cases y4 : ch = 126
          · rw [if_pos y4] at h; omega
          · rw [if_neg y4] at h; omega
  rcases hc with rfl | rfl | rfl | rfl | rfl | rfl | rfl <;> decide
theorem takes_let {s : xW} {f : Int → Int} {p E : Nat} {dep : Int} {C : List Int} (h : Xrs s f p E dep C) : ((p : Int) < E ∧ 0 ≤ xlet (f p) → ∃ s', F_X11_takesOf ([100, 119, 109, 120, 121, 110, 101] : List Int) s = some (xlet (f p), s') ∧ Xrs s' f (p + 1) E dep C) ∧ (¬ ((p : Int) < E ∧ 0 ≤ xlet (f p)) → F_X11_takesOf ([100, 119, 109, 120, 121, 110, 101] : List Int) s = some (-1, s)) := by
  have hN := xN_ge
  have hp := h.1.2.2.1
  have hlr := xlet_r (f p)
  have hw : ∀ i : Int, 0 ≤ i → i < 7 → 0 ≤ xch ([100, 119, 109, 120, 121, 110, 101] : List Int) i ∧ xch ([100, 119, 109, 120, 121, 110, 101] : List Int) i ≤ 255 := fun i i1 i2 => by
    rcases (by omega : i = 0 ∨ i = 1 ∨ i = 2 ∨ i = 3 ∨ i = 4 ∨ i = 5 ∨ i = 6) with rfl | rfl | rfl | rfl | rfl | rfl | rfl <;> decide
  have hinv : ∀ i : Int, 0 ≤ i → i < 7 → xlet (xch ([100, 119, 109, 120, 121, 110, 101] : List Int) i) = i := fun i i1 i2 => by
    rcases (by omega : i = 0 ∨ i = 1 ∨ i = 2 ∨ i = 3 ∨ i = 4 ∨ i = 5 ∨ i = 6) with rfl | rfl | rfl | rfl | rfl | rfl | rfl <;> rfl
  refine ⟨fun z => ⟨xu s 121 16 ((p + 1 : Nat) : Int), ?_, Xrs_u h (by omega)⟩, fun z => ?_⟩
  · have hx : xch ([100, 119, 109, 120, 121, 110, 101] : List Int) (xlet (f p)) = f p := by
      have z2 := z.2
      unfold xlet at z2 ⊢
      by_cases q1 : f p = 100
      · rw [if_pos q1, q1]; rfl
      by_cases q2 : f p = 119
      · rw [if_neg q1, if_pos q2, q2]; rfl
      by_cases q3 : f p = 109
      · rw [if_neg q1, if_neg q2, if_pos q3, q3]; rfl
      by_cases q4 : f p = 120
      · rw [if_neg q1, if_neg q2, if_neg q3, if_pos q4, q4]; rfl
      by_cases q5 : f p = 121
      · rw [if_neg q1, if_neg q2, if_neg q3, if_neg q4, if_pos q5, q5]; rfl
      by_cases q6 : f p = 110
      · rw [if_neg q1, if_neg q2, if_neg q3, if_neg q4, if_neg q5, if_pos q6, q6]; rfl
      by_cases q7 : f p = 101
      · rw [if_neg q1, if_neg q2, if_neg q3, if_neg q4, if_neg q5, if_neg q6, if_pos q7, q7]; rfl
      rw [if_neg q1, if_neg q2, if_neg q3, if_neg q4, if_neg q5, if_neg q6, if_neg q7] at z2
      omega
    unfold F_X11_takesOf
    rw [show ((p + 1 : Nat) : Int) = (p : Int) + 1 by omega]
    exact takesOf_l (w := [100, 119, 109, 120, 121, 110, 101]) h.1 z.1 (by decide) hw ⟨z.2, by show xlet (f p) < 7; omega⟩ hx (fun i i1 i2 w => by
      have := hinv i i1 (by omega)
      rw [w] at this
      omega) (xlet (f p)).toNat 0 xN (by omega) (by omega)
  · by_cases y : (p : Int) < E
    · unfold F_X11_takesOf
      refine takesOf_n (w := [100, 119, 109, 120, 121, 110, 101]) (k := fun (l2_13 : Int) (s14 : xW) => some (-1, s14)) h.1 y (by decide) hw (fun i i1 i2 w => z ⟨y, ?_⟩) 7 0 xN (by decide) (by omega)
      have i2' : i < 7 := i2
      have := hinv i i1 i2'
      rw [w] at this
      omega
    · exact takesOf_e h.1 (by decide) y
