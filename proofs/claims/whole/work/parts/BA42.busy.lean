/-! how many are at work at a minute: span, lane -/
def xbzy (w b l : Int → Int) (k m d : Int) : Bool := decide ((b d ≤ m ∧ m < b d + l d) ∧ xand (w d) k ≠ 0)
theorem xbzy_t {w b l : Int → Int} {k m d : Int} (hw : xand (w d) k ≠ 0) : b01 (xbzy w b l k m d) = if b d ≤ m ∧ m < b d + l d then 1 else 0 := by
  unfold xbzy b01
  by_cases z : b d ≤ m ∧ m < b d + l d
  · rw [if_pos (decide_eq_true ⟨z, hw⟩), if_pos z]
  · rw [if_neg (by rw [decide_eq_false (fun q => z q.1)]; decide), if_neg z]
theorem xbzy_f {w b l : Int → Int} {k m d : Int} (hw : xand (w d) k = 0) : b01 (xbzy w b l k m d) = 0 := by
  unfold xbzy b01
  rw [if_neg (by rw [decide_eq_false (fun q => q.2 hw)]; decide)]
theorem howMany_loop {m k n : Int} {s : xW} {kk : Int → Int → Option Int} (h : Xpl s) (e0 : s 92 0 = n) (hm : -1000 ≤ m ∧ m ≤ 20000) : ∀ (j i fu : Nat), (i : Int) + j = n → j < fu → F_X4_howMany_5 m k s fu (xsum (fun d => b01 (xbzy (s 94) (s 95) (s 20) k m d)) i) (i : Int) kk = kk (xsum (fun d => b01 (xbzy (s 94) (s 95) (s 20) k m d)) n.toNat) n := by
  intro j
  have hn := h.1
  induction j with
  | zero =>
    intro i fu hi hf
    obtain ⟨fu, rfl⟩ : ∃ g, fu = g + 1 := ⟨fu - 1, by omega⟩
    unfold F_X4_howMany_5
    rw [e0, xw_sm (by omega) (by omega), xw_sm (by omega) (by omega), if_neg (by omega), show n.toNat = i by omega, show n = (i : Int) by omega]
  | succ j ih =>
    intro i fu hi hf
    obtain ⟨fu, rfl⟩ : ∃ g, fu = g + 1 := ⟨fu - 1, by omega⟩
    obtain ⟨a1, a2, a3⟩ := h.2 i (by omega) (by omega)
    have hs := xsum_s (fun d => b01 (xbzy (s 94) (s 95) (s 20) k m d)) i
    have go : ∀ v : Int, v = xsum (fun d => b01 (xbzy (s 94) (s 95) (s 20) k m d)) (i + 1) → F_X4_howMany_5 m k s fu v ((i : Int) + 1) kk = kk (xsum (fun d => b01 (xbzy (s 94) (s 95) (s 20) k m d)) n.toNat) n := fun v hv => by
      rw [hv, show ((i : Int) + 1) = ((i + 1 : Nat) : Int) by omega]
      exact ih (i + 1) fu (by omega) (by omega)
    unfold F_X4_howMany_5
    simp only [xbp_s, xbd_s, xls, xli, xlt, xjn, xgd_t (show 0 ≤ (i : Int) ∧ (i : Int) < 8 by omega)]
    rw [e0, xw_sm (x := (i : Int)) (by omega) (by omega), xw_sm (x := n) (by omega) (by omega), if_pos (show (i : Int) < n by omega), xw_sm (x := s 95 (i : Int)) (by omega) (by omega), xw_sm (x := m) (by omega) (by omega), a3, xw_sm (x := s 95 (i : Int) + s 20 (i : Int)) (by omega) (by omega), xw_id (I32_xand _ _)]
    by_cases z3 : xand (s 94 (i : Int)) k = 0
    · rw [xbzy_f z3] at hs
      rw [if_neg (show ¬ xand (s 94 (i : Int)) k ≠ 0 from fun q => q z3)]
      by_cases z1 : s 95 (i : Int) ≤ m
      · rw [if_pos z1]
        by_cases z2 : m < s 95 (i : Int) + s 20 (i : Int)
        · rw [if_pos z2, if_pos (show xw 1 ≠ 0 by decide)]; exact go _ hs.symm
        · rw [if_neg z2, if_neg (show ¬ xw 0 ≠ 0 by decide)]; exact go _ hs.symm
      · rw [if_neg z1, if_neg (show ¬ xw 0 ≠ 0 by decide)]; exact go _ hs.symm
    · rw [xbzy_t z3] at hs
      rw [if_pos (show xand (s 94 (i : Int)) k ≠ 0 from z3)]
      by_cases z1 : s 95 (i : Int) ≤ m
      · rw [if_pos z1]
        by_cases z2 : m < s 95 (i : Int) + s 20 (i : Int)
        · rw [if_pos ⟨z1, z2⟩] at hs
          rw [if_pos z2, if_pos (show xw 1 ≠ 0 by decide)]; exact go _ hs.symm
        · rw [if_neg (fun q => z2 q.2)] at hs
          rw [if_neg z2, if_neg (show ¬ xw 0 ≠ 0 by decide)]; exact go _ hs.symm
      · rw [if_neg (fun q => z1 q.1)] at hs
        rw [if_neg z1, if_neg (show ¬ xw 0 ≠ 0 by decide)]; exact go _ hs.symm
theorem howMany_c {m k : Int} {s : xW} (h : Xpl s) (hm : -1000 ≤ m ∧ m ≤ 20000) : F_X4_howMany m k s = some (xsum (fun d => b01 (xbzy (s 94) (s 95) (s 20) k m d)) (s 92 0).toNat) := by
  have hn := h.1
  unfold F_X4_howMany
  exact howMany_loop (n := s 92 0) h rfl hm (s 92 0).toNat 0 xN (by omega) (by have := xN_ge; omega)
theorem busy_in {mask d : Int} {s0 : xW} {k : Int → xW → Option xW} (hd : 0 ≤ d ∧ d < 8) (hb : 0 ≤ s0 135 d ∧ s0 135 d ≤ 200) (hl : -1 ≤ s0 127 (24 + d) ∧ s0 127 (24 + d) ≤ 9) (hw : xand (s0 126 d) mask ≠ 0) (a0 : Int → Int) :
    ∀ (j i fu : Nat) (arr : Int → Int), i + j = (s0 127 (24 + d)).toNat → j < fu → (∀ x : Int, arr x = a0 x + (if s0 135 d ≤ x ∧ x < s0 135 d + i then 1 else 0)) → ∃ v' arr', F_X11_laysBusy_42 mask d fu (i : Int) (xrow s0 142 arr) k = k v' (xrow s0 142 arr') ∧ ∀ x : Int, arr' x = a0 x + (if s0 135 d ≤ x ∧ x < s0 135 d + s0 127 (24 + d) then 1 else 0) := by
  intro j
  induction j with
  | zero =>
    intro i fu arr hi hf ha
    obtain ⟨fu, rfl⟩ : ∃ g, fu = g + 1 := ⟨fu - 1, by omega⟩
    refine ⟨(i : Int), arr, ?_, fun x => ?_⟩
    · unfold F_X11_laysBusy_42
      rw [xgd_t (by omega), xrow_o (show (127 : Int) ≠ 142 by decide), xw_sm (x := (i : Int)) (by omega) (by omega), xw_sm (x := s0 127 (24 + d)) (by omega) (by omega), if_neg (by omega)]
    · rw [ha x]
      by_cases z : s0 135 d ≤ x ∧ x < s0 135 d + i
      · rw [if_pos z, if_pos (by omega)]
      · rw [if_neg z, if_neg (by omega)]
  | succ j ih =>
    intro i fu arr hi hf ha
    obtain ⟨fu, rfl⟩ : ∃ g, fu = g + 1 := ⟨fu - 1, by omega⟩
    unfold F_X11_laysBusy_42
    simp only [xbp_s, xbd_s, xls, xli, xlt, xjn, xgd_t (show 0 ≤ 24 + d ∧ 24 + d < 40 by omega), xgd_t hd]
    rw [xrow_o (show (127 : Int) ≠ 142 by decide), xrow_o (show (126 : Int) ≠ 142 by decide), xrow_o (show (135 : Int) ≠ 142 by decide), xrow_s, xw_sm (x := (i : Int)) (by omega) (by omega), xw_sm (x := s0 127 (24 + d)) (by omega) (by omega), if_pos (show (i : Int) < s0 127 (24 + d) by omega), xw_id (I32_xand _ _), if_pos hw, xgd_t (by omega), xgd_t (by omega), xrow_u, show ((i : Int) + 1) = ((i + 1 : Nat) : Int) by omega]
    refine ih (i + 1) fu _ (by omega) (by omega) (fun x => ?_)
    show (if x = s0 135 d + (i : Int) then arr (s0 135 d + (i : Int)) + 1 else arr x) = _
    by_cases z : x = s0 135 d + (i : Int)
    · rw [if_pos z, ← z, ha x, if_neg (by omega), if_pos (by omega)]
      omega
    · rw [if_neg z, ha x]
      by_cases z2 : s0 135 d ≤ x ∧ x < s0 135 d + i
      · rw [if_pos z2, if_pos (by omega)]
      · rw [if_neg z2, if_neg (by omega)]
theorem busy_in0 {mask d : Int} {s : xW} {fu : Nat} {k : Int → xW → Option xW} (hd : 0 ≤ d ∧ d < 8) (hw : xand (s 126 d) mask = 0) : F_X11_laysBusy_42 mask d (fu + 1) 0 s k = k 0 s := by
  unfold F_X11_laysBusy_42
  simp only [xbp_s, xbd_s, xls, xli, xlt, xjn, xgd_t (show 0 ≤ 24 + d ∧ 24 + d < 40 by omega), xgd_t hd]
  rw [xw_id (I32_xand _ _), if_neg (show ¬ xand (s 126 d) mask ≠ 0 from fun q => q hw)]
  split <;> rfl
theorem busy_out {mask n : Int} {s0 : xW} {k : Int → xW → Option xW} (hn : 0 ≤ n ∧ n ≤ 8) (e0 : s0 121 4 = n) (hb : ∀ d : Int, 0 ≤ d → d < n → (0 ≤ s0 135 d ∧ s0 135 d ≤ 200) ∧ (-1 ≤ s0 127 (24 + d) ∧ s0 127 (24 + d) ≤ 9)) :
    ∀ (j i fu : Nat) (arr : Int → Int), (i : Int) + j = n → j < fu → (∀ x : Int, 0 ≤ x → x < 220 → arr x = xsum (fun d => b01 (xbzy (s0 126) (s0 135) (fun d => s0 127 (24 + d)) mask x d)) i) → ∃ arr', F_X11_laysBusy_32 mask fu (i : Int) (xrow s0 142 arr) k = k n (xrow s0 142 arr') ∧ ∀ x : Int, 0 ≤ x → x < 220 → arr' x = xsum (fun d => b01 (xbzy (s0 126) (s0 135) (fun d => s0 127 (24 + d)) mask x d)) n.toNat := by
  intro j
  induction j with
  | zero =>
    intro i fu arr hi hf ha
    obtain ⟨fu, rfl⟩ : ∃ g, fu = g + 1 := ⟨fu - 1, by omega⟩
    refine ⟨arr, ?_, fun x x1 x2 => by rw [show n.toNat = i by omega]; exact ha x x1 x2⟩
    unfold F_X11_laysBusy_32
    rw [xrow_o (show (121 : Int) ≠ 142 by decide), e0, xw_sm (x := (i : Int)) (by omega) (by omega), xw_sm (x := n) (by omega) (by omega), if_neg (by omega), show n = (i : Int) by omega]
  | succ j ih =>
    intro i fu arr hi hf ha
    obtain ⟨fu, rfl⟩ : ∃ g, fu = g + 1 := ⟨fu - 1, by omega⟩
    obtain ⟨b1, b2⟩ := hb i (by omega) (by omega)
    have hN := xN_ge
    obtain ⟨g, hg, hg2⟩ := xN_s
    by_cases hw : xand (s0 126 (i : Int)) mask = 0
    · obtain ⟨arr', f1, f2⟩ := ih (i + 1) fu arr (by omega) (by omega) (fun x x1 x2 => by rw [xsum_s, xbzy_f hw, ha x x1 x2]; omega)
      refine ⟨arr', ?_, f2⟩
      rw [F_X11_laysBusy_32, xrow_o (show (121 : Int) ≠ 142 by decide), e0, xw_sm (x := (i : Int)) (by omega) (by omega), xw_sm (x := n) (by omega) (by omega), if_pos (show (i : Int) < n by omega), hg, busy_in0 (by omega) (by rw [xrow_o (show (126 : Int) ≠ 142 by decide)]; exact hw), show ((i : Int) + 1) = ((i + 1 : Nat) : Int) by omega]
      exact f1
    · obtain ⟨v', arr1, g1, g2⟩ := busy_in (mask := mask) (d := (i : Int)) (s0 := s0) (k := fun (l3 : Int) (s34 : xW) => F_X11_laysBusy_32 mask fu ((i : Int) + 1) s34 k) (by omega) b1 b2 hw arr (s0 127 (24 + (i : Int))).toNat 0 xN arr (by omega) (by omega) (fun x => by rw [if_neg (by omega)]; omega)
      obtain ⟨arr', f1, f2⟩ := ih (i + 1) fu arr1 (by omega) (by omega) (fun x x1 x2 => by rw [xsum_s, xbzy_t hw, g2 x, ha x x1 x2])
      refine ⟨arr', ?_, f2⟩
      rw [show ((i + 1 : Nat) : Int) = (i : Int) + 1 by omega] at f1
      rw [F_X11_laysBusy_32, xrow_o (show (121 : Int) ≠ 142 by decide), e0, xw_sm (x := (i : Int)) (by omega) (by omega), xw_sm (x := n) (by omega) (by omega), if_pos (show (i : Int) < n by omega)]
      exact Eq.trans g1 f1
theorem busy_0 {mask : Int} {s0 : xW} {k : Int → xW → Option xW} :
    ∀ (j i fu : Nat) (arr : Int → Int), i + j = 220 → j < fu → (∀ x : Int, 0 ≤ x → x < i → arr x = 0) → ∃ arr', F_X11_laysBusy_10 mask fu (i : Int) (xrow s0 142 arr) k = k 220 (xrow s0 142 arr') ∧ ∀ x : Int, 0 ≤ x → x < 220 → arr' x = 0 := by
  intro j
  induction j with
  | zero =>
    intro i fu arr hi hf ha
    obtain ⟨fu, rfl⟩ : ∃ g, fu = g + 1 := ⟨fu - 1, by omega⟩
    refine ⟨arr, ?_, fun x x1 x2 => ha x x1 (by omega)⟩
    unfold F_X11_laysBusy_10
    rw [xw_sm (x := (i : Int)) (by omega) (by omega), if_neg (by omega), show (i : Int) = 220 by omega]
  | succ j ih =>
    intro i fu arr hi hf ha
    obtain ⟨fu, rfl⟩ : ∃ g, fu = g + 1 := ⟨fu - 1, by omega⟩
    unfold F_X11_laysBusy_10
    simp only [xbp_s, xbd_s, xls, xli, xlt, xjn]
    rw [xw_sm (x := (i : Int)) (by omega) (by omega), if_pos (by omega), xgd_t (by omega), xrow_u, show ((i : Int) + 1) = ((i + 1 : Nat) : Int) by omega]
    refine ih (i + 1) fu _ (by omega) (by omega) (fun x x1 x2 => ?_)
    show (if x = (i : Int) then 0 else arr x) = 0
    by_cases z : x = (i : Int)
    · rw [if_pos z]
    · rw [if_neg z]; exact ha x x1 (by omega)
