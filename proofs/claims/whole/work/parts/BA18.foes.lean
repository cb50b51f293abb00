theorem xbits_s (q : Int → Bool) (k : Nat) : xbits q (k + 1) = xor' (xbits q k) (if q k then xshl 1 k else 0) := rfl
theorem xsum_s (f : Int → Int) (k : Nat) : xsum f (k + 1) = xsum f k + f k := rfl
theorem foes_loop {d n : Int} {s : xW} {k : Int → Int → Option Int} (h : Xpl s) (e0 : s 92 0 = n) (hd : 0 ≤ d ∧ d < n) :
    ∀ (j i f : Nat), (i : Int) + j = n → j < f → F_X4_foes_4 d s f (xbits (xq (s 94) (s 95) (s 20) d) i) i k = k (xbits (xq (s 94) (s 95) (s 20) d) n.toNat) n := by
  intro j
  have h1 := h.1
  induction j with
  | zero =>
    intro i f hi hf
    obtain ⟨f, rfl⟩ : ∃ f', f = f' + 1 := ⟨f - 1, by omega⟩
    unfold F_X4_foes_4
    rw [e0, xw_sm (by omega) (by omega), xw_sm (by omega) (by omega), if_neg (by omega), show n.toNat = i by omega, show n = (i : Int) by omega]
  | succ j ih =>
    intro i f hi hf
    obtain ⟨f, rfl⟩ : ∃ f', f = f' + 1 := ⟨f - 1, by omega⟩
    unfold F_X4_foes_4
    rw [e0, xw_sm (by omega) (by omega), xw_sm (by omega) (by omega), if_pos (by omega), collide_c h (by omega) (by omega)]
    simp only [xbp_s, xbd_s, xls, xli, xlt, xjn]
    rw [xw_b01, show ((i : Int) + 1) = ((i + 1 : Nat) : Int) by omega, ← ih (i + 1) f (by omega) (by omega)]
    congr 1
    show _ = xor' _ _
    congr 1
    unfold b01
    cases xq (s 94) (s 95) (s 20) d i <;> rfl
theorem foes_c {d : Int} {s : xW} (h : Xpl s) (hd : 0 ≤ d ∧ d < s 92 0) : F_X4_foes d s = some (xbits (xq (s 94) (s 95) (s 20) d) (s 92 0).toNat) := by
  have h1 := h.1
  unfold F_X4_foes
  exact foes_loop h rfl hd (s 92 0).toNat 0 xN (by omega) (by have := xN_ge; omega)
theorem pairs_loop1 {a n : Int} {s : xW} {k : Int → Int → Option Int} (h : Xpl s) (e0 : s 92 0 = n) (ha : 0 ≤ a ∧ a < n) :
    ∀ (j f : Nat) (b acc : Int), a < b → b + j = n → j < f → F_X4_pairs_16 a s f acc b k = k (acc + (xsr (fun b => b01 (xq (s 94) (s 95) (s 20) a b)) (a + 1) n - xsr (fun b => b01 (xq (s 94) (s 95) (s 20) a b)) (a + 1) b)) n := by
  intro j
  have h1 := h.1
  induction j with
  | zero =>
    intro f b acc hb hi hf
    obtain ⟨f, rfl⟩ : ∃ f', f = f' + 1 := ⟨f - 1, by omega⟩
    unfold F_X4_pairs_16
    rw [e0, xw_sm (by omega) (by omega), xw_sm (by omega) (by omega), if_neg (by omega), show b = n by omega]
    congr 1
    omega
  | succ j ih =>
    intro f b acc hb hi hf
    obtain ⟨f, rfl⟩ : ∃ f', f = f' + 1 := ⟨f - 1, by omega⟩
    unfold F_X4_pairs_16
    rw [e0, xw_sm (by omega) (by omega), xw_sm (by omega) (by omega), if_pos (by omega), collide_c h (by omega) (by omega)]
    simp only [xbp_s, xbd_s, xls, xli, xlt, xjn]
    rw [xw_b01, ih f (b + 1) _ (by omega) (by omega) (by omega), xsr_s (by omega)]
    congr 1
    unfold b01
    cases xq (s 94) (s 95) (s 20) a b <;> simp <;> omega
theorem pairs_loop2 {n : Int} {s : xW} {k : Int → Int → Option Int} (h : Xpl s) (e0 : s 92 0 = n) :
    ∀ (j i f : Nat), (i : Int) + j = n → j < f → F_X4_pairs_4 s f (xsum (fun a => xsr (fun b => b01 (xq (s 94) (s 95) (s 20) a b)) (a + 1) n) i) i k = k (xsum (fun a => xsr (fun b => b01 (xq (s 94) (s 95) (s 20) a b)) (a + 1) n) n.toNat) n := by
  intro j
  have h1 := h.1
  induction j with
  | zero =>
    intro i f hi hf
    obtain ⟨f, rfl⟩ : ∃ f', f = f' + 1 := ⟨f - 1, by omega⟩
    unfold F_X4_pairs_4
    rw [e0, xw_sm (by omega) (by omega), xw_sm (by omega) (by omega), if_neg (by omega), show n.toNat = i by omega, show n = (i : Int) by omega]
  | succ j ih =>
    intro i f hi hf
    obtain ⟨f, rfl⟩ : ∃ f', f = f' + 1 := ⟨f - 1, by omega⟩
    unfold F_X4_pairs_4
    rw [e0, xw_sm (by omega) (by omega), xw_sm (by omega) (by omega), if_pos (by omega), pairs_loop1 h e0 (by omega) (n - i - 1).toNat xN _ _ (by omega) (by omega) (by have := xN_ge; omega), xsr_0, show ((i : Int) + 1) = ((i + 1 : Nat) : Int) by omega, ← ih (i + 1) f (by omega) (by omega)]
    congr 1
    rw [xsum_s]
    rw [show ((i + 1 : Nat) : Int) = (i : Int) + 1 by omega]
    omega
theorem pairs_c {s : xW} (h : Xpl s) : F_X4_pairs s = some (xPp (xq (s 94) (s 95) (s 20)) (s 92 0).toNat) := by
  have h1 := h.1
  unfold F_X4_pairs
  have e := pairs_loop2 (k := fun (l1_22 : Int) (l2_23 : Int) => some l1_22) h rfl (s 92 0).toNat 0 xN (by omega) (by have := xN_ge; omega)
  rw [← xPp_sr, show (((s 92 0).toNat : Nat) : Int) = s 92 0 by omega]
  exact e
/-! the reference -/
/-- the reference's begins and lengths are no large numbers -/
def Xbg (r : Int) (s : xW) : Prop := (0 ≤ s 121 4 ∧ s 121 4 ≤ 8) ∧ ∀ d, 0 ≤ d → d < s 121 4 → (0 ≤ s 135 d ∧ s 135 d ≤ 10000) ∧ (-1 ≤ s r (24 + d) ∧ s r (24 + d) ≤ 9)
theorem meet_m {r a c : Int} {s : xW} (hr : r = 127 ∨ r = 128) (h : Xbg r s) (ha : 0 ≤ a ∧ a < s 121 4) (hc : 0 ≤ c ∧ c < s 121 4) : F_X11_meet r a c s = some (if s 135 a < s 135 c + s r (24 + c) ∧ s 135 c < s 135 a + s r (24 + a) then 1 else 0) := by
  obtain ⟨h1, h2⟩ := h
  obtain ⟨a1, a2⟩ := h2 a ha.1 ha.2
  obtain ⟨c1, c2⟩ := h2 c hc.1 hc.2
  unfold F_X11_meet
  simp only [xbp_s, xbd_s, xls, xli, xlt, xjn]
  rw [xw_sm (x := s 135 a) (by omega) (by omega), xw_sm (x := s 135 c) (by omega) (by omega), xw_sm (by omega) (by omega), xw_sm (by omega) (by omega), xgd_t (by rcases hr with rfl | rfl <;> decide), xgd_t (by omega), xgd_t (by omega), xgd_t (by omega), xgd_t (by omega), xgd_t (by omega), xgd_t (by omega)]
  repeat' split
  all_goals first | rfl | omega
theorem clash_m {r a c : Int} {s : xW} (hr : r = 127 ∨ r = 128) (h : Xbg r s) (ha : 0 ≤ a ∧ a < s 121 4) (hc : 0 ≤ c ∧ c < s 121 4) (hne : a ≠ c) : F_X11_clash r a c s = some (b01 (xq (s 126) (s 135) (fun d => s r (24 + d)) a c)) := by
  have h1 := h.1
  unfold F_X11_clash xq b01
  simp only [xbp_s, xbd_s, xls, xli, xlt, xjn]
  rw [xgd_t (by rcases hr with rfl | rfl <;> decide), xgd_t (by omega), xgd_t (by omega), meet_m hr h ha hc, xw_id (I32_xand _ _)]
  simp only [xbp_s, xbd_s, xls, xli, xlt, xjn, xif01]
  by_cases q2 : xand (s 126 a) (s 126 c) ≠ 0
  · rw [if_pos q2]
    by_cases q3 : s 135 a < s 135 c + s r (24 + c) ∧ s 135 c < s 135 a + s r (24 + a)
    · rw [if_pos q3, if_pos (by decide), if_pos (decide_eq_true ⟨hne, q2, q3⟩)]
      rfl
    · rw [if_neg q3, if_neg (by decide), if_neg (by simp only [decide_eq_true_eq]; omega)]
      rfl
  · rw [if_neg q2, if_neg (by simp only [decide_eq_true_eq]; omega)]
    rfl
theorem clashing_loop {r d n : Int} {s : xW} {k : Int → Int → Option Int} (hr : r = 127 ∨ r = 128) (h : Xbg r s) (e0 : s 121 4 = n) (hd : 0 ≤ d ∧ d < n) :
    ∀ (j i f : Nat), (i : Int) + j = n → j < f → F_X11_clashing_5 r d s f (xbits (xq (s 126) (s 135) (fun d => s r (24 + d)) d) i) i k = k (xbits (xq (s 126) (s 135) (fun d => s r (24 + d)) d) n.toNat) n := by
  intro j
  have h1 := h.1
  induction j with
  | zero =>
    intro i f hi hf
    obtain ⟨f, rfl⟩ : ∃ f', f = f' + 1 := ⟨f - 1, by omega⟩
    unfold F_X11_clashing_5
    rw [e0, xw_sm (by omega) (by omega), xw_sm (by omega) (by omega), if_neg (by omega), show n.toNat = i by omega, show n = (i : Int) by omega]
  | succ j ih =>
    intro i f hi hf
    obtain ⟨f, rfl⟩ : ∃ f', f = f' + 1 := ⟨f - 1, by omega⟩
    have ih' := ih (i + 1) f (by omega) (by omega)
    rw [show ((i + 1 : Nat) : Int) = (i : Int) + 1 by omega] at ih'
    rw [xbits_s] at ih'
    unfold F_X11_clashing_5
    simp only [xbp_s, xbd_s, xls, xli, xlt, xjn]
    rw [e0, xw_sm (x := (i : Int)) (by omega) (by omega), xw_sm (x := n) (by omega) (by omega), if_pos (by omega), xw_sm (x := d) (by omega) (by omega)]
    by_cases q : (i : Int) ≠ d
    · rw [if_pos q, clash_m hr h (by omega) (by omega) (Ne.symm q)]
      simp only [xbp_s, xbd_s, xls, xli, xlt, xjn]
      rw [xw_b01]
      unfold b01
      cases hq : xq (s 126) (s 135) (fun d => s r (24 + d)) d i
      · rw [hq, if_neg (by decide)] at ih'
        rw [if_neg (by decide)]
        exact ih'
      · rw [hq, if_pos rfl] at ih'
        rw [if_pos (by decide)]
        exact ih'
    · have q' : d = i := by omega
      rw [if_neg q]
      rw [show xq (s 126) (s 135) (fun d => s r (24 + d)) d i = false by rw [← q']; exact xq_d _ _ _ _, if_neg (by decide)] at ih'
      exact ih'
theorem clashing_m {r d : Int} {s : xW} (hr : r = 127 ∨ r = 128) (h : Xbg r s) (hd : 0 ≤ d ∧ d < s 121 4) : F_X11_clashing r d s = some (xbits (xq (s 126) (s 135) (fun d => s r (24 + d)) d) (s 121 4).toNat) := by
  have h1 := h.1
  unfold F_X11_clashing
  rw [xgd_t (by rcases hr with rfl | rfl <;> decide)]
  exact clashing_loop hr h rfl hd (s 121 4).toNat 0 xN (by omega) (by have := xN_ge; omega)
theorem con_loop {r n : Int} {s : xW} {k : Int → Int → Option (Int × xW)} (hr : r = 127 ∨ r = 128) (h : Xbg r s) (e0 : s 121 4 = n) :
    ∀ (j i f : Nat), (i : Int) + j = n → j < f → F_X11_clashesOn_9 r s f (xsum (fun d => xsum (fun e => b01 (xq (s 126) (s 135) (fun d => s r (24 + d)) d e)) n.toNat) i) i k = k (xsum (fun d => xsum (fun e => b01 (xq (s 126) (s 135) (fun d => s r (24 + d)) d e)) n.toNat) n.toNat) n := by
  intro j
  have h1 := h.1
  induction j with
  | zero =>
    intro i f hi hf
    obtain ⟨f, rfl⟩ : ∃ f', f = f' + 1 := ⟨f - 1, by omega⟩
    unfold F_X11_clashesOn_9
    rw [e0, xw_sm (by omega) (by omega), xw_sm (by omega) (by omega), if_neg (by omega)]
    rw [show k (xsum _ n.toNat) n = k (xsum (fun d => xsum (fun e => b01 (xq (s 126) (s 135) (fun d => s r (24 + d)) d e)) n.toNat) i) i by rw [show (i : Int) = n by omega, show i = n.toNat by omega]]
  | succ j ih =>
    intro i f hi hf
    obtain ⟨f, rfl⟩ : ∃ f', f = f' + 1 := ⟨f - 1, by omega⟩
    unfold F_X11_clashesOn_9
    rw [e0, xw_sm (by omega) (by omega), xw_sm (by omega) (by omega), if_pos (by omega), clashing_m hr h (by omega)]
    simp only [xbp_s, xbd_s, xls, xli, xlt, xjn]
    rw [xbc_bits _ _ (by omega), e0, show ((i : Int) + 1) = ((i + 1 : Nat) : Int) by omega]
    exact ih (i + 1) f (by omega) (by omega)
theorem con_m {r : Int} {s s2 : xW} (hr : r = 127 ∨ r = 128) (hl : F_X11_laysBegins r s = some s2) (h : Xbg r s2) : F_X11_clashesOn r s = some (xPp (xq (s2 126) (s2 135) (fun d => s2 r (24 + d))) (s2 121 4).toNat, s2) := by
  have h1 := h.1
  have e := con_loop (k := fun (l2_13 : Int) (l3_14 : Int) => some ((Int.tdiv (xw l2_13) 2), s2)) hr h rfl (s2 121 4).toNat 0 xN (by omega) (by have := xN_ge; omega)
  have hp := xPp_r (xq (s2 126) (s2 135) (fun d => s2 r (24 + d))) (s2 121 4).toNat
  have hp2 : xPp (xq (s2 126) (s2 135) (fun d => s2 r (24 + d))) (s2 121 4).toNat ≤ 64 := by
    have : (((s2 121 4).toNat : Nat) : Int) * (((s2 121 4).toNat : Nat) : Int) ≤ 8 * 8 := Int.mul_le_mul (by omega) (by omega) (by omega) (by omega)
    omega
  rw [xPp_D _ (xq_s _ _ _) (xq_d _ _ _)] at e
  unfold F_X11_clashesOn
  rw [xgd_t (by rcases hr with rfl | rfl <;> decide), hl]
  simp only [xbp_s, xbd_s, xls, xli, xlt, xjn]
  refine Eq.trans e ?_
  rw [xw_sm (by omega) (by omega), Int.tdiv_eq_ediv_of_nonneg (by omega), show 2 * xPp (xq (s2 126) (s2 135) (fun d => s2 r (24 + d))) (s2 121 4).toNat / 2 = xPp (xq (s2 126) (s2 135) (fun d => s2 r (24 + d))) (s2 121 4).toNat by omega]
