/-! deeds: what both read, sign by sign: (line, part, lanes) -/
def xdst (nh nd : Int) (st : Int × Int × Int) (ch : Int) : Option (Int × Int × Int) :=
  if 2 < st.2.1 ∧ ch = 59 then some (st.1 + 1, 0, 0)
  else if 8 ≤ nd + st.1 then none
  else if st.2.1 = 0 then (if 48 ≤ ch ∧ ch - 48 < nh then some (st.1, 1, 0) else none)
  else if st.2.1 = 1 then (if 49 ≤ ch ∧ ch ≤ 57 then some (st.1, 2, 0) else none)
  else (if (97 ≤ ch ∧ ch ≤ 100) ∧ xshr st.2.2 (ch - 97) = 0 then some (st.1, st.2.1 + 1, xor' st.2.2 (xshl 1 (ch - 97))) else none)
def xdd (nh nd : Int) (f : Int → Int) : Nat → Option (Int × Int × Int)
  | 0 => some (0, 0, 0)
  | i + 1 => match xdd nh nd f i with
    | none => none
    | some st => xdst nh nd st (f i)
theorem xdd_s {nh nd : Int} {f : Int → Int} {i : Nat} {st : Int × Int × Int} (h : xdd nh nd f i = some st) : xdd nh nd f (i + 1) = xdst nh nd st (f i) := by
  show (match xdd nh nd f i with | none => none | some st => xdst nh nd st (f i)) = _
  rw [h]
theorem xdd_n {nh nd : Int} {f : Int → Int} {i : Nat} (h : xdd nh nd f i = none) : ∀ j : Nat, xdd nh nd f (i + j) = none
  | 0 => h
  | j + 1 => by
    show (match xdd nh nd f (i + j) with | none => none | some st => xdst nh nd st (f ((i + j : Nat) : Int))) = _
    rw [xdd_n h j]
theorem xdd_u {nh nd : Int} {f : Int → Int} {c d E : Nat} {a b : Int × Int × Int} (h1 : xdd nh nd f c = some a) (h2 : c = E ∨ xdd nh nd f (c + 1) = none) (h3 : xdd nh nd f d = some b) (h4 : d = E ∨ xdd nh nd f (d + 1) = none) (hc : c ≤ E) (hd : d ≤ E) : c = d ∧ a = b := by
  have e : c = d := by
    by_cases z1 : c < d
    · rcases h2 with w | w
      · omega
      · have := xdd_n w (d - (c + 1))
        rw [show c + 1 + (d - (c + 1)) = d by omega, h3] at this
        exact nomatch this
    · by_cases z2 : d < c
      · rcases h4 with w | w
        · omega
        · have := xdd_n w (c - (d + 1))
          rw [show d + 1 + (c - (d + 1)) = c by omega, h1] at this
          exact nomatch this
      · omega
  rw [e, h3] at h1
  injection h1 with h1
  exact ⟨e, h1.symm⟩
/-- what has been read: 3 j the house, 3 j + 1 the length, 3 j + 2 the lanes -/
def xdtb (st : Int × Int × Int) (ch : Int) (T : Int → Int) : Int → Int :=
  if st.2.1 = 0 then fun x => if x = 3 * st.1 then ch - 48 else if x = 3 * st.1 + 2 then 0 else T x
  else if st.2.1 = 1 then fun x => if x = 3 * st.1 + 1 then ch - 48 else T x
  else if 2 < st.2.1 ∧ ch = 59 then T
  else fun x => if x = 3 * st.1 + 2 then xor' st.2.2 (xshl 1 (ch - 97)) else T x
def xdt (nh nd : Int) (f : Int → Int) : Nat → Int → Int
  | 0 => fun _ => 0
  | i + 1 => match xdd nh nd f i with
    | none => xdt nh nd f i
    | some st => xdtb st (f i) (xdt nh nd f i)
theorem xdt_s {nh nd : Int} {f : Int → Int} {i : Nat} {st : Int × Int × Int} (h : xdd nh nd f i = some st) : xdt nh nd f (i + 1) = xdtb st (f i) (xdt nh nd f i) := by
  show (match xdd nh nd f i with | none => xdt nh nd f i | some st => xdtb st (f i) (xdt nh nd f i)) = _
  rw [h]
theorem lane_all : ∀ (m : Fin 16) (a : Fin 4), xshr m.val a.val = 0 → (1 ≤ xor' m.val (xshl 1 a.val) ∧ xor' m.val (xshl 1 a.val) ≤ 15) ∧ (∀ e : Fin 4, xshr (xor' m.val (xshl 1 a.val)) e.val = 0 ↔ a.val < e.val) := by decide +kernel
theorem lane_b {m a : Int} (hm : 0 ≤ m ∧ m ≤ 15) (ha : 0 ≤ a ∧ a ≤ 3) (h : xshr m a = 0) : (1 ≤ xor' m (xshl 1 a) ∧ xor' m (xshl 1 a) ≤ 15) ∧ (∀ e : Int, 0 ≤ e → e ≤ 3 → (xshr (xor' m (xshl 1 a)) e = 0 ↔ a < e)) := by
  obtain ⟨x, rfl⟩ := Int.eq_ofNat_of_zero_le hm.1
  obtain ⟨y, rfl⟩ := Int.eq_ofNat_of_zero_le ha.1
  have g := lane_all ⟨x, by omega⟩ ⟨y, by omega⟩ h
  refine ⟨g.1, fun e e1 e2 => ?_⟩
  obtain ⟨z, rfl⟩ := Int.eq_ofNat_of_zero_le e1
  have := g.2 ⟨z, by omega⟩
  rw [show ((y : Int) < (z : Int)) ↔ y < z by omega]
  exact this
/-- what is true of a state that is reached -/
def Xds (nh nd : Int) (T : Int → Int) (st : Int × Int × Int) : Prop := 0 ≤ st.1 ∧ 0 ≤ st.2.1 ∧ nd + st.1 ≤ 8 ∧ (1 ≤ st.2.1 → nd + st.1 < 8) ∧ (0 ≤ st.2.2 ∧ st.2.2 ≤ 15) ∧ (st.2.1 ≤ 2 → st.2.2 = 0) ∧ (2 < st.2.1 → 1 ≤ st.2.2) ∧ (∀ j : Int, 0 ≤ j → j < st.1 → (0 ≤ T (3 * j) ∧ T (3 * j) < nh) ∧ (1 ≤ T (3 * j + 1) ∧ T (3 * j + 1) ≤ 9) ∧ (1 ≤ T (3 * j + 2) ∧ T (3 * j + 2) ≤ 15)) ∧ (1 ≤ st.2.1 → 0 ≤ T (3 * st.1) ∧ T (3 * st.1) < nh ∧ T (3 * st.1 + 2) = st.2.2) ∧ (2 ≤ st.2.1 → 1 ≤ T (3 * st.1 + 1) ∧ T (3 * st.1 + 1) ≤ 9)
theorem Xds_s {nh nd ch : Int} {T : Int → Int} {st st' : Int × Int × Int} (h : Xds nh nd T st) (hs : xdst nh nd st ch = some st') : Xds nh nd (xdtb st ch T) st' := by
  obtain ⟨k, part, m⟩ := st
  obtain ⟨h1, h2, h3, h4, h5, h6, h7, h8, h9, h10⟩ := h
  simp only at h1 h2 h3 h4 h5 h6 h7 h8 h9 h10
  unfold xdst at hs
  simp only at hs
  unfold xdtb
  simp only
  by_cases z : 2 < part ∧ ch = 59
  · rw [if_pos z] at hs
    injection hs with hs
    rw [← hs, if_neg (by omega), if_neg (by omega), if_pos z]
    refine ⟨by simp only; omega, by simp only; omega, by simp only; omega, fun w => by simp only at w; omega, by simp only; omega, fun _ => rfl, fun w => by simp only at w; omega, fun j j1 j2 => ?_, fun w => by simp only at w; omega, fun w => by simp only at w; omega⟩
    simp only at j2
    by_cases w : j = k
    · rw [w]
      have q1 := h9 (by omega)
      have q2 := h10 (by omega)
      have q3 := h7 z.1
      refine ⟨⟨q1.1, q1.2.1⟩, q2, ?_⟩
      rw [q1.2.2]
      omega
    · exact h8 j j1 (by omega)
  · rw [if_neg z] at hs
    by_cases z1 : 8 ≤ nd + k
    · rw [if_pos z1] at hs
      exact nomatch hs
    · rw [if_neg z1] at hs
      by_cases z2 : part = 0
      · rw [if_pos z2] at hs
        by_cases z3 : 48 ≤ ch ∧ ch - 48 < nh
        · rw [if_pos z3] at hs
          injection hs with hs
          rw [← hs, if_pos z2]
          refine ⟨h1, by simp only; omega, h3, fun _ => by simp only; omega, by simp only; omega, fun _ => rfl, fun w => by simp only at w; omega, fun j j1 j2 => ?_, fun _ => ?_, fun w => by simp only at w; omega⟩
          · simp only at j2
            simp only
            rw [if_neg (by omega), if_neg (by omega), if_neg (by omega), if_neg (by omega), if_neg (by omega), if_neg (by omega)]
            exact h8 j j1 j2
          · simp only
            rw [if_pos trivial, if_neg (by omega), if_pos trivial]
            omega
        · rw [if_neg z3] at hs
          exact nomatch hs
      · rw [if_neg z2] at hs
        by_cases z3 : part = 1
        · rw [if_pos z3] at hs
          by_cases z4 : 49 ≤ ch ∧ ch ≤ 57
          · rw [if_pos z4] at hs
            injection hs with hs
            rw [← hs, if_neg z2, if_pos z3]
            have q := h9 (by omega)
            have q6 := h6 (by omega)
            refine ⟨h1, by simp only; omega, h3, fun _ => by simp only; omega, by simp only; omega, fun _ => rfl, fun w => by simp only at w; omega, fun j j1 j2 => ?_, fun _ => ?_, fun _ => ?_⟩
            · simp only at j2
              simp only
              rw [if_neg (by omega), if_neg (by omega), if_neg (by omega)]
              exact h8 j j1 j2
            · simp only
              rw [if_neg (by omega), if_neg (by omega)]
              exact ⟨q.1, q.2.1, by omega⟩
            · simp only
              rw [if_pos trivial]
              omega
          · rw [if_neg z4] at hs
            exact nomatch hs
        · rw [if_neg z3] at hs
          by_cases z4 : (97 ≤ ch ∧ ch ≤ 100) ∧ xshr m (ch - 97) = 0
          · rw [if_pos z4] at hs
            injection hs with hs
            have q := h9 (by omega)
            have q2 := h10 (by omega)
            have ql := lane_b (m := m) (a := ch - 97) h5 (by omega) z4.2
            rw [← hs, if_neg z2, if_neg z3, if_neg z]
            refine ⟨h1, by simp only; omega, h3, fun _ => by simp only; omega, by simp only; omega, fun w => by simp only at w; omega, fun _ => by simp only; omega, fun j j1 j2 => ?_, fun _ => ?_, fun _ => ?_⟩
            · simp only at j2
              simp only
              rw [if_neg (by omega), if_neg (by omega), if_neg (by omega)]
              exact h8 j j1 j2
            · simp only
              rw [if_neg (by omega), if_pos trivial]
              exact ⟨q.1, q.2.1, rfl⟩
            · simp only
              rw [if_neg (by omega)]
              exact q2
          · rw [if_neg z4] at hs
            exact nomatch hs
theorem Xds_i {nh nd : Int} {f : Int → Int} (hd : 0 ≤ nd ∧ nd ≤ 8) : ∀ (i : Nat) (st : Int × Int × Int), xdd nh nd f i = some st → Xds nh nd (xdt nh nd f i) st
  | 0, st, h => by
    have e : st = (0, 0, 0) := (Option.some.inj h).symm
    rw [e]
    exact ⟨Int.le_refl _, Int.le_refl _, by simp only; omega, fun w => by simp only at w; omega, by decide, fun _ => rfl, fun w => by simp only at w; omega, fun j j1 j2 => by simp only at j2; omega, fun w => by simp only at w; omega, fun w => by simp only at w; omega⟩
  | i + 1, st, h => by
    cases z : xdd nh nd f i with
    | none =>
      have := xdd_n z 1
      rw [h] at this
      exact nomatch this
    | some st0 =>
      rw [xdd_s z] at h
      rw [xdt_s z]
      exact Xds_s (Xds_i hd i st0 z) h
/-! a sign of some, and a digit -/
theorem takesOf_e {s : xW} {f : Int → Int} {p E : Int} {w : List Int} (h : Xat s f p E) (hw : w.length ≤ 100) (hz : ¬ p < E) : F_X11_takesOf w s = some (-1, s) := by
  obtain ⟨g, hg, _⟩ := xN_s
  unfold F_X11_takesOf
  have hp := h.2.2.1
  rw [hg, F_X11_takesOf_2, h.1, h.2.1, xw_sm (x := p) (by omega) (by omega), xw_sm (x := E) (by omega) (by omega), if_neg hz]
  by_cases z : xw 0 < xw (w.length : Int)
  · rw [if_pos z]
  · rw [if_neg z]
theorem takesOf_l {s : xW} {f : Int → Int} {p E i0 : Int} {w : List Int} {k : Int → xW → Option (Int × xW)} (h : Xat s f p E) (hz : p < E) (hw : w.length ≤ 100) (hr : ∀ i : Int, 0 ≤ i → i < w.length → 0 ≤ xch w i ∧ xch w i ≤ 255) (hi : 0 ≤ i0 ∧ i0 < w.length) (h0 : xch w i0 = f p) (h1 : ∀ i : Int, 0 ≤ i → i < i0 → xch w i ≠ f p) :
    ∀ (j i fu : Nat), (i : Int) + j = i0 → j < fu → F_X11_takesOf_2 w fu (i : Int) s k = some (i0, xu s 121 16 (p + 1)) := by
  obtain ⟨a1, a2, a3, a4⟩ := h
  have q := a4 p a3.1 hz
  intro j
  induction j with
  | zero =>
    intro i fu hx hfu
    obtain ⟨fu, rfl⟩ : ∃ g, fu = g + 1 := ⟨fu - 1, by omega⟩
    have ei : (i : Int) = i0 := by omega
    rw [ei, F_X11_takesOf_2, a1, a2, xw_sm (x := i0) (by omega) (by omega), xw_sm (x := (w.length : Int)) (by omega) (by omega), if_pos hi.2, xw_sm (x := p) (by omega) (by omega), xw_sm (x := E) (by omega) (by omega), if_pos hz, xgd_t hi, xgd_t (by omega), q.1, h0, if_pos rfl]
    rfl
  | succ j ih =>
    intro i fu hx hfu
    obtain ⟨fu, rfl⟩ : ∃ g, fu = g + 1 := ⟨fu - 1, by omega⟩
    have g := ih (i + 1) fu (by omega) (by omega)
    rw [show ((i + 1 : Nat) : Int) = (i : Int) + 1 by omega] at g
    have r := hr i (by omega) (by omega)
    have n := h1 i (by omega) (by omega)
    rw [F_X11_takesOf_2, a1, a2, xw_sm (x := (i : Int)) (by omega) (by omega), xw_sm (x := (w.length : Int)) (by omega) (by omega), if_pos (by omega), xw_sm (x := p) (by omega) (by omega), xw_sm (x := E) (by omega) (by omega), if_pos hz, xgd_t (by omega), xgd_t (by omega), q.1, xw_sm (x := xch w i) (by omega) (by omega), xw_sm (x := f p) (by omega) (by omega), if_neg n]
    exact g
theorem takesOf_n {s : xW} {f : Int → Int} {p E : Int} {w : List Int} {k : Int → xW → Option (Int × xW)} (h : Xat s f p E) (hz : p < E) (hw : w.length ≤ 100) (hr : ∀ i : Int, 0 ≤ i → i < w.length → 0 ≤ xch w i ∧ xch w i ≤ 255) (h1 : ∀ i : Int, 0 ≤ i → i < w.length → xch w i ≠ f p) :
    ∀ (j i fu : Nat), i + j = w.length → j < fu → F_X11_takesOf_2 w fu (i : Int) s k = k (w.length : Int) s := by
  obtain ⟨a1, a2, a3, a4⟩ := h
  have q := a4 p a3.1 hz
  intro j
  induction j with
  | zero =>
    intro i fu hx hfu
    obtain ⟨fu, rfl⟩ : ∃ g, fu = g + 1 := ⟨fu - 1, by omega⟩
    have ei : (i : Int) = (w.length : Int) := by omega
    rw [ei, F_X11_takesOf_2, if_neg (Int.lt_irrefl _)]
  | succ j ih =>
    intro i fu hx hfu
    obtain ⟨fu, rfl⟩ : ∃ g, fu = g + 1 := ⟨fu - 1, by omega⟩
    have g := ih (i + 1) fu (by omega) (by omega)
    rw [show ((i + 1 : Nat) : Int) = (i : Int) + 1 by omega] at g
    have r := hr i (by omega) (by omega)
    have n := h1 i (by omega) (by omega)
    rw [F_X11_takesOf_2, a1, a2, xw_sm (x := (i : Int)) (by omega) (by omega), xw_sm (x := (w.length : Int)) (by omega) (by omega), if_pos (by omega), xw_sm (x := p) (by omega) (by omega), xw_sm (x := E) (by omega) (by omega), if_pos hz, xgd_t (by omega), xgd_t (by omega), q.1, xw_sm (x := xch w i) (by omega) (by omega), xw_sm (x := f p) (by omega) (by omega), if_neg n]
    exact g
theorem digitIn_1 {s : xW} {f : Int → Int} {p E a b : Int} (h : Xat s f p E) (ha : -1000 ≤ a ∧ a ≤ 1000) (hb : -1000 ≤ b ∧ b ≤ 1000) (hd : p < E ∧ a ≤ f p - 48 ∧ f p - 48 ≤ b) : F_X11_digitIn a b s = some (f p - 48, xu s 121 16 (p + 1)) := by
  obtain ⟨h1, h2, h3, h4⟩ := h
  have q := h4 p h3.1 hd.1
  unfold F_X11_digitIn
  rw [h1, h2, xw_sm (x := p) (by omega) (by omega), xw_sm (x := E) (by omega) (by omega), xjn, if_pos hd.1, xgd_t (by omega), q.1, xw_sm (x := f p - 48) (by omega) (by omega), xw_sm (x := a) (by omega) (by omega), xw_sm (x := b) (by omega) (by omega), in_eq (by omega) (by omega) (by omega), if_pos hd.2]
  simp only [xbp_s, xbd_s, xls, xli, xlt, xjn]
  rw [if_neg (show ¬ xw 1 = 0 by decide), xu_same, xgd_t (by omega), xu_row _ _ _ (show (129 : Int) ≠ 121 by decide), show p + 1 - 1 = p by omega, q.1]
theorem digitIn_0 {s : xW} {f : Int → Int} {p E a b : Int} (h : Xat s f p E) (ha : -1000 ≤ a ∧ a ≤ 1000) (hb : -1000 ≤ b ∧ b ≤ 1000) (hd : ¬ (p < E ∧ a ≤ f p - 48 ∧ f p - 48 ≤ b)) : F_X11_digitIn a b s = some (-1, s) := by
  obtain ⟨h1, h2, h3, h4⟩ := h
  unfold F_X11_digitIn
  rw [h1, h2, xw_sm (x := p) (by omega) (by omega), xw_sm (x := E) (by omega) (by omega)]
  simp only [xjn]
  by_cases z : p < E
  · have q := h4 p h3.1 z
    rw [if_pos z, xgd_t (by omega), q.1, xw_sm (x := f p - 48) (by omega) (by omega), xw_sm (x := a) (by omega) (by omega), xw_sm (x := b) (by omega) (by omega), in_eq (by omega) (by omega) (by omega), if_neg (fun w => hd ⟨z, w⟩)]
    simp only [xbp_s, xbd_s, xls, xli, xlt, xjn]
    rw [if_pos (show xw 0 = 0 by decide)]
  · rw [if_neg z]
