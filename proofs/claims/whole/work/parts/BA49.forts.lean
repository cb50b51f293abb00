/-! forts -/
abbrev xmove (c d : Int) : Prop := (c = 0 ∧ 0 < d) ∨ (0 < c ∧ d = 0) ∨ (c = 1 ∧ d = 1)
abbrev xL (a b : Int) : Prop := (a % 3 = 0 ∧ b = a + 1) ∨ (a % 3 = 1 ∧ b = a - 1) ∨ (a % 3 = 2 ∧ b = a)
abbrev xgm (a b c d : Int) : Prop := xmove c d ∧ (c ≤ a ∧ d ≤ b) ∧ xL (a - c) (b - d)
theorem xgm_L {a b : Int} (ha : 0 ≤ a) (hb : 0 ≤ b) : ((a = 0 ∧ b = 0) ∨ ∃ c d : Int, (0 ≤ c ∧ 0 ≤ d) ∧ xgm a b c d) ↔ ¬ xL a b := by
  constructor
  · rintro (h | ⟨c, d, h0, h1, h2, h3⟩)
    · unfold xL; omega
    · unfold xL at *
      unfold xmove at h1
      omega
  · intro h
    by_cases z : a = 0 ∧ b = 0
    · exact Or.inl z
    · right
      by_cases w1 : a = b ∧ a % 3 ≠ 2
      · by_cases w2 : a % 3 = 0
        · exact ⟨1, 1, by omega, by unfold xmove; omega, by omega, by unfold xL; omega⟩
        · exact ⟨0, 1, by omega, by unfold xmove; omega, by omega, by unfold xL; omega⟩
      · by_cases w2 : a % 3 = 0
        · by_cases w3 : a + 1 < b
          · exact ⟨0, b - (a + 1), by omega, by unfold xmove; omega, by omega, by unfold xL; omega⟩
          · by_cases v0 : b % 3 = 0
            · exact ⟨a - (b + 1), 0, by unfold xL at h; omega, by unfold xmove; unfold xL at h; omega, by omega, by unfold xL; omega⟩
            · by_cases v1 : b % 3 = 1
              · exact ⟨a - (b - 1), 0, by unfold xL at h; omega, by unfold xmove; unfold xL at h; omega, by omega, by unfold xL; omega⟩
              · exact ⟨a - b, 0, by unfold xL at h; omega, by unfold xmove; unfold xL at h; omega, by omega, by unfold xL; omega⟩
        · by_cases w4 : a % 3 = 1
          · by_cases w3 : a - 1 < b
            · exact ⟨0, b - (a - 1), by omega, by unfold xmove; omega, by omega, by unfold xL; omega⟩
            · by_cases v0 : b % 3 = 0
              · exact ⟨a - (b + 1), 0, by unfold xL at h; omega, by unfold xmove; unfold xL at h; omega, by omega, by unfold xL; omega⟩
              · by_cases v1 : b % 3 = 1
                · exact ⟨a - (b - 1), 0, by unfold xL at h; omega, by unfold xmove; unfold xL at h; omega, by omega, by unfold xL; omega⟩
                · exact ⟨a - b, 0, by unfold xL at h; omega, by unfold xmove; unfold xL at h; omega, by omega, by unfold xL; omega⟩
          · by_cases w3 : a < b
            · exact ⟨0, b - a, by omega, by unfold xmove; omega, by omega, by unfold xL; omega⟩
            · by_cases v0 : b % 3 = 0
              · exact ⟨a - (b + 1), 0, by unfold xL at h; omega, by unfold xmove; unfold xL at h; omega, by omega, by unfold xL; omega⟩
              · by_cases v1 : b % 3 = 1
                · exact ⟨a - (b - 1), 0, by unfold xL at h; omega, by unfold xmove; unfold xL at h; omega, by omega, by unfold xL; omega⟩
                · exact ⟨a - b, 0, by unfold xL at h; omega, by unfold xmove; unfold xL at h; omega, by omega, by unfold xL; omega⟩
def xany (q : Int → Bool) : Nat → Bool
  | 0 => false
  | n + 1 => xany q n || q n
theorem xany_iff {q : Int → Bool} : ∀ n : Nat, xany q n = true ↔ ∃ i : Int, (0 ≤ i ∧ i < n) ∧ q i = true
  | 0 => by
    constructor
    · intro h; exact absurd h (by simp [xany])
    · rintro ⟨i, h, _⟩; omega
  | n + 1 => by
    rw [xany, Bool.or_eq_true, xany_iff n]
    constructor
    · rintro (⟨i, h, h2⟩ | h)
      · exact ⟨i, by omega, h2⟩
      · exact ⟨n, by omega, h⟩
    · rintro ⟨i, h, h2⟩
      by_cases z : i = n
      · right; rw [← z]; exact h2
      · left; exact ⟨i, by omega, h2⟩
theorem good_m {a b c d : Int} {s : xW} (ha : 0 ≤ a ∧ a ≤ 20) (hb : 0 ≤ b ∧ b ≤ 20) (hc : 0 ≤ c ∧ c ≤ 20) (hd : 0 ≤ d ∧ d ≤ 20) (hT : xmove c d → c ≤ a → d ≤ b → s 149 (21 * (a - c) + (b - d)) = if xL (a - c) (b - d) then 0 else 1) : F_X11_isGood a b c d s = some (b01 (decide (xgm a b c d))) := by
  have hv : (if 0 < c + d then if c ≠ 0 then if d ≠ 0 then if c = 1 then if d = 1 then (1 : Int) else 0 else 0 else 1 else 1 else 0) = if xmove c d then 1 else 0 := by
    unfold xmove
    (repeat' split) <;> omega
  unfold F_X11_isGood F_X11_place
  simp only [xbp_s, xbd_s, xls, xli, xlt, xjn]
  rw [xw_sm (x := c + d) (by omega) (by omega), xw_sm (x := a) (by omega) (by omega), xw_sm (x := b) (by omega) (by omega), xw_sm (x := c) (by omega) (by omega), xw_sm (x := d) (by omega) (by omega), hv, xif01]
  by_cases z : xmove c d
  · rw [if_pos (by rw [if_pos z]; decide)]
    by_cases z1 : c ≤ a
    · rw [if_pos z1]
      by_cases z2 : d ≤ b
      · rw [if_pos z2, xgd_t (by omega), hT z z1 z2]
        by_cases z3 : xL (a - c) (b - d)
        · rw [if_pos z3, if_pos (show xw 0 = 0 by decide), xgd_t (by decide), decide_eq_true (show xgm a b c d from ⟨z, ⟨z1, z2⟩, z3⟩)]
          rfl
        · rw [if_neg z3, if_neg (show ¬ xw 1 = 0 by decide), xgd_t (by decide), decide_eq_false (fun w : xgm a b c d => z3 w.2.2)]
          rfl
      · rw [if_neg z2, xgd_t (by decide), decide_eq_false (fun w : xgm a b c d => z2 w.2.1.2)]
        rfl
    · rw [if_neg z1, xgd_t (by decide), decide_eq_false (fun w : xgm a b c d => z1 w.2.1.1)]
      rfl
  · rw [if_neg (by rw [if_neg z]; decide), xgd_t (by decide), decide_eq_false (fun w : xgm a b c d => z w.1)]
    rfl
theorem fort_82 {a1 a2 a b c : Int} {s : xW} {k : Int → Int → Option (Int × xW)} (ha : 0 ≤ a ∧ a ≤ 20) (hb : 0 ≤ b ∧ b ≤ 20) (hc : 0 ≤ c ∧ c ≤ 20) (hT : ∀ d : Int, xmove c d → c ≤ a → d ≤ b → s 149 (21 * (a - c) + (b - d)) = if xL (a - c) (b - d) then 0 else 1) (u : Bool) :
    ∀ (j i fu : Nat), (i : Int) + j = b + 1 → j < fu → F_X11_forts_82 a1 a2 a b c s fu (b01 (u || xany (fun d => decide (xgm a b c d)) i)) (i : Int) k = k (b01 (u || xany (fun d => decide (xgm a b c d)) (b + 1).toNat)) (b + 1) := by
  intro j
  induction j with
  | zero =>
    intro i fu hi hfu
    obtain ⟨fu, rfl⟩ : ∃ g, fu = g + 1 := ⟨fu - 1, by omega⟩
    have ei : (i : Int) = b + 1 := by omega
    have ei2 : (b + 1).toNat = i := by omega
    rw [ei2, ei, F_X11_forts_82, xw_sm (x := b + 1) (by omega) (by omega), xw_sm (x := b) (by omega) (by omega), if_neg (by omega)]
  | succ j ih =>
    intro i fu hi hfu
    obtain ⟨fu, rfl⟩ : ∃ g, fu = g + 1 := ⟨fu - 1, by omega⟩
    have g := ih (i + 1) fu (by omega) (by omega)
    rw [show ((i + 1 : Nat) : Int) = (i : Int) + 1 by omega, xany] at g
    rw [F_X11_forts_82, xw_sm (x := (i : Int)) (by omega) (by omega), xw_sm (x := b) (by omega) (by omega), if_pos (by omega), xw_b01, good_m ha hb hc (by omega) (hT i)]
    simp only [xbp_s, xbd_s, xls, xli, xlt, xjn]
    rw [xw_b01]
    cases z : (u || xany (fun d => decide (xgm a b c d)) i) with
    | true =>
      rw [← Bool.or_assoc, z, Bool.true_or] at g
      rw [if_neg (show ¬ b01 true = 0 by decide)]
      exact g
    | false =>
      rw [← Bool.or_assoc, z, Bool.false_or] at g
      rw [if_pos (show b01 false = 0 by decide)]
      cases z2 : decide (xgm a b c (i : Int)) with
      | true =>
        rw [z2] at g
        rw [if_pos (show b01 true ≠ 0 by decide)]
        exact g
      | false =>
        rw [z2] at g
        rw [if_neg (show ¬ b01 false ≠ 0 by decide)]
        exact g
theorem fort_73 {a1 a2 a b : Int} {s : xW} {k : Int → Int → Option (Int × xW)} (ha : 0 ≤ a ∧ a ≤ 20) (hb : 0 ≤ b ∧ b ≤ 20) (hT : ∀ c d : Int, 0 ≤ c → xmove c d → c ≤ a → d ≤ b → s 149 (21 * (a - c) + (b - d)) = if xL (a - c) (b - d) then 0 else 1) (u : Bool) :
    ∀ (j i fu : Nat), (i : Int) + j = a + 1 → j < fu → F_X11_forts_73 a1 a2 a b s fu (b01 (u || xany (fun c => xany (fun d => decide (xgm a b c d)) (b + 1).toNat) i)) (i : Int) k = k (b01 (u || xany (fun c => xany (fun d => decide (xgm a b c d)) (b + 1).toNat) (a + 1).toNat)) (a + 1) := by
  intro j
  induction j with
  | zero =>
    intro i fu hi hfu
    obtain ⟨fu, rfl⟩ : ∃ g, fu = g + 1 := ⟨fu - 1, by omega⟩
    have ei : (i : Int) = a + 1 := by omega
    have ei2 : (a + 1).toNat = i := by omega
    rw [ei2, ei, F_X11_forts_73, xw_sm (x := a + 1) (by omega) (by omega), xw_sm (x := a) (by omega) (by omega), if_neg (by omega)]
  | succ j ih =>
    intro i fu hi hfu
    have hN := xN_ge
    obtain ⟨fu, rfl⟩ : ∃ g, fu = g + 1 := ⟨fu - 1, by omega⟩
    have g := ih (i + 1) fu (by omega) (by omega)
    rw [show ((i + 1 : Nat) : Int) = (i : Int) + 1 by omega, xany, ← Bool.or_assoc] at g
    have e := fort_82 (a1 := a1) (a2 := a2) (c := (i : Int)) (s := s) (k := fun (l5_58 : Int) (l7_59 : Int) => F_X11_forts_73 a1 a2 a b s fu l5_58 ((i : Int) + 1) k) ha hb (by omega) (fun d => hT i d (by omega)) (u || xany (fun c => xany (fun d => decide (xgm a b c d)) (b + 1).toNat) i) (b + 1).toNat 0 xN (by omega) (by omega)
    rw [xany, Bool.or_false] at e
    rw [F_X11_forts_73, xw_sm (x := (i : Int)) (by omega) (by omega), xw_sm (x := a) (by omega) (by omega), if_pos (by omega)]
    exact Eq.trans e g
theorem fort_v {a b : Int} (ha : 0 ≤ a) (hb : 0 ≤ b) : b01 (decide (a + b = 0) || xany (fun c => xany (fun d => decide (xgm a b c d)) (b + 1).toNat) (a + 1).toNat) = if xL a b then 0 else 1 := by
  have h := xgm_L ha hb
  by_cases z : xL a b
  · rw [if_pos z]
    have hn : ¬ ((a = 0 ∧ b = 0) ∨ ∃ c d : Int, (0 ≤ c ∧ 0 ≤ d) ∧ xgm a b c d) := fun w => h.1 w z
    have e : (decide (a + b = 0) || xany (fun c => xany (fun d => decide (xgm a b c d)) (b + 1).toNat) (a + 1).toNat) = false := by
      rw [Bool.eq_false_iff]
      intro w
      rw [Bool.or_eq_true] at w
      apply hn
      rcases w with w | w
      · have := of_decide_eq_true w
        exact Or.inl (by omega)
      · obtain ⟨c, hc, w⟩ := (xany_iff _).1 w
        obtain ⟨d, hd, w⟩ := (xany_iff _).1 w
        exact Or.inr ⟨c, d, by omega, of_decide_eq_true w⟩
    rw [e]
    rfl
  · rw [if_neg z]
    have e : (decide (a + b = 0) || xany (fun c => xany (fun d => decide (xgm a b c d)) (b + 1).toNat) (a + 1).toNat) = true := by
      rw [Bool.or_eq_true]
      rcases h.2 z with w | ⟨c, d, w0, w⟩
      · exact Or.inl (decide_eq_true (by omega))
      · have w' := id w
        obtain ⟨_, w2, _⟩ := w'
        exact Or.inr ((xany_iff _).2 ⟨c, by omega, (xany_iff _).2 ⟨d, by omega, decide_eq_true w⟩⟩)
    rw [e]
    rfl
/-- the part of the table that is laid: rows below a, and of row a the places below b -/
def xTb (s : xW) (b2 a b : Int) : Prop := ∀ x y : Int, 0 ≤ x → 0 ≤ y → y ≤ b2 → (x < a ∨ (x = a ∧ y < b)) → s 149 (21 * x + y) = if xL x y then 0 else 1
theorem fort_50 {a1 a2 a : Int} {k : Int → xW → Option (Int × xW)} (ha : 0 ≤ a ∧ a ≤ 20) (h2 : 0 ≤ a2 ∧ a2 ≤ 20) :
    ∀ (j i fu : Nat) (s : xW), (i : Int) + j = a2 + 1 → j < fu → xTb s a2 a i → ∃ s', F_X11_forts_50 a1 a2 a fu (i : Int) s k = k (a2 + 1) s' ∧ xTb s' a2 (a + 1) 0 ∧ (∀ c : Int, c ≠ 149 → s' c = s c) := by
  intro j
  induction j with
  | zero =>
    intro i fu s hi hfu hs
    obtain ⟨fu, rfl⟩ : ∃ g, fu = g + 1 := ⟨fu - 1, by omega⟩
    have ei : (i : Int) = a2 + 1 := by omega
    refine ⟨s, ?_, fun x y x1 y1 y2 w => hs x y x1 y1 y2 (by omega), fun _ _ => rfl⟩
    rw [ei, F_X11_forts_50, xw_sm (x := a2 + 1) (by omega) (by omega), xw_sm (x := a2) (by omega) (by omega), if_neg (by omega)]
  | succ j ih =>
    intro i fu s hi hfu hs
    have hN := xN_ge
    obtain ⟨fu, rfl⟩ : ∃ g, fu = g + 1 := ⟨fu - 1, by omega⟩
    obtain ⟨s', w1, w2, w3⟩ := ih (i + 1) fu (xu s 149 (21 * a + i) (if xL a i then 0 else 1)) (by omega) (by omega) (fun x y x1 y1 y2 w => by
      by_cases z : 21 * x + y = 21 * a + i
      · have z1 : x = a := by omega
        have z2 : y = i := by omega
        rw [z, xu_same, z1, z2]
      · rw [xu_slot _ _ _ z]
        exact hs x y x1 y1 y2 (by
          rcases w with w | w
          · exact Or.inl w
          · refine Or.inr ⟨w.1, ?_⟩
            have : y ≠ i := fun u => z (by rw [w.1, u])
            omega))
    have e := fort_73 (a1 := a1) (a2 := a2) (a := a) (b := (i : Int)) (s := s) (k := fun (l5_62 : Int) (l6_63 : Int) =>
      xbp (F_X11_place a (i : Int) s) fun r65 =>
      xgd (0 ≤ r65 ∧ r65 < 441) <|
      xgd (l5_62 = 0 ∨ l5_62 = 1) <|
      xls (xu s 149 r65 l5_62) fun s68 =>
      F_X11_forts_50 a1 a2 a fu ((i : Int) + 1) s68 k) ha (by omega) (fun c d hc hm h1 h2 => hs (a - c) (i - d) (by omega) (by omega) (by unfold xmove at hm; omega) (by unfold xmove at hm; omega)) (decide (a + i = 0)) (a + 1).toNat 0 xN (by omega) (by omega)
    rw [xany, Bool.or_false, fort_v ha.1 (by omega)] at e
    refine ⟨s', ?_, w2, fun c z => by rw [w3 c z, xu_row _ _ _ z]⟩
    rw [F_X11_forts_50, xw_sm (x := (i : Int)) (by omega) (by omega), xw_sm (x := a2) (by omega) (by omega), if_pos (by omega), xw_sm (x := a + (i : Int)) (by omega) (by omega), xli, xlt]
    have eb : (if a + (i : Int) = 0 then (1 : Int) else 0) = b01 (decide (a + (i : Int) = 0)) := by
      by_cases z : a + (i : Int) = 0
      · rw [if_pos z, decide_eq_true z]; rfl
      · rw [if_neg z, decide_eq_false z]; rfl
    rw [eb]
    refine Eq.trans e ?_
    unfold F_X11_place
    simp only [xbp_s, xbd_s, xls, xli, xlt, xjn]
    rw [xgd_t (by omega), xgd_t (by split <;> decide), show ((i : Int) + 1) = ((i + 1 : Nat) : Int) by omega]
    exact w1
theorem fort_42 {a1 a2 : Int} {k : Int → xW → Option (Int × xW)} (h1 : 0 ≤ a1 ∧ a1 ≤ 20) (h2 : 0 ≤ a2 ∧ a2 ≤ 20) :
    ∀ (j i fu : Nat) (s : xW), (i : Int) + j = a1 + 1 → j < fu → xTb s a2 i 0 → ∃ s', F_X11_forts_42 a1 a2 fu (i : Int) s k = k (a1 + 1) s' ∧ xTb s' a2 (a1 + 1) 0 ∧ (∀ c : Int, c ≠ 149 → s' c = s c) := by
  intro j
  induction j with
  | zero =>
    intro i fu s hi hfu hs
    obtain ⟨fu, rfl⟩ : ∃ g, fu = g + 1 := ⟨fu - 1, by omega⟩
    have ei : (i : Int) = a1 + 1 := by omega
    rw [ei] at hs
    refine ⟨s, ?_, hs, fun _ _ => rfl⟩
    rw [ei, F_X11_forts_42, xw_sm (x := a1 + 1) (by omega) (by omega), xw_sm (x := a1) (by omega) (by omega), if_neg (by omega)]
  | succ j ih =>
    intro i fu s hi hfu hs
    have hN := xN_ge
    obtain ⟨fu, rfl⟩ : ∃ g, fu = g + 1 := ⟨fu - 1, by omega⟩
    obtain ⟨s1, u1, u2, u3⟩ := fort_50 (a1 := a1) (a2 := a2) (a := (i : Int)) (k := fun (l4_72 : Int) (s73 : xW) => F_X11_forts_42 a1 a2 fu ((i : Int) + 1) s73 k) (by omega) h2 (a2 + 1).toNat 0 xN s (by omega) (by omega) hs
    rw [show (i : Int) + 1 = ((i + 1 : Nat) : Int) by omega] at u1 u2
    obtain ⟨s', w1, w2, w3⟩ := ih (i + 1) fu s1 (by omega) (by omega) u2
    refine ⟨s', ?_, w2, fun c z => by rw [w3 c z, u3 c z]⟩
    rw [F_X11_forts_42, xw_sm (x := (i : Int)) (by omega) (by omega), xw_sm (x := a1) (by omega) (by omega), if_pos (by omega)]
    refine Eq.trans ?_ w1
    rw [show ((i : Int) + 1) = ((i + 1 : Nat) : Int) by omega]
    exact u1
/-- the row is full already: nothing more is done -/
theorem fort_167f {a1 a2 c : Int} {s : xW} {k : Int → xW → Option (Int × xW)} (h2 : 0 ≤ a2 ∧ a2 ≤ 20) (hs : s 121 1 = 2) :
    ∀ (j i fu : Nat), (i : Int) + j = a2 + 1 → j < fu → F_X11_forts_167 a1 a2 c fu (i : Int) s k = k (a2 + 1) s := by
  intro j
  induction j with
  | zero =>
    intro i fu hi hfu
    obtain ⟨fu, rfl⟩ : ∃ g, fu = g + 1 := ⟨fu - 1, by omega⟩
    have ei : (i : Int) = a2 + 1 := by omega
    rw [ei, F_X11_forts_167, xw_sm (x := a2 + 1) (by omega) (by omega), xw_sm (x := a2) (by omega) (by omega), if_neg (by omega)]
  | succ j ih =>
    intro i fu hi hfu
    obtain ⟨fu, rfl⟩ : ∃ g, fu = g + 1 := ⟨fu - 1, by omega⟩
    have g := ih (i + 1) fu (by omega) (by omega)
    rw [show ((i + 1 : Nat) : Int) = (i : Int) + 1 by omega] at g
    rw [F_X11_forts_167, xw_sm (x := (i : Int)) (by omega) (by omega), xw_sm (x := a2) (by omega) (by omega), if_pos (by omega), xjn, hs, if_neg (show ¬ xw 2 = 0 by decide)]
    exact g
theorem fort_159f {a1 a2 : Int} {s : xW} {k : Int → xW → Option (Int × xW)} (h1 : 0 ≤ a1 ∧ a1 ≤ 20) (h2 : 0 ≤ a2 ∧ a2 ≤ 20) (hs : s 121 1 = 2) :
    ∀ (j i fu : Nat), (i : Int) + j = a1 + 1 → j < fu → F_X11_forts_159 a1 a2 fu (i : Int) s k = k (a1 + 1) s := by
  intro j
  induction j with
  | zero =>
    intro i fu hi hfu
    obtain ⟨fu, rfl⟩ : ∃ g, fu = g + 1 := ⟨fu - 1, by omega⟩
    have ei : (i : Int) = a1 + 1 := by omega
    rw [ei, F_X11_forts_159, xw_sm (x := a1 + 1) (by omega) (by omega), xw_sm (x := a1) (by omega) (by omega), if_neg (by omega)]
  | succ j ih =>
    intro i fu hi hfu
    have hN := xN_ge
    obtain ⟨fu, rfl⟩ : ∃ g, fu = g + 1 := ⟨fu - 1, by omega⟩
    have g := ih (i + 1) fu (by omega) (by omega)
    rw [show ((i + 1 : Nat) : Int) = (i : Int) + 1 by omega] at g
    rw [F_X11_forts_159, xw_sm (x := (i : Int)) (by omega) (by omega), xw_sm (x := a1) (by omega) (by omega), if_pos (by omega)]
    exact Eq.trans (fort_167f (k := fun (l4_105 : Int) (s106 : xW) => F_X11_forts_159 a1 a2 fu ((i : Int) + 1) s106 k) h2 hs (a2 + 1).toNat 0 xN (by omega) (by omega)) g
theorem fort_167 {a1 a2 c : Int} {s : xW} {k : Int → xW → Option (Int × xW)} (h1 : 0 ≤ a1 ∧ a1 ≤ 20) (h2 : 0 ≤ a2 ∧ a2 ≤ 20) (hc : 0 ≤ c ∧ c ≤ a1) (hs : xTb s a2 (a1 + 1) 0) :
    ∀ (j i fu : Nat), (i : Int) + j = a2 + 1 → j < fu → (∃ d : Int, ((i : Int) ≤ d ∧ d ≤ a2) ∧ xgm a1 a2 c d ∧ (∀ x : Int, (i : Int) ≤ x → x < d → ¬ xgm a1 a2 c x) ∧ F_X11_forts_167 a1 a2 c fu (i : Int) (xu s 121 1 0) k = k (a2 + 1) (xe2 s c d)) ∨ ((∀ x : Int, (i : Int) ≤ x → x ≤ a2 → ¬ xgm a1 a2 c x) ∧ F_X11_forts_167 a1 a2 c fu (i : Int) (xu s 121 1 0) k = k (a2 + 1) (xu s 121 1 0)) := by
  intro j
  induction j with
  | zero =>
    intro i fu hi hfu
    obtain ⟨fu, rfl⟩ : ∃ g, fu = g + 1 := ⟨fu - 1, by omega⟩
    have ei : (i : Int) = a2 + 1 := by omega
    refine Or.inr ⟨fun x x1 x2 => by omega, ?_⟩
    rw [ei, F_X11_forts_167, xw_sm (x := a2 + 1) (by omega) (by omega), xw_sm (x := a2) (by omega) (by omega), if_neg (by omega)]
  | succ j ih =>
    intro i fu hi hfu
    obtain ⟨fu, rfl⟩ : ∃ g, fu = g + 1 := ⟨fu - 1, by omega⟩
    have g := ih (i + 1) fu (by omega) (by omega)
    rw [show ((i + 1 : Nat) : Int) = (i : Int) + 1 by omega] at g
    have e : F_X11_forts_167 a1 a2 c (fu + 1) (i : Int) (xu s 121 1 0) k = if xgm a1 a2 c (i : Int) then F_X11_forts_167 a1 a2 c fu ((i : Int) + 1) (xe2 s c (i : Int)) k else F_X11_forts_167 a1 a2 c fu ((i : Int) + 1) (xu s 121 1 0) k := by
      rw [F_X11_forts_167, xw_sm (x := (i : Int)) (by omega) (by omega), xw_sm (x := a2) (by omega) (by omega), if_pos (by omega), xjn, xu_same, if_pos (show xw 0 = 0 by decide), good_m (s := xu s 121 1 0) h1 h2 (by omega) (by omega) (fun hm h1 h2 => by
        rw [xu_row _ _ _ (show (149 : Int) ≠ 121 by decide)]
        exact hs _ _ (by omega) (by omega) (by omega) (by omega))]
      simp only [xbp_s, xbd_s, xls, xli, xlt, xjn]
      rw [xw_b01, xw_sm (x := c) (by omega) (by omega)]
      by_cases z : xgm a1 a2 c (i : Int)
      · rw [decide_eq_true z, if_pos (show b01 true ≠ 0 by decide), if_pos z, ent_1]
        simp only [xbp_s, xbd_s, xls, xli, xlt, xjn]
        rw [ent_2]
        rfl
      · rw [decide_eq_false z, if_neg (show ¬ b01 false ≠ 0 by decide), if_neg z]
    rw [e]
    by_cases z : xgm a1 a2 c (i : Int)
    · refine Or.inl ⟨i, by omega, z, fun x x1 x2 => by omega, ?_⟩
      rw [if_pos z, show ((i : Int) + 1) = ((i + 1 : Nat) : Int) by omega]
      exact fort_167f h2 (by simp [xe2, xu]) j (i + 1) fu (by omega) (by omega)
    · rw [if_neg z]
      rcases g with ⟨d, g1, g2, g3, g4⟩ | ⟨g1, g2⟩
      · refine Or.inl ⟨d, by omega, g2, fun x x1 x2 => ?_, g4⟩
        by_cases w : x = i
        · rw [w]; exact z
        · exact g3 x (by omega) x2
      · refine Or.inr ⟨fun x x1 x2 => ?_, g2⟩
        by_cases w : x = i
        · rw [w]; exact z
        · exact g1 x (by omega) x2
/-- the first good move of all -/
def xfst1 (a1 a2 i c d : Int) : Prop := (i ≤ c ∧ c ≤ a1) ∧ (0 ≤ d ∧ d ≤ a2) ∧ xgm a1 a2 c d ∧ (∀ x y : Int, i ≤ x → x < c → 0 ≤ y → y ≤ a2 → ¬ xgm a1 a2 x y) ∧ (∀ y : Int, 0 ≤ y → y < d → ¬ xgm a1 a2 c y)
theorem fort_159 {a1 a2 : Int} {s : xW} {k : Int → xW → Option (Int × xW)} (h1 : 0 ≤ a1 ∧ a1 ≤ 20) (h2 : 0 ≤ a2 ∧ a2 ≤ 20) (hs : xTb s a2 (a1 + 1) 0) :
    ∀ (j i fu : Nat), (i : Int) + j = a1 + 1 → j < fu → (∃ c d : Int, xfst1 a1 a2 i c d ∧ F_X11_forts_159 a1 a2 fu (i : Int) (xu s 121 1 0) k = k (a1 + 1) (xe2 s c d)) ∨ ((∀ x y : Int, (i : Int) ≤ x → x ≤ a1 → 0 ≤ y → y ≤ a2 → ¬ xgm a1 a2 x y) ∧ F_X11_forts_159 a1 a2 fu (i : Int) (xu s 121 1 0) k = k (a1 + 1) (xu s 121 1 0)) := by
  intro j
  induction j with
  | zero =>
    intro i fu hi hfu
    obtain ⟨fu, rfl⟩ : ∃ g, fu = g + 1 := ⟨fu - 1, by omega⟩
    have ei : (i : Int) = a1 + 1 := by omega
    refine Or.inr ⟨fun x y x1 x2 => by omega, ?_⟩
    rw [ei, F_X11_forts_159, xw_sm (x := a1 + 1) (by omega) (by omega), xw_sm (x := a1) (by omega) (by omega), if_neg (by omega)]
  | succ j ih =>
    intro i fu hi hfu
    have hN := xN_ge
    obtain ⟨fu, rfl⟩ : ∃ g, fu = g + 1 := ⟨fu - 1, by omega⟩
    have g := ih (i + 1) fu (by omega) (by omega)
    rw [show ((i + 1 : Nat) : Int) = (i : Int) + 1 by omega] at g
    have e : F_X11_forts_159 a1 a2 (fu + 1) (i : Int) (xu s 121 1 0) k = F_X11_forts_167 a1 a2 (i : Int) xN ((0 : Nat) : Int) (xu s 121 1 0) (fun (l4_105 : Int) (s106 : xW) => F_X11_forts_159 a1 a2 fu ((i : Int) + 1) s106 k) := by
      rw [F_X11_forts_159, xw_sm (x := (i : Int)) (by omega) (by omega), xw_sm (x := a1) (by omega) (by omega), if_pos (by omega)]
      rfl
    rw [e]
    rcases fort_167 (c := (i : Int)) (k := fun (l4_105 : Int) (s106 : xW) => F_X11_forts_159 a1 a2 fu ((i : Int) + 1) s106 k) h1 h2 (by omega) hs (a2 + 1).toNat 0 xN (by omega) (by omega) with ⟨d, u1, u2, u3, u4⟩ | ⟨u1, u2⟩
    · refine Or.inl ⟨i, d, ⟨by omega, by omega, u2, fun x y x1 x2 => by omega, fun y y1 y2 => u3 y (by omega) y2⟩, ?_⟩
      refine Eq.trans u4 ?_
      rw [show ((i : Int) + 1) = ((i + 1 : Nat) : Int) by omega]
      exact fort_159f h1 h2 (by simp [xe2, xu]) j (i + 1) fu (by omega) (by omega)
    · rcases g with ⟨c, d, ⟨g1, g2, g3, g4, g5⟩, g6⟩ | ⟨g1, g2⟩
      · refine Or.inl ⟨c, d, ⟨by omega, g2, g3, fun x y x1 x2 y1 y2 => ?_, g5⟩, Eq.trans u2 g6⟩
        by_cases w : x = i
        · rw [w]; exact u1 y (by omega) y2
        · exact g4 x y (by omega) x2 y1 y2
      · refine Or.inr ⟨fun x y x1 x2 y1 y2 => ?_, Eq.trans u2 g2⟩
        by_cases w : x = i
        · rw [w]; exact u1 y (by omega) y2
        · exact g1 x y (by omega) x2 y1 y2
