/-! hands -/
theorem bor_all : ∀ (S : Fin 256) (d : Fin 8), (0 ≤ xor' S.val (xshl 1 d.val) ∧ xor' S.val (xshl 1 d.val) < 256) ∧ ∀ e : Fin 8, xbt (xor' S.val (xshl 1 d.val)) e.val = (xbt S.val e.val || decide (e.val = d.val)) := by decide +kernel
theorem bor_b {S d : Int} (hS : 0 ≤ S ∧ S < 256) (hd : 0 ≤ d ∧ d < 8) : (0 ≤ xor' S (xshl 1 d) ∧ xor' S (xshl 1 d) < 256) ∧ ∀ e : Int, 0 ≤ e → e < 8 → xbt (xor' S (xshl 1 d)) e = (xbt S e || decide (e = d)) := by
  obtain ⟨a, rfl⟩ := Int.eq_ofNat_of_zero_le hS.1
  obtain ⟨c, rfl⟩ := Int.eq_ofNat_of_zero_le hd.1
  have g := bor_all ⟨a, by omega⟩ ⟨c, by omega⟩
  refine ⟨g.1, fun e e1 e2 => ?_⟩
  obtain ⟨x, rfl⟩ := Int.eq_ofNat_of_zero_le e1
  have := g.2 ⟨x, by omega⟩
  have e3 : decide ((x : Int) = (c : Int)) = decide (x = c) := by
    by_cases z : x = c
    · rw [decide_eq_true z, decide_eq_true (by omega)]
    · rw [decide_eq_false z, decide_eq_false (by omega)]
  rw [e3]
  exact this
abbrev xmeet (b l : Int → Int) (d e : Int) : Prop := b d < b e + l e ∧ b e < b d + l d
theorem free_loop {b l : Int → Int} {S d n : Int} {s : xW} {k : Int → Int → Option Int} (hS : 0 ≤ S ∧ S < 256) (hn : 0 ≤ n ∧ n ≤ 8) (hX : Xbg 127 s) (e0 : s 121 4 = n) (hd : 0 ≤ d ∧ d < n) (hb : ∀ e : Int, 0 ≤ e → e < n → s 135 e = b e ∧ s 127 (24 + e) = l e) :
    ∀ (j i fu : Nat), (i : Int) + j = n → j < fu → F_X11_isFree_5 S d s fu (b01 (xalls (fun e => !xbt S e || !decide (xmeet b l d e)) i)) (i : Int) k = k (b01 (xalls (fun e => !xbt S e || !decide (xmeet b l d e)) n.toNat)) n := by
  intro j
  induction j with
  | zero =>
    intro i fu hi hfu
    obtain ⟨fu, rfl⟩ : ∃ g, fu = g + 1 := ⟨fu - 1, by omega⟩
    have ei : (i : Int) = n := by omega
    have ei2 : n.toNat = i := by omega
    rw [ei, F_X11_isFree_5, e0, if_neg (Int.lt_irrefl _), ei2]
  | succ j ih =>
    intro i fu hi hfu
    obtain ⟨fu, rfl⟩ : ∃ g, fu = g + 1 := ⟨fu - 1, by omega⟩
    have g := ih (i + 1) fu (by omega) (by omega)
    rw [show ((i + 1 : Nat) : Int) = (i : Int) + 1 by omega, xalls] at g
    have b1 := hb d hd.1 hd.2
    have b2 := hb i (by omega) (by omega)
    have hm := meet_m (r := 127) (a := d) (c := (i : Int)) (Or.inl rfl) hX (by rw [e0]; exact hd) (by rw [e0]; omega)
    rw [b1.1, b1.2, b2.1, b2.2] at hm
    rw [F_X11_isFree_5, e0, xw_sm (x := (i : Int)) (by omega) (by omega), xw_sm (x := n) (by omega) (by omega), if_pos (by omega), xw_b01, xw_sm (x := S) (by omega) (by omega), has_m hS (by omega), hm]
    simp only [xjn, xbp_n]
    rw [xw_b01]
    cases z : xalls (fun e => !xbt S e || !decide (xmeet b l d e)) i with
    | false =>
      rw [z, Bool.false_and] at g
      rw [if_neg (show ¬ b01 false ≠ 0 by decide)]
      exact g
    | true =>
      rw [z, Bool.true_and] at g
      rw [if_pos (show b01 true ≠ 0 by decide)]
      cases z2 : xbt S (i : Int) with
      | false =>
        rw [z2] at g
        rw [if_neg (show ¬ b01 false ≠ 0 by decide)]
        exact g
      | true =>
        rw [z2] at g
        rw [if_pos (show b01 true ≠ 0 by decide), xif01]
        by_cases z3 : xmeet b l d i
        · rw [decide_eq_true z3] at g
          rw [if_pos z3, if_neg (show ¬ (1 : Int) = 0 by decide)]
          exact g
        · rw [decide_eq_false z3] at g
          rw [if_neg z3, if_pos (show (0 : Int) = 0 by decide)]
          exact g
theorem free_m {b l : Int → Int} {S d n : Int} {s : xW} (hS : 0 ≤ S ∧ S < 256) (hn : 0 ≤ n ∧ n ≤ 8) (hX : Xbg 127 s) (e0 : s 121 4 = n) (hd : 0 ≤ d ∧ d < n) (hb : ∀ e : Int, 0 ≤ e → e < n → s 135 e = b e ∧ s 127 (24 + e) = l e) : F_X11_isFree S d s = some (b01 (xalls (fun e => !xbt S e || !decide (xmeet b l d e)) n.toNat)) := by
  have hN := xN_ge
  unfold F_X11_isFree
  refine Eq.trans (free_loop (k := fun (l3_26 : Int) (l4_27 : Int) => xgd (l3_26 = 0 ∨ l3_26 = 1) <| some l3_26) hS hn hX e0 hd hb n.toNat 0 xN (by omega) (by omega)) ?_
  rw [xgd_t (by have := b01_r (xalls (fun e => !xbt S e || !decide (xmeet b l d e)) n.toNat); omega)]
/-- the hands after i deeds: m of them; S the sets, F when they are free -/
def Xhd (b l A S F : Int → Int) (n m i : Int) : Prop := (0 ≤ m ∧ m ≤ i) ∧ (∀ h : Int, 0 ≤ h → h < m → (0 ≤ S h ∧ S h < 256) ∧ (0 ≤ F h ∧ F h ≤ 10000) ∧ (∀ e : Int, 0 ≤ e → e < n → xbt (S h) e = true → (∃ y : Int, (0 ≤ y ∧ y < i) ∧ A y = e) ∧ b e + l e ≤ F h) ∧ (∃ e : Int, (0 ≤ e ∧ e < n) ∧ xbt (S h) e = true ∧ b e + l e = F h)) ∧ (∀ h : Int, m ≤ h → h < 8 → S h = 0)
theorem hand_ex {P : Int → Prop} [DecidablePred P] {m : Int} (hm : 0 ≤ m) : ∃ H : Int, (0 ≤ H ∧ H ≤ m) ∧ (∀ h : Int, 0 ≤ h → h < H → ¬ P h) ∧ (H = m ∨ P H) := by
  have key : ∀ j : Nat, (j : Int) ≤ m → (∃ H : Int, (0 ≤ H ∧ H ≤ m) ∧ (∀ h : Int, 0 ≤ h → h < H → ¬ P h) ∧ (H = m ∨ P H)) ∨ (∀ h : Int, 0 ≤ h → h < j → ¬ P h) := by
    intro j
    induction j with
    | zero => intro _; exact Or.inr (fun h h1 h2 => by omega)
    | succ j ih =>
      intro hj
      rcases ih (by omega) with w | w
      · exact Or.inl w
      · by_cases z : P j
        · exact Or.inl ⟨j, by omega, w, Or.inr z⟩
        · refine Or.inr (fun h h1 h2 => ?_)
          by_cases u : h = j
          · rw [u]; exact z
          · exact w h h1 (by omega)
  rcases key m.toNat (by omega) with w | w
  · exact w
  · exact ⟨m, by omega, fun h h1 h2 => w h h1 (by omega), Or.inl rfl⟩
theorem share_22 {b F : Int → Int} {m i d H : Int} {s : xW} {k : Int → Option (Int × xW)} (hm : 0 ≤ m ∧ m ≤ 8) (hd : 0 ≤ d ∧ d < 8) (hb : s 95 d = b d ∧ 0 ≤ b d ∧ b d ≤ 10000) (hF : ∀ h : Int, 0 ≤ h → h < m → s 99 h = F h ∧ 0 ≤ F h ∧ F h ≤ 10000) (hH : 0 ≤ H ∧ H ≤ m) (h1 : ∀ h : Int, 0 ≤ h → h < H → ¬ F h ≤ b d) (h2 : H = m ∨ F H ≤ b d) :
    ∀ (j x fu : Nat), (x : Int) + j = H → j < fu → F_X4_shareOut_22 m i d s fu (x : Int) k = k H := by
  intro j
  induction j with
  | zero =>
    intro x fu hx hfu
    obtain ⟨fu, rfl⟩ : ∃ g, fu = g + 1 := ⟨fu - 1, by omega⟩
    have ex : (x : Int) = H := by omega
    rw [ex, F_X4_shareOut_22, xw_sm (x := H) (by omega) (by omega), xw_sm (x := m) (by omega) (by omega)]
    by_cases z : H < m
    · have f := hF H hH.1 z
      rw [if_pos z, xgd_t (by omega), xgd_t hd, hb.1, f.1, xw_sm (x := b d) (by omega) (by omega), xw_sm (x := F H) (by omega) (by omega), if_neg (by omega)]
    · rw [if_neg z]
  | succ j ih =>
    intro x fu hx hfu
    obtain ⟨fu, rfl⟩ : ∃ g, fu = g + 1 := ⟨fu - 1, by omega⟩
    have g := ih (x + 1) fu (by omega) (by omega)
    rw [show ((x + 1 : Nat) : Int) = (x : Int) + 1 by omega] at g
    have f := hF x (by omega) (by omega)
    have f1 := h1 x (by omega) (by omega)
    rw [F_X4_shareOut_22, xw_sm (x := (x : Int)) (by omega) (by omega), xw_sm (x := m) (by omega) (by omega), if_pos (by omega), xgd_t (by omega), xgd_t hd, hb.1, f.1, xw_sm (x := b d) (by omega) (by omega), xw_sm (x := F x) (by omega) (by omega), if_pos (by omega)]
    exact g
theorem hands_52 {S : Int → Int} {q : Int → Bool} {m i d H : Int} {s : xW} {k : Int → Option (Int × xW)} (hi : 0 ≤ i ∧ i < 8) (hH : 0 ≤ H ∧ H < 8) (hs : s 141 i = d) (hS : ∀ h : Int, 0 ≤ h → h ≤ H → s 144 h = S h) (hf : ∀ h : Int, 0 ≤ h → h ≤ H → F_X11_isFree (S h) d s = some (b01 (q h))) (h1 : ∀ h : Int, 0 ≤ h → h < H → q h = false) (h2 : q H = true) :
    ∀ (j x fu : Nat), (x : Int) + j = H → j < fu → F_X11_hands_52 m i s fu (x : Int) k = k H := by
  intro j
  induction j with
  | zero =>
    intro x fu hx hfu
    obtain ⟨fu, rfl⟩ : ∃ g, fu = g + 1 := ⟨fu - 1, by omega⟩
    have ex : (x : Int) = H := by omega
    rw [ex, F_X11_hands_52, xgd_t hH, xgd_t hi, hs, hS H hH.1 (Int.le_refl _), hf H hH.1 (Int.le_refl _), h2]
    simp only [xbp_n]
    rw [if_neg (show ¬ xw (b01 true) = 0 by decide)]
  | succ j ih =>
    intro x fu hx hfu
    obtain ⟨fu, rfl⟩ : ∃ g, fu = g + 1 := ⟨fu - 1, by omega⟩
    have g := ih (x + 1) fu (by omega) (by omega)
    rw [show ((x + 1 : Nat) : Int) = (x : Int) + 1 by omega] at g
    rw [F_X11_hands_52, xgd_t (by omega), xgd_t hi, hs, hS x (by omega) (by omega), hf x (by omega) (by omega), h1 x (by omega) (by omega)]
    simp only [xbp_n]
    rw [if_pos (show xw (b01 false) = 0 by decide)]
    exact g
theorem hands_l {b l A : Int → Int} {n : Int} {s0 t0 : xW} {kC kM : Int → Int → xW → Option (Int × xW)} (hn : 0 ≤ n ∧ n ≤ 8) (e0 : s0 92 0 = n) (e1 : t0 121 4 = n) (hX : Xbg 127 t0) (hA : Xso b A n.toNat) (hb : ∀ d : Int, 0 ≤ d → d < n → (0 ≤ b d ∧ b d ≤ 108) ∧ (1 ≤ l d ∧ l d ≤ 9) ∧ s0 95 d = b d ∧ s0 96 d = b d + l d ∧ t0 135 d = b d ∧ t0 127 (24 + d) = l d) (hA1 : ∀ x : Int, 0 ≤ x → x < n → s0 97 x = A x ∧ t0 141 x = A x) :
    ∀ (j i fu gu : Nat) (m : Int) (s t : xW), (i : Int) + j = n → j < fu → j < gu → (∀ c : Int, c ≠ 98 → c ≠ 99 → s c = s0 c) → (∀ c : Int, c ≠ 144 → c ≠ 145 → t c = t0 c) → Xhd b l A (t 144) (s 99) n m i → (∀ x : Int, 0 ≤ x → x < i → s 98 (A x) = t 145 (A x) ∧ 0 ≤ s 98 (A x) ∧ s 98 (A x) ≤ 7) →
    ∃ m' s' t', F_X4_shareOut_4 fu m (i : Int) s kC = kC m' n s' ∧ F_X11_hands_42 gu m (i : Int) t kM = kM m' n t' ∧ (∀ c : Int, c ≠ 98 → c ≠ 99 → s' c = s0 c) ∧ (∀ c : Int, c ≠ 144 → c ≠ 145 → t' c = t0 c) ∧ (∀ x : Int, 0 ≤ x → x < n → s' 98 (A x) = t' 145 (A x) ∧ 0 ≤ s' 98 (A x) ∧ s' 98 (A x) ≤ 7) := by
  have hN := xN_ge
  intro j
  induction j with
  | zero =>
    intro i fu gu m s t hi hfu hgu hc hd hv hr
    obtain ⟨fu, rfl⟩ : ∃ g, fu = g + 1 := ⟨fu - 1, by omega⟩
    obtain ⟨gu, rfl⟩ : ∃ g, gu = g + 1 := ⟨gu - 1, by omega⟩
    have ei : (i : Int) = n := by omega
    rw [ei] at hr
    refine ⟨m, s, t, ?_, ?_, hc, hd, hr⟩
    · rw [ei, F_X4_shareOut_4, hc 92 (by decide) (by decide), e0, if_neg (Int.lt_irrefl _)]
    · rw [ei, F_X11_hands_42, hd 121 (by decide) (by decide), e1, if_neg (Int.lt_irrefl _)]
  | succ j ih =>
    intro i fu gu m s t hi hfu hgu hc hd hv hr
    obtain ⟨fu, rfl⟩ : ∃ g, fu = g + 1 := ⟨fu - 1, by omega⟩
    obtain ⟨gu, rfl⟩ : ∃ g, gu = g + 1 := ⟨gu - 1, by omega⟩
    obtain ⟨v1, v2, v3⟩ := id hv
    have ga := hA i (by omega) (by omega)
    obtain ⟨d, hdd⟩ : ∃ d, d = A (i : Int) := ⟨_, rfl⟩
    rw [← hdd] at ga
    have hA2 := hA1 i (by omega) (by omega)
    rw [← hdd] at hA2
    have hbd := hb d ga.1.1 (by omega)
    have es : s 97 = s0 97 := hc 97 (by decide) (by decide)
    have et : t 141 = t0 141 := hd 141 (by decide) (by decide)
    obtain ⟨H, q1, q2, q3⟩ := hand_ex (P := fun h => s 99 h ≤ b d) v1.1
    -- those before d begin no later
    have hbe : ∀ e : Int, (∃ y : Int, (0 ≤ y ∧ y < (i : Int)) ∧ A y = e) → b e ≤ b d := by
      rintro e ⟨y, y1, y2⟩
      have gy := hA y y1.1 (by omega)
      rw [y2] at gy
      by_cases z : b d < b e
      · have := xplc_lt (n := n.toNat) (show xbef b d e from Or.inl z) ga.1.1 (by omega)
        omega
      · omega
    have hfr : ∀ h : Int, 0 ≤ h → h < m → xalls (fun e => !xbt (t 144 h) e || !decide (xmeet b l d e)) n.toNat = decide (s 99 h ≤ b d) := fun h h1 h2 => by
      obtain ⟨w1, w2, w3, w4⟩ := v2 h h1 h2
      by_cases z : s 99 h ≤ b d
      · rw [decide_eq_true z, xalls_iff]
        intro e e1 e2
        cases z2 : xbt (t 144 h) e with
        | false => rfl
        | true =>
          have w := w3 e e1 (by omega) z2
          rw [decide_eq_false (show ¬ xmeet b l d e from fun u => by have := u.1; omega)]
          rfl
      · rw [decide_eq_false z, Bool.eq_false_iff]
        intro w
        rw [xalls_iff] at w
        obtain ⟨e, e1, e2, e3⟩ := w4
        have u := w e e1.1 (by omega)
        have hle := hbe e (w3 e e1.1 e1.2 e2).1
        simp only [e2, Bool.not_true, Bool.false_or] at u
        rw [decide_eq_true (show xmeet b l d e from ⟨by omega, by omega⟩)] at u
        exact nomatch u
    have hXt : Xbg 127 t := by
      unfold Xbg at *
      rw [hd 121 (by decide) (by decide), hd 135 (by decide) (by decide), hd 127 (by decide) (by decide)]
      exact hX
    have e1t : t 121 4 = n := by rw [hd 121 (by decide) (by decide)]; exact e1
    have hbt : ∀ e : Int, 0 ≤ e → e < n → t 135 e = b e ∧ t 127 (24 + e) = l e := fun e x y => by
      rw [hd 135 (by decide) (by decide), hd 127 (by decide) (by decide)]
      exact ⟨(hb e x y).2.2.2.2.1, (hb e x y).2.2.2.2.2⟩
    have hSr : ∀ h : Int, 0 ≤ h → h < 8 → 0 ≤ t 144 h ∧ t 144 h < 256 := fun h h1 h2 => by
      by_cases z : h < m
      · exact (v2 h h1 z).1
      · rw [v3 h (by omega) h2]; omega
    have h0 : xalls (fun e => !xbt (0 : Int) e || !decide (xmeet b l d e)) n.toNat = true := by
      rw [xalls_iff]
      intro e x1 x2
      rw [xbt_0 (by omega)]
      rfl
    have c1 := share_22 (b := b) (F := s 99) (m := m) (i := (i : Int)) (d := d) (H := H) (s := s) (k := fun (l4_16 : Int) =>
      xgd (0 ≤ (s 97 (i : Int)) ∧ (s 97 (i : Int)) < 8) <|
      xls (xu s 98 (s 97 (i : Int)) l4_16) fun s18 =>
      xgd (0 ≤ (s 97 (i : Int)) ∧ (s 97 (i : Int)) < 8) <|
      xgd (0 ≤ l4_16 ∧ l4_16 < 8) <|
      xls (xu s18 99 l4_16 (s18 96 (s 97 (i : Int)))) fun s22 =>
      F_X4_shareOut_4 fu (max (xw m) (xw (l4_16 + 1))) ((i : Int) + 1) s22 kC) (by omega) (by omega) (by rw [hc 95 (by decide) (by decide)]; exact ⟨hbd.2.2.1, by omega⟩) (fun h h1 h2 => ⟨rfl, (v2 h h1 h2).2.1⟩) q1 q2 q3 H.toNat 0 xN (by omega) (by omega)
    have c2 := hands_52 (S := t 144) (q := fun h => if h < m then decide (s 99 h ≤ b d) else true) (m := m) (i := (i : Int)) (d := d) (H := H) (s := t) (k := fun (l3_32 : Int) =>
      xgd (0 ≤ l3_32 ∧ l3_32 < 8) <|
      xgd (0 ≤ (i : Int) ∧ (i : Int) < 8) <|
      xgd (0 ≤ l3_32 ∧ l3_32 < 8) <|
      xls (xu t 144 l3_32 (xor' (t 144 l3_32) (xshl 1 (t 141 (i : Int))))) fun s36 =>
      xgd (0 ≤ (i : Int) ∧ (i : Int) < 8) <|
      xgd (0 ≤ (s36 141 (i : Int)) ∧ (s36 141 (i : Int)) < 8) <|
      xls (xu s36 145 (s36 141 (i : Int)) l3_32) fun s40 =>
      F_X11_hands_42 gu (max (xw m) (xw (l3_32 + 1))) ((i : Int) + 1) s40 kM) (by omega) (by omega) (by rw [et]; exact hA2.2) (fun _ _ _ => rfl) (fun h h1 h2 => by
        rw [free_m (b := b) (l := l) (hSr h h1 (by omega)) hn hXt e1t (by omega) hbt]
        by_cases z : h < m
        · rw [hfr h h1 z, if_pos z]
        · rw [if_neg z, v3 h (by omega) (by omega), h0]) (fun h h1 h2 => by
        rw [if_pos (show h < m by omega)]
        exact decide_eq_false (q2 h h1 h2)) (by
        by_cases z : H < m
        · rw [if_pos z]
          exact decide_eq_true (by rcases q3 with q | q; omega; exact q)
        · rw [if_neg z]) H.toNat 0 xN (by omega) (by omega)
    have hbo := bor_b (S := t 144 H) (d := d) (hSr H q1.1 (by omega)) (by omega)
    have em : max (xw m) (xw (H + 1)) = max m (H + 1) := by rw [xw_sm (x := m) (by omega) (by omega), xw_sm (x := H + 1) (by omega) (by omega)]
    obtain ⟨m', s', t', g1, g2, g3⟩ := ih (i + 1) fu gu (max m (H + 1)) (xu (xu s 98 d H) 99 H (b d + l d)) (xu (xu t 144 H (xor' (t 144 H) (xshl 1 d))) 145 d H) (by omega) (by omega) (by omega) (fun c z1 z2 => by rw [xu_row _ _ _ z2, xu_row _ _ _ z1]; exact hc c z1 z2) (fun c z1 z2 => by rw [xu_row _ _ _ z2, xu_row _ _ _ z1]; exact hd c z1 z2) (by
      rw [xu_row _ _ _ (show (144 : Int) ≠ 145 by decide)]
      refine ⟨by omega, fun h h1 h2 => ?_, fun h h1 h2 => ?_⟩
      · by_cases z : h = H
        · rw [z, xu_same, xu_same]
          refine ⟨hbo.1, by omega, fun e e1 e2 e3 => ?_, ⟨d, by omega, ?_, rfl⟩⟩
          · rw [hbo.2 e e1 (by omega), Bool.or_eq_true] at e3
            rcases e3 with e3 | e3
            · by_cases z2 : H < m
              · have w := (v2 H q1.1 z2).2.2.1 e e1 e2 e3
                obtain ⟨⟨y, y1, y2⟩, w2⟩ := w
                have q3' : s 99 H ≤ b d := by rcases q3 with q | q; omega; exact q
                exact ⟨⟨y, by omega, y2⟩, by omega⟩
              · rw [v3 H (by omega) (by omega), xbt_0 (by omega)] at e3
                exact nomatch e3
            · have e4 := of_decide_eq_true e3
              rw [e4]
              exact ⟨⟨i, by omega, hdd.symm⟩, Int.le_refl _⟩
          · rw [hbo.2 d (by omega) (by omega), decide_eq_true rfl, Bool.or_true]
        · rw [xu_slot _ _ _ z, xu_slot _ _ _ z, xu_row _ _ _ (show (99 : Int) ≠ 98 by decide)]
          have w := v2 h h1 (by omega)
          exact ⟨w.1, w.2.1, fun e e1 e2 e3 => ⟨by
            obtain ⟨⟨y, y1, y2⟩, _⟩ := w.2.2.1 e e1 e2 e3
            exact ⟨y, by omega, y2⟩, (w.2.2.1 e e1 e2 e3).2⟩, w.2.2.2⟩
      · rw [xu_slot _ _ _ (by omega)]
        exact v3 h (by omega) h2) (fun x x1 x2 => by
      rw [xu_row _ _ _ (show (98 : Int) ≠ 99 by decide)]
      by_cases z : A x = d
      · rw [z, xu_same, xu_same]
        omega
      · rw [xu_slot _ _ _ z, xu_slot _ _ _ z, xu_row _ _ _ (show (145 : Int) ≠ 144 by decide)]
        refine hr x x1 ?_
        by_cases z2 : x = i
        · rw [z2] at z
          exact absurd hdd.symm z
        · omega)
    refine ⟨m', s', t', ?_, ?_, g3⟩
    · rw [F_X4_shareOut_4, hc 92 (by decide) (by decide), e0, xw_sm (x := (i : Int)) (by omega) (by omega), xw_sm (x := n) (by omega) (by omega), if_pos (by omega), xgd_t (by omega)]
      have e97 : s 97 (i : Int) = d := by rw [es]; exact hA2.1
      rw [e97] at c1 ⊢
      refine Eq.trans c1 ?_
      rw [xgd_t (by omega), xls, xlt, xgd_t (by omega), xgd_t (by omega), xls, xlt, em, xu_row _ _ _ (show (96 : Int) ≠ 98 by decide), hc 96 (by decide) (by decide), hbd.2.2.2.1, show ((i : Int) + 1) = ((i + 1 : Nat) : Int) by omega]
      exact g1
    · rw [F_X11_hands_42, e1t, xw_sm (x := (i : Int)) (by omega) (by omega), xw_sm (x := n) (by omega) (by omega), if_pos (by omega)]
      have e141 : t 141 (i : Int) = d := by rw [et]; exact hA2.2
      refine Eq.trans c2 ?_
      rw [xgd_t (by omega), xgd_t (by omega), xgd_t (by omega), xls, xlt, xgd_t (by omega), xu_row _ _ _ (show (141 : Int) ≠ 144 by decide), e141, xgd_t (by omega), xls, xlt, em, show ((i : Int) + 1) = ((i + 1 : Nat) : Int) by omega]
      exact g2
