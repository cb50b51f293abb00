/-! menders -/
theorem xor_4 (a b c d : Int) : xor' (xor' a b) (xor' c d) = xor' (xor' a c) (xor' b d) := by
  unfold xor'
  simp only [Int32.ofInt_toInt]
  rw [Int32.or_assoc, ← Int32.or_assoc (Int32.ofInt b), Int32.or_comm (Int32.ofInt b), Int32.or_assoc (Int32.ofInt c), ← Int32.or_assoc]
theorem xor_s {x : Int} (h : I32 x) : xor' x x = x := by
  unfold xor'
  rw [Int32.or_self]
  exact w32 h
theorem xor_0l {x : Int} (h : I32 x) : xor' 0 x = x := by
  unfold xor'
  rw [show Int32.ofInt 0 = 0 from rfl, Int32.zero_or]
  exact w32 h
theorem I32_shl (a b : Int) : I32 (xshl a b) := I32_toInt _
theorem xbits_or (p q : Int → Bool) : ∀ n : Nat, xor' (xbits p n) (xbits q n) = xbits (fun e => p e || q e) n
  | 0 => (by decide : xor' 0 0 = 0)
  | n + 1 => by
    rw [xbits_s, xbits_s, xbits_s, xor_4, xbits_or p q n]
    congr 1
    cases p n <;> cases q n
    · exact (by decide : xor' 0 0 = 0)
    · exact xor_0l (I32_shl _ _)
    · exact xor_0 (I32_shl _ _)
    · exact xor_s (I32_shl _ _)
theorem xbits_f : ∀ n : Nat, xbits (fun _ => false) n = 0
  | 0 => rfl
  | n + 1 => by
    rw [xbits_s, xbits_f n]
    exact (by decide : xor' 0 0 = 0)
theorem full_all : ∀ (n : Fin 9) (b0 b1 b2 b3 b4 b5 b6 b7 : Bool), xbits (fun k => if k = 0 then b0 else if k = 1 then b1 else if k = 2 then b2 else if k = 3 then b3 else if k = 4 then b4 else if k = 5 then b5 else if k = 6 then b6 else b7) n.val = xshl 1 n.val - 1 ↔ (∀ i : Fin 8, i.val < n.val → (if (i.val : Int) = 0 then b0 else if (i.val : Int) = 1 then b1 else if (i.val : Int) = 2 then b2 else if (i.val : Int) = 3 then b3 else if (i.val : Int) = 4 then b4 else if (i.val : Int) = 5 then b5 else if (i.val : Int) = 6 then b6 else b7) = true) := by decide +kernel
theorem xbits_full {q : Int → Bool} {n : Nat} (hn : n ≤ 8) : xbits q n = xshl 1 n - 1 ↔ ∀ e : Int, 0 ≤ e → e < n → q e = true := by
  rw [xbits_congr n (fun i a b => xq8 q i a (by omega))]
  rw [full_all ⟨n, by omega⟩ (q 0) (q 1) (q 2) (q 3) (q 4) (q 5) (q 6) (q 7)]
  constructor
  · intro h e e1 e2
    have := h ⟨e.toNat, by omega⟩ (by show e.toNat < n; omega)
    rw [xq8 q e e1 (by omega)]
    rw [show ((⟨e.toNat, by omega⟩ : Fin 8).val : Int) = e from (by show (e.toNat : Int) = e; omega)] at this
    exact this
  · intro h i hi
    have := h i.val (by omega) (by have : i.val < n := hi; omega)
    rw [xq8 q i.val (by omega) (by have := i.isLt; omega)] at this
    exact this
theorem xfa_c (a b : Int) : xfa a b = xfa b a := by
  unfold xfa xab
  repeat' split
  all_goals omega
def xnra (r : Int) (p : Int → Int) (h e : Int) : Bool := decide (xfa (p h) (p e) ≤ r)
/-- the houses that those of S can put right: house e -/
def xcv (r : Int) (p : Int → Int) (S : Int) (n : Nat) (e : Int) : Bool := xany (fun h => xbt S h && xnra r p h e) n
def xmd (r : Int) (p : Int → Int) (n : Nat) (S : Int) : Bool := decide (xbits (xcv r p S n) n = xshl 1 n - 1)
theorem near_in {r a n : Int} {s0 : xW} {k : Int → xW → Option (Int × xW)} (hr : 0 ≤ r ∧ r ≤ 18) (hn : 0 ≤ n ∧ n ≤ 8) (e0 : s0 0 14 = n) (ha : 0 ≤ a ∧ a < n) (hp : ∀ h : Int, 0 ≤ h → h < n → 0 ≤ s0 18 h ∧ s0 18 h ≤ 99) :
    ∀ (j i fu : Nat) (s : xW), (i : Int) + j = n → j < fu → (∀ c : Int, c ≠ 107 → s c = s0 c) → s 107 a = xbits (xnra r (s0 18) a) i → ∃ s', F_X10_findNear_19 r a fu (i : Int) s k = k n s' ∧ (∀ c : Int, c ≠ 107 → s' c = s0 c) ∧ s' 107 a = xbits (xnra r (s0 18) a) n.toNat ∧ (∀ x : Int, x ≠ a → s' 107 x = s 107 x) := by
  intro j
  induction j with
  | zero =>
    intro i fu s hi hfu hs hm
    obtain ⟨fu, rfl⟩ : ∃ g, fu = g + 1 := ⟨fu - 1, by omega⟩
    have ei : (i : Int) = n := by omega
    refine ⟨s, ?_, hs, by rw [show n.toNat = i by omega]; exact hm, fun _ _ => rfl⟩
    rw [ei, F_X10_findNear_19, hs 0 (by decide), e0, if_neg (Int.lt_irrefl _)]
  | succ j ih =>
    intro i fu s hi hfu hs hm
    obtain ⟨fu, rfl⟩ : ∃ g, fu = g + 1 := ⟨fu - 1, by omega⟩
    have p1 := hp a ha.1 ha.2
    have p2 := hp i (by omega) (by omega)
    have hfa := xfa_r p1 p2
    obtain ⟨s', g1, g2, g3, g4⟩ := ih (i + 1) fu (xu s 107 a (xor' (s 107 a) (if xfa (s0 18 a) (s0 18 i) ≤ r then xshl 1 (i : Int) else 0))) (by omega) (by omega) (fun c z => by rw [xu_row _ _ _ z]; exact hs c z) (by
      rw [xu_same, hm, xbits_s]
      congr 1
      unfold xnra
      by_cases z : xfa (s0 18 a) (s0 18 (i : Int)) ≤ r
      · rw [if_pos z, if_pos (decide_eq_true z)]
      · rw [if_neg z, if_neg (by rw [decide_eq_false z]; decide)])
    refine ⟨s', ?_, g2, g3, fun x x1 => by rw [g4 x x1, xu_slot _ _ _ x1]⟩
    rw [F_X10_findNear_19, hs 0 (by decide), hs 18 (by decide), e0, xw_sm (x := (i : Int)) (by omega) (by omega), xw_sm (x := n) (by omega) (by omega), if_pos (by omega), xgd_t (by omega), xgd_t (by omega), xgd_t (by omega), far_c p1 p2]
    simp only [xbp_s, xbd_s, xls, xli, xlt, xjn]
    rw [xgd_t (by omega), xw_sm (x := xfa (s0 18 a) (s0 18 (i : Int))) (by omega) (by omega), xw_sm (x := r) (by omega) (by omega), show ((i : Int) + 1) = ((i + 1 : Nat) : Int) by omega]
    exact g1
theorem near_out {r n : Int} {s0 : xW} {k : Int → xW → Option (Int × xW)} (hr : 0 ≤ r ∧ r ≤ 18) (hn : 0 ≤ n ∧ n ≤ 8) (e0 : s0 0 14 = n) (hp : ∀ h : Int, 0 ≤ h → h < n → 0 ≤ s0 18 h ∧ s0 18 h ≤ 99) :
    ∀ (j i fu : Nat) (s : xW), (i : Int) + j = n → j < fu → (∀ c : Int, c ≠ 107 → s c = s0 c) → (∀ x : Int, 0 ≤ x → x < i → s 107 x = xbits (xnra r (s0 18) x) n.toNat) → ∃ s', F_X10_findNear_2 r fu (i : Int) s k = k n s' ∧ (∀ c : Int, c ≠ 107 → s' c = s0 c) ∧ (∀ x : Int, 0 ≤ x → x < n → s' 107 x = xbits (xnra r (s0 18) x) n.toNat) := by
  have hN := xN_ge
  intro j
  induction j with
  | zero =>
    intro i fu s hi hfu hs hm
    obtain ⟨fu, rfl⟩ : ∃ g, fu = g + 1 := ⟨fu - 1, by omega⟩
    have ei : (i : Int) = n := by omega
    rw [ei] at hm
    refine ⟨s, ?_, hs, hm⟩
    rw [ei, F_X10_findNear_2, hs 0 (by decide), e0, if_neg (Int.lt_irrefl _)]
  | succ j ih =>
    intro i fu s hi hfu hs hm
    obtain ⟨fu, rfl⟩ : ∃ g, fu = g + 1 := ⟨fu - 1, by omega⟩
    obtain ⟨s1, u1, u2, u3, u4⟩ := near_in (r := r) (a := (i : Int)) (k := fun (l3_27 : Int) (s28 : xW) => F_X10_findNear_2 r fu ((i + 1 : Nat) : Int) s28 k) hr hn e0 (by omega) hp n.toNat 0 xN (xu s 107 (i : Int) 0) (by omega) (by omega) (fun c z => by rw [xu_row _ _ _ z]; exact hs c z) (by rw [xu_same]; rfl)
    obtain ⟨s', g1, g2, g3⟩ := ih (i + 1) fu s1 (by omega) (by omega) u2 (fun x x1 x2 => by
      by_cases z : x = i
      · rw [z]; exact u3
      · rw [u4 x z, xu_slot _ _ _ z]
        exact hm x x1 (by omega))
    refine ⟨s', ?_, g2, g3⟩
    rw [F_X10_findNear_2, hs 0 (by decide), e0, xw_sm (x := (i : Int)) (by omega) (by omega), xw_sm (x := n) (by omega) (by omega), if_pos (by omega), xgd_t (by omega), xls, xlt, show ((i : Int) + 1) = ((i + 1 : Nat) : Int) by omega]
    exact Eq.trans u1 g1
theorem nearOf_loop {S r n : Int} {p : Int → Int} {s : xW} {k : Int → Int → Option Int} (hS : 0 ≤ S ∧ S < 256) (hn : 0 ≤ n ∧ n ≤ 8) (e0 : s 0 14 = n) (hm : ∀ x : Int, 0 ≤ x → x < n → s 107 x = xbits (xnra r p x) n.toNat) :
    ∀ (j i fu : Nat), (i : Int) + j = n → j < fu → F_X10_nearOf_4 S s fu (xbits (xcv r p S i) n.toNat) (i : Int) k = k (xbits (xcv r p S n.toNat) n.toNat) n := by
  intro j
  induction j with
  | zero =>
    intro i fu hi hfu
    obtain ⟨fu, rfl⟩ : ∃ g, fu = g + 1 := ⟨fu - 1, by omega⟩
    have ei : (i : Int) = n := by omega
    have ei2 : n.toNat = i := by omega
    rw [ei, F_X10_nearOf_4, e0, if_neg (Int.lt_irrefl _), ei2]
  | succ j ih =>
    intro i fu hi hfu
    obtain ⟨fu, rfl⟩ : ∃ g, fu = g + 1 := ⟨fu - 1, by omega⟩
    have g := ih (i + 1) fu (by omega) (by omega)
    rw [show ((i + 1 : Nat) : Int) = (i : Int) + 1 by omega] at g
    rw [F_X10_nearOf_4, e0, xw_sm (x := (i : Int)) (by omega) (by omega), xw_sm (x := n) (by omega) (by omega), if_pos (by omega), (bit_b hS (by omega)).1, xw_b01]
    simp only [xbp_s, xbd_s, xls, xli, xlt, xjn]
    cases z : xbt S (i : Int) with
    | true =>
      rw [if_pos (by decide), xgd_t (by omega), hm i (by omega) (by omega), xbits_or]
      have e : (fun e => xcv r p S i e || xnra r p (i : Int) e) = xcv r p S (i + 1) := by
        funext e
        unfold xcv
        rw [xany, z, Bool.true_and]
      rw [e]
      exact g
    | false =>
      rw [if_neg (by decide), xor_0 (xbits_I _ _)]
      have e : xcv r p S i = xcv r p S (i + 1) := by
        funext e
        unfold xcv
        rw [xany, z, Bool.false_and, Bool.or_false]
      rw [e]
      exact g
theorem nearOf_c {S r n : Int} {p : Int → Int} {s : xW} (hS : 0 ≤ S ∧ S < 256) (hn : 0 ≤ n ∧ n ≤ 8) (e0 : s 0 14 = n) (hm : ∀ x : Int, 0 ≤ x → x < n → s 107 x = xbits (xnra r p x) n.toNat) : F_X10_nearOf S s = some (xbits (xcv r p S n.toNat) n.toNat) := by
  have hN := xN_ge
  unfold F_X10_nearOf
  have := nearOf_loop (k := fun (l2_14 : Int) (l3_15 : Int) => some l2_14) hS hn e0 hm n.toNat 0 xN (by omega) (by omega)
  rw [show xcv r p S 0 = fun _ => false from rfl, xbits_f] at this
  exact this
theorem mend_loopC {n r : Int} {p : Int → Int} {s : xW} {k : Int → Int → Int → Option (Int × xW)} (hn : 0 ≤ n ∧ n ≤ 8) (e0 : s 0 14 = n) (hm : ∀ x : Int, 0 ≤ x → x < n → s 107 x = xbits (xnra r p x) n.toNat) :
    ∀ (j i f : Nat) (a b : Int), (i : Int) + j = xshl 1 n → j < f → (a = if xfw (xmd r p n.toNat) i < 0 then n + 1 else xbc (xfw (xmd r p n.toNat) i)) → (b = if xfw (xmd r p n.toNat) i < 0 then 0 else xfw (xmd r p n.toNat) i) →
    ∃ a' b', F_X10_menders_31 (xshl 1 n - 1) s f a b i k = k a' b' (xshl 1 n) ∧ (a' = if xfw (xmd r p n.toNat) (xshl 1 n).toNat < 0 then n + 1 else xbc (xfw (xmd r p n.toNat) (xshl 1 n).toNat)) ∧ (b' = if xfw (xmd r p n.toNat) (xshl 1 n).toNat < 0 then 0 else xfw (xmd r p n.toNat) (xshl 1 n).toNat) := by
  have hal := all_b hn
  have hnn : ((n.toNat : Nat) : Int) = n := by omega
  intro j
  induction j with
  | zero =>
    intro i f a b hi hf ha hb
    obtain ⟨f, rfl⟩ : ∃ f', f = f' + 1 := ⟨f - 1, by omega⟩
    refine ⟨a, b, ?_, by rw [show (xshl 1 n).toNat = i by omega]; exact ha, by rw [show (xshl 1 n).toNat = i by omega]; exact hb⟩
    unfold F_X10_menders_31
    rw [xw_sm (by omega) (by omega), xw_sm (by omega) (by omega), if_neg (by omega), show xshl 1 n = (i : Int) by omega]
  | succ j ih =>
    intro i f a b hi hf ha hb
    obtain ⟨f, rfl⟩ : ∃ f', f = f' + 1 := ⟨f - 1, by omega⟩
    have hs := set_b (S := i) hn (by omega)
    have hr := xfw_r (xmd r p n.toNat) i
    have hpc := nearOf_c (S := i) (by omega) hn e0 hm
    have hxs : xfw (xmd r p n.toNat) (i + 1) = if (xfw (xmd r p n.toNat) i < 0 ∨ xbc i < xbc (xfw (xmd r p n.toNat) i)) ∧ xmd r p n.toNat i = true then (i : Int) else xfw (xmd r p n.toNat) i := rfl
    have next := fun a1 b1 => ih (i + 1) f a1 b1 (by omega) (by omega)
    have hw : 0 ≤ a ∧ a ≤ 9 := by
      rw [ha]
      split
      · omega
      · have := set_b (S := xfw (xmd r p n.toNat) i) hn (by omega)
        omega
    have hP : (xbits (xcv r p i n.toNat) n.toNat = xshl 1 n - 1) ↔ xmd r p n.toNat i = true := by
      unfold xmd
      rw [hnn]
      exact ⟨fun w => decide_eq_true w, fun w => of_decide_eq_true w⟩
    rw [F_X10_menders_31]
    simp only [xbp_s, xbd_s, xls, xli, xlt, xjn]
    rw [xw_sm (x := (i : Int)) (by omega) (by omega), xw_sm (x := xshl 1 n - 1) (by omega) (by omega), if_pos (by omega), xw_sm (x := xbc i) (by omega) (by omega), xw_sm (x := a) (by omega) (by omega), hpc, show ((i : Int) + 1) = ((i + 1 : Nat) : Int) by omega]
    simp only [xbp_s, xbd_s, xls, xli, xlt, xjn]
    rw [xw_id (xbits_I _ _)]
    generalize xfw (xmd r p n.toNat) (i + 1) = G at *
    generalize xfw (xmd r p n.toNat) i = F at *
    generalize xmd r p n.toNat i = P at *
    have keep : G = F → ∃ a' b', F_X10_menders_31 (xshl 1 n - 1) s f a b ((i + 1 : Nat) : Int) k = k a' b' (xshl 1 n) ∧ (a' = if xfw (xmd r p n.toNat) (xshl 1 n).toNat < 0 then n + 1 else xbc (xfw (xmd r p n.toNat) (xshl 1 n).toNat)) ∧ (b' = if xfw (xmd r p n.toNat) (xshl 1 n).toNat < 0 then 0 else xfw (xmd r p n.toNat) (xshl 1 n).toNat) := fun hG => next a b (by rw [hG]; exact ha) (by rw [hG]; exact hb)
    by_cases w : xbc i < a
    · rw [if_pos w]
      have hw2 : F < 0 ∨ xbc i < xbc F := by
        by_cases z : F < 0
        · exact Or.inl z
        · rw [if_neg z] at ha; right; omega
      cases P
      · rw [if_neg (fun z => nomatch hP.1 z)]
        exact keep (by rw [hxs, if_neg (fun z => nomatch z.2)])
      · rw [if_pos (hP.2 rfl)]
        have hG : G = (i : Int) := by rw [hxs, if_pos ⟨hw2, rfl⟩]
        exact next _ _ (by rw [hG, if_neg (by omega)]) (by rw [hG, if_neg (by omega)])
    · rw [if_neg w]
      have hw2 : ¬ (F < 0 ∨ xbc i < xbc F) := by
        rintro (z | z)
        · rw [if_pos z] at ha; omega
        · by_cases z2 : F < 0
          · rw [if_pos z2] at ha; omega
          · rw [if_neg z2] at ha; omega
      exact keep (by rw [hxs, if_neg (fun z => hw2 z.1)])
def xalls (q : Int → Bool) : Nat → Bool
  | 0 => true
  | n + 1 => xalls q n && q n
theorem xalls_iff {q : Int → Bool} : ∀ n : Nat, xalls q n = true ↔ ∀ i : Int, 0 ≤ i → i < n → q i = true
  | 0 => ⟨fun _ i h1 h2 => by omega, fun _ => rfl⟩
  | n + 1 => by
    rw [xalls, Bool.and_eq_true, xalls_iff n]
    constructor
    · rintro ⟨h, h2⟩ i i1 i2
      by_cases z : i = n
      · rw [z]; exact h2
      · exact h i i1 (by omega)
    · intro h
      exact ⟨fun i i1 i2 => h i i1 (by omega), h n (by omega) (by omega)⟩
theorem xalls_f {q : Int → Bool} {i : Nat} (h : xalls q i = false) : ∀ j : Nat, xalls q (i + j) = false
  | 0 => h
  | j + 1 => by
    show (xalls q (i + j) && q ((i + j : Nat) : Int)) = false
    rw [xalls_f h j, Bool.false_and]
theorem mend_63 {r a2 S e n : Int} {p : Int → Int} {s : xW} {k : Int → Int → Option (Int × xW)} (hr : 0 ≤ r ∧ r ≤ 18) (hS : 0 ≤ S ∧ S < 256) (hn : 0 ≤ n ∧ n ≤ 8) (e0 : s 121 3 = n) (he : 0 ≤ e ∧ e < n) (hp : ∀ h : Int, 0 ≤ h → h < n → (0 ≤ p h ∧ p h ≤ 99) ∧ p h = 10 * s 127 h + s 127 (8 + h) ∧ 0 ≤ s 127 (8 + h) ∧ s 127 (8 + h) ≤ 9) :
    ∀ (j i fu : Nat), (i : Int) + j = n → j < fu → F_X11_menders_63 r a2 S e s fu (b01 (xcv r p S i e)) (i : Int) k = k (b01 (xcv r p S n.toNat e)) n := by
  intro j
  induction j with
  | zero =>
    intro i fu hi hfu
    obtain ⟨fu, rfl⟩ : ∃ g, fu = g + 1 := ⟨fu - 1, by omega⟩
    have ei : (i : Int) = n := by omega
    have ei2 : n.toNat = i := by omega
    rw [ei, F_X11_menders_63, e0, if_neg (Int.lt_irrefl _), ei2]
  | succ j ih =>
    intro i fu hi hfu
    obtain ⟨fu, rfl⟩ : ∃ g, fu = g + 1 := ⟨fu - 1, by omega⟩
    have g := ih (i + 1) fu (by omega) (by omega)
    have p1 := hp e he.1 he.2
    have p2 := hp i (by omega) (by omega)
    have hfa := xfa_r p1.1 p2.1
    rw [show ((i + 1 : Nat) : Int) = (i : Int) + 1 by omega] at g
    have ec : xcv r p S (i + 1) e = (xcv r p S i e || (xbt S i && xnra r p i e)) := rfl
    rw [ec] at g
    have hf : F_X11_far (s 127 e) (s 127 (8 + e)) (s 127 (i : Int)) (s 127 (8 + (i : Int))) s = some (xfa (p e) (p i)) := by
      rw [far_m (by omega) (by omega) (by omega) (by omega), ← p1.2.1, ← p2.2.1]
    rw [F_X11_menders_63, e0, xw_sm (x := (i : Int)) (by omega) (by omega), xw_sm (x := n) (by omega) (by omega), if_pos (by omega), xw_b01, xw_sm (x := S) (by omega) (by omega), has_m hS (by omega)]
    simp only [xbp_s, xbd_s, xls, xli, xlt, xjn]
    rw [xw_b01, hf, xgd_t (by omega), xgd_t (by omega), xgd_t (by omega), xgd_t (by omega)]
    simp only [xbp_s, xbd_s, xls, xli, xlt, xjn]
    rw [xw_sm (x := xfa (p e) (p i)) (by omega) (by omega), xw_sm (x := r) (by omega) (by omega)]
    cases z : xcv r p S i e with
    | true =>
      rw [z, Bool.true_or] at g
      rw [if_neg (show ¬ b01 true = 0 by decide)]
      exact g
    | false =>
      rw [z, Bool.false_or] at g
      rw [if_pos (show b01 false = 0 by decide)]
      cases z2 : xbt S (i : Int) with
      | true =>
        rw [z2, Bool.true_and] at g
        rw [if_pos (show b01 true ≠ 0 by decide)]
        unfold xnra at g
        rw [xfa_c] at g
        by_cases z3 : xfa (p e) (p i) ≤ r
        · rw [decide_eq_true z3] at g
          rw [if_pos z3]
          exact g
        · rw [decide_eq_false z3] at g
          rw [if_neg z3]
          exact g
      | false =>
        rw [z2, Bool.false_and] at g
        rw [if_neg (show ¬ b01 false ≠ 0 by decide)]
        exact g
theorem mend_43 {r a2 S n : Int} {p : Int → Int} {s : xW} {k : Int → Int → Option (Int × xW)} (hr : 0 ≤ r ∧ r ≤ 18) (hS : 0 ≤ S ∧ S < 256) (hn : 0 ≤ n ∧ n ≤ 8) (e0 : s 121 3 = n) (hp : ∀ h : Int, 0 ≤ h → h < n → (0 ≤ p h ∧ p h ≤ 99) ∧ p h = 10 * s 127 h + s 127 (8 + h) ∧ 0 ≤ s 127 (8 + h) ∧ s 127 (8 + h) ≤ 9) (u : Bool) :
    ∀ (j i fu : Nat), (i : Int) + j = n → j < fu → ∃ v, F_X11_menders_43 r a2 S s fu (b01 (u && xalls (xcv r p S n.toNat) i)) (i : Int) k = k (b01 (u && xalls (xcv r p S n.toNat) n.toNat)) v := by
  have hN := xN_ge
  intro j
  induction j with
  | zero =>
    intro i fu hi hfu
    obtain ⟨fu, rfl⟩ : ∃ g, fu = g + 1 := ⟨fu - 1, by omega⟩
    have ei : (i : Int) = n := by omega
    have ei2 : n.toNat = i := by omega
    exact ⟨n, by rw [ei, F_X11_menders_43, e0, if_neg (Int.lt_irrefl _), ei2]⟩
  | succ j ih =>
    intro i fu hi hfu
    obtain ⟨fu, rfl⟩ : ∃ g, fu = g + 1 := ⟨fu - 1, by omega⟩
    obtain ⟨v, g⟩ := ih (i + 1) fu (by omega) (by omega)
    rw [show ((i + 1 : Nat) : Int) = (i : Int) + 1 by omega, xalls, ← Bool.and_assoc] at g
    rw [F_X11_menders_43, e0, xw_sm (x := (i : Int)) (by omega) (by omega), xw_sm (x := n) (by omega) (by omega), if_pos (by omega), xw_b01]
    cases z : (u && xalls (xcv r p S n.toNat) i) with
    | true =>
      rw [z, Bool.true_and] at g
      refine ⟨v, ?_⟩
      rw [if_pos (show b01 true ≠ 0 by decide)]
      refine Eq.trans (mend_63 (a2 := a2) (e := (i : Int)) (k := fun (l6_52 : Int) (l7_53 : Int) => F_X11_menders_43 r a2 S s fu l6_52 ((i : Int) + 1) k) hr hS hn e0 (by omega) hp n.toNat 0 xN (by omega) (by omega)) ?_
      exact g
    | false =>
      refine ⟨i, ?_⟩
      rw [if_neg (show ¬ b01 false ≠ 0 by decide)]
      have hz : (u && xalls (xcv r p S n.toNat) n.toNat) = false := by
        cases u with
        | false => rfl
        | true =>
          rw [Bool.true_and] at z ⊢
          rw [show n.toNat = i + (n.toNat - i) by omega]
          rw [show n.toNat = i + (n.toNat - i) by omega] at z
          exact xalls_f z _
      rw [hz]
theorem xmd_all {r S n : Int} {p : Int → Int} (hn : 0 ≤ n ∧ n ≤ 8) : xmd r p n.toNat S = xalls (xcv r p S n.toNat) n.toNat := by
  have h := xbits_full (q := xcv r p S n.toNat) (n := n.toNat) (by omega)
  have h2 := xalls_iff (q := xcv r p S n.toNat) n.toNat
  unfold xmd
  cases z : xalls (xcv r p S n.toNat) n.toNat with
  | true => exact decide_eq_true (h.2 (h2.1 z))
  | false => exact decide_eq_false (fun w => by rw [h2.2 (h.1 w)] at z; exact nomatch z)
theorem mend_loopM {n r : Int} {p : Int → Int} {s : xW} {k : Int → Int → Option (Int × xW)} (hr0 : 0 ≤ r ∧ r ≤ 18) (hn : 0 ≤ n ∧ n ≤ 8) (e0 : s 121 3 = n) (hp : ∀ h : Int, 0 ≤ h → h < n → (0 ≤ p h ∧ p h ≤ 99) ∧ p h = 10 * s 127 h + s 127 (8 + h) ∧ 0 ≤ s 127 (8 + h) ∧ s 127 (8 + h) ≤ 9) :
    ∀ (j i f : Nat), (i : Int) + j = xshl 1 n → j < f → F_X11_menders_23 r s f (xfw (xmd r p n.toNat) i) i k = k (xfw (xmd r p n.toNat) (xshl 1 n).toNat) (xshl 1 n) := by
  have hal := all_b hn
  have hN := xN_ge
  intro j
  induction j with
  | zero =>
    intro i f hi hf
    obtain ⟨f, rfl⟩ : ∃ f', f = f' + 1 := ⟨f - 1, by omega⟩
    unfold F_X11_menders_23
    rw [e0, xw_sm (by omega) (by omega), xw_sm (by omega) (by omega), if_neg (by omega), show (xshl 1 n).toNat = i by omega, show xshl 1 n = (i : Int) by omega]
  | succ j ih =>
    intro i f hi hf
    obtain ⟨f, rfl⟩ : ∃ f', f = f' + 1 := ⟨f - 1, by omega⟩
    have hs := set_b (S := i) hn (by omega)
    have hr := xfw_r (xmd r p n.toNat) i
    have next := ih (i + 1) f (by omega) (by omega)
    rw [show xfw (xmd r p n.toNat) (i + 1) = if (xfw (xmd r p n.toNat) i < 0 ∨ xbc i < xbc (xfw (xmd r p n.toNat) i)) ∧ xmd r p n.toNat i = true then (i : Int) else xfw (xmd r p n.toNat) i from rfl, xmd_all hn] at next
    obtain ⟨v, g⟩ := mend_43 (r := r) (a2 := xfw (xmd r p n.toNat) i) (S := i) (s := s) (k := fun (l4_56 : Int) (l5_57 : Int) => xli (if (xw l4_56) ≠ 0 then (i : Int) else xfw (xmd r p n.toNat) i) fun v59 => F_X11_menders_23 r s f v59 ((i : Int) + 1) k) hr0 (by omega) hn e0 hp (decide (xfw (xmd r p n.toNat) i < 0 ∨ xbc i < xbc (xfw (xmd r p n.toNat) i))) n.toNat 0 xN (by omega) (by omega)
    rw [xalls, Bool.and_true] at g
    have eb : (if xfw (xmd r p n.toNat) i < 0 ∨ xbc i < xbc (xfw (xmd r p n.toNat) i) then (1 : Int) else 0) = b01 (decide (xfw (xmd r p n.toNat) i < 0 ∨ xbc i < xbc (xfw (xmd r p n.toNat) i))) := by
      by_cases z : xfw (xmd r p n.toNat) i < 0 ∨ xbc i < xbc (xfw (xmd r p n.toNat) i)
      · rw [if_pos z, decide_eq_true z]; rfl
      · rw [if_neg z, decide_eq_false z]; rfl
    rw [← next, F_X11_menders_23, e0, xw_sm (x := (i : Int)) (by omega) (by omega), xw_sm (x := xshl 1 n) (by omega) (by omega), if_pos (by omega), isFewer_m hn (by omega) (by omega)]
    simp only [xbp_s, xbd_s, xls, xli, xlt, xjn]
    rw [eb]
    refine Eq.trans g ?_
    simp only [xbp_s, xbd_s, xls, xli, xlt, xjn]
    rw [xw_b01, show ((i : Int) + 1) = ((i + 1 : Nat) : Int) by omega]
    congr 1
    by_cases z : xfw (xmd r p n.toNat) i < 0 ∨ xbc i < xbc (xfw (xmd r p n.toNat) i)
    · rw [decide_eq_true z, Bool.true_and]
      cases z2 : xalls (xcv r p i n.toNat) n.toNat with
      | true => rw [if_pos (show b01 true ≠ 0 by decide), if_pos ⟨z, rfl⟩]
      | false => rw [if_neg (show ¬ b01 false ≠ 0 by decide), if_neg (fun w => nomatch w.2)]
    · rw [decide_eq_false z, Bool.false_and, if_neg (show ¬ b01 false ≠ 0 by decide), if_neg (fun w => z w.1)]
theorem fullset_all : ∀ (n : Fin 9) (e : Fin 8), e.val < n.val → xbt (xshl 1 n.val - 1) e.val = true := by decide +kernel
theorem op_menders {a : Int} (ha : I32 a) : XO (F_X10_menders a) (F_X11_menders a) := by
  intro B σ τ hB hB1 h
  have hN := xN_ge
  obtain ⟨h1, h2, h3, h4, h5, h6, h7, h8, h9, h10⟩ := id h
  have hn := h5.1
  have hal := all_b hn
  by_cases q : 0 ≤ a ∧ a ≤ 18
  · have hpl : ∀ x : Int, 0 ≤ x → x < σ 0 14 → 0 ≤ σ 18 x ∧ σ 18 x ≤ 99 := fun x x1 x2 => h6.1.2.1 x x1 (by omega)
    obtain ⟨s, a1, a2, a3⟩ := near_out (r := a) (k := fun (l2_31 : Int) (s32 : xW) => some (((xshl 1 (s32 0 14)) - 1), s32)) q hn rfl hpl (σ 0 14).toNat 0 xN σ (by omega) (by omega) (fun _ _ => rfl) (fun x x1 x2 => by omega)
    have e0 : s 0 14 = σ 0 14 := by rw [a2 0 (by decide)]
    have eF : F_X10_findNear a σ = some (xshl 1 (σ 0 14) - 1, s) := by
      unfold F_X10_findNear
      refine Eq.trans a1 ?_
      rw [e0]
    obtain ⟨x, y, b1, b2, b3⟩ := mend_loopC (n := σ 0 14) (r := a) (p := σ 18) (s := s) (k := fun (l3_27 : Int) (l4_28 : Int) (l5_29 : Int) => xbp (F_X6_tell (xw l4_28) s) fun s31 => some (l3_27, s31)) hn e0 a3 (xshl 1 (σ 0 14)).toNat 0 xN (σ 0 14 + 1) 0 (by omega) (by omega) rfl rfl
    have c1 := mend_loopM (n := σ 0 14) (r := a) (p := σ 18) (s := xu τ 121 0 0) (k := fun (l2_64 : Int) (l3_65 : Int) => xls (xu (xu τ 121 0 0) 121 1 0) fun s66 => xbp (F_X11_enters (xw l2_64) s66) fun s69 => some ((xbc l2_64), s69)) q hn (by rw [xu_slot _ _ _ (show (3 : Int) ≠ 0 by decide)]; exact h5.2.1) (fun x x1 x2 => by
      rw [xu_row _ _ _ (show (127 : Int) ≠ 121 by decide)]
      have w := h6.2.2.1 x x1 x2
      exact ⟨hpl x x1 x2, w.1, w.2.1, w.2.2.1⟩) (xshl 1 (σ 0 14)).toNat 0 xN (by omega) (by omega)
    have hend := xfw_end (p := xmd a (σ 18) (σ 0 14).toNat) (N := (xshl 1 (σ 0 14)).toNat) (by omega) (by
      rw [show (((xshl 1 (σ 0 14)).toNat - 1 : Nat) : Int) = xshl 1 (σ 0 14) - 1 by omega, xmd_all hn, xalls_iff]
      intro i i1 i2
      unfold xcv
      rw [xany_iff]
      refine ⟨i, ⟨i1, i2⟩, ?_⟩
      have hb := fullset_all ⟨(σ 0 14).toNat, by omega⟩ ⟨i.toNat, by omega⟩ (show i.toNat < (σ 0 14).toNat by omega)
      have hb2 : xbt (xshl 1 (σ 0 14) - 1) i = true := by
        rw [show ((⟨(σ 0 14).toNat, by omega⟩ : Fin 9).val : Int) = σ 0 14 from (by show (((σ 0 14).toNat : Nat) : Int) = σ 0 14; omega), show ((⟨i.toNat, by omega⟩ : Fin 8).val : Int) = i from (by show ((i.toNat : Nat) : Int) = i; omega)] at hb
        exact hb
      rw [hb2, Bool.true_and]
      unfold xnra
      have hz := (xfa_0 (hpl i i1 (by omega)) (hpl i i1 (by omega))).2 rfl
      exact decide_eq_true (by omega))
    have hr := xfw_r (xmd a (σ 18) (σ 0 14).toNat) (xshl 1 (σ 0 14)).toNat
    generalize xfw (xmd a (σ 18) (σ 0 14).toNat) (xshl 1 (σ 0 14)).toNat = F at *
    rw [if_neg (by omega)] at b2 b3
    rw [b2, b3] at b1
    have eC : F_X10_menders a σ = some (xbc F, xt1 s F) := by
      unfold F_X10_menders
      simp only [xjn]
      rw [xw_id ha, if_pos q.1, if_neg (by omega), eF]
      simp only [xbp_s, xbd_s, xls, xli, xlt, xjn]
      rw [e0]
      refine Eq.trans b1 ?_
      rw [xw_sm (by omega) (by omega), tell_1]
      rfl
    have eM : F_X11_menders a τ = some (xbc F, xe1 (xu τ 121 0 0) F) := by
      unfold F_X11_menders
      simp only [xbp_s, xbd_s, xls, xli, xlt, xjn]
      rw [xw_id ha, in_eq (by omega) (by omega) (by omega), if_pos q]
      simp only [xbp_s, xbd_s, xls, xli, xlt, xjn]
      rw [if_neg (show ¬ xw 1 = 0 by decide)]
      refine Eq.trans c1 ?_
      simp only [xbp_s, xbd_s, xls, xli, xlt, xjn]
      rw [xw_sm (by omega) (by omega), ent_1]
      rfl
    exact ⟨_, _, _, eC, eM, XR_W (fr_X10_menders eC) (by decide +kernel) (fr_X11_menders eM) (by decide +kernel) h (Xrow_1 (a := F) rfl (by simp [xt1, xu]) rfl (by simp [xe1, xu]))⟩
  · refine ⟨-1, σ, xu τ 121 0 0, ?_, ?_, XR_mono (by omega) (XR_thr h)⟩
    · unfold F_X10_menders
      simp only [xjn]
      rw [xw_id ha]
      by_cases z1 : 0 ≤ a
      · rw [if_pos z1, if_pos (by omega)]
      · rw [if_neg z1]
    · unfold F_X11_menders
      simp only [xbp_s, xbd_s, xls, xli, xlt, xjn]
      rw [xw_id ha, in_eq (by omega) (by omega) (by omega), if_neg q]
      simp only [xbp_s, xbd_s, xls, xli, xlt, xjn]
      rw [if_pos (show xw 0 = 0 by decide)]
