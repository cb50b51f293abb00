/-! sums and bits -/
def xsum (f : Int → Int) : Nat → Int
  | 0 => 0
  | k + 1 => xsum f k + f k
theorem xsum_congr {f g : Int → Int} : ∀ n : Nat, (∀ i : Int, 0 ≤ i → i < n → f i = g i) → xsum f n = xsum g n
  | 0, _ => rfl
  | n + 1, h => by
    show xsum f n + f n = xsum g n + g n
    rw [xsum_congr n (fun i a b => h i a (by omega)), h n (by omega) (by omega)]
theorem xsum_add {f g : Int → Int} : ∀ n : Nat, xsum (fun i => f i + g i) n = xsum f n + xsum g n
  | 0 => rfl
  | n + 1 => by
    show xsum (fun i => f i + g i) n + (f n + g n) = xsum f n + f n + (xsum g n + g n)
    rw [xsum_add n]
    omega
theorem xsum_r {f : Int → Int} {M : Int} : ∀ n : Nat, (∀ i : Int, 0 ≤ i → i < n → 0 ≤ f i ∧ f i ≤ M) → 0 ≤ xsum f n ∧ xsum f n ≤ M * n
  | 0, _ => by simp [xsum]
  | n + 1, h => by
    have h1 := xsum_r (f := f) (M := M) n (fun i a b => h i a (by omega))
    have h2 := h n (by omega) (by omega)
    show 0 ≤ xsum f n + f n ∧ xsum f n + f n ≤ M * ((n + 1 : Nat) : Int)
    rw [show ((n + 1 : Nat) : Int) = (n : Int) + 1 by omega, Int.mul_add]
    omega
def b01 (b : Bool) : Int := if b then 1 else 0
theorem b01_r (b : Bool) : 0 ≤ b01 b ∧ b01 b ≤ 1 := by cases b <;> decide
theorem xw_b01 (b : Bool) : xw (b01 b) = b01 b := by cases b <;> decide
def xbits (q : Int → Bool) : Nat → Int
  | 0 => 0
  | k + 1 => xor' (xbits q k) (if q k then xshl 1 k else 0)
theorem xbits_congr {p q : Int → Bool} : ∀ n : Nat, (∀ i : Int, 0 ≤ i → i < n → p i = q i) → xbits p n = xbits q n
  | 0, _ => rfl
  | n + 1, h => by
    show xor' (xbits p n) (if p n then xshl 1 n else 0) = xor' (xbits q n) (if q n then xshl 1 n else 0)
    rw [xbits_congr n (fun i a b => h i a (by omega)), h n (by omega) (by omega)]
theorem xor_0 {a : Int} (h : I32 a) : xor' a 0 = a := by
  unfold xor'
  rw [show Int32.ofInt 0 = 0 from rfl, Int32.or_zero]
  exact w32 h
theorem I32_xor (a b : Int) : I32 (xor' a b) := I32_toInt _
theorem xbits_I (q : Int → Bool) : ∀ n : Nat, I32 (xbits q n)
  | 0 => (by decide : I32 0)
  | n + 1 => I32_xor _ _
theorem xbits_8 (q : Int → Bool) : ∀ (m n : Nat), n ≤ m → xbits (fun k => q k && decide (k < n)) m = xbits q n
  | 0, n, h => by rw [show n = 0 by omega]; rfl
  | m + 1, n, h => by
    by_cases hn : n = m + 1
    · subst hn
      refine xbits_congr _ (fun i a b => ?_)
      rw [decide_eq_true b]
      simp
    · show xor' (xbits (fun k => q k && decide (k < n)) m) (if (q m && decide ((m : Int) < n)) = true then xshl 1 m else 0) = _
      rw [decide_eq_false (by omega), Bool.and_false, if_neg (by decide), xbits_8 q m n (by omega), xor_0 (xbits_I q n)]
theorem xb8_all : ∀ b0 b1 b2 b3 b4 b5 b6 b7 : Bool, xbc (xbits (fun k => if k = 0 then b0 else if k = 1 then b1 else if k = 2 then b2 else if k = 3 then b3 else if k = 4 then b4 else if k = 5 then b5 else if k = 6 then b6 else b7) 8) = xsum (fun k => b01 (if k = 0 then b0 else if k = 1 then b1 else if k = 2 then b2 else if k = 3 then b3 else if k = 4 then b4 else if k = 5 then b5 else if k = 6 then b6 else b7)) 8 := by decide +kernel
theorem xsum_8 (q : Int → Bool) : ∀ (m n : Nat), n ≤ m → xsum (fun k => b01 (q k && decide (k < n))) m = xsum (fun k => b01 (q k)) n
  | 0, n, h => by rw [show n = 0 by omega]; rfl
  | m + 1, n, h => by
    by_cases hn : n = m + 1
    · subst hn
      refine xsum_congr _ (fun i a b => ?_)
      rw [decide_eq_true b]
      simp
    · show xsum (fun k => b01 (q k && decide (k < n))) m + b01 (q m && decide ((m : Int) < n)) = _
      rw [decide_eq_false (by omega), Bool.and_false, xsum_8 q m n (by omega)]
      show _ + 0 = _
      omega
theorem xq8 (q : Int → Bool) (i : Int) (a : 0 ≤ i) (b : i < (8 : Nat)) : q i = (if i = 0 then q 0 else if i = 1 then q 1 else if i = 2 then q 2 else if i = 3 then q 3 else if i = 4 then q 4 else if i = 5 then q 5 else if i = 6 then q 6 else q 7) := by
  rcases (by omega : i = 0 ∨ i = 1 ∨ i = 2 ∨ i = 3 ∨ i = 4 ∨ i = 5 ∨ i = 6 ∨ i = 7) with rfl | rfl | rfl | rfl | rfl | rfl | rfl | rfl <;> rfl
theorem xbc_bits (q : Int → Bool) (n : Nat) (h : n ≤ 8) : xbc (xbits q n) = xsum (fun k => b01 (q k)) n := by
  rw [← xbits_8 q 8 n h, ← xsum_8 q 8 n h]
  generalize hp : (fun k => q k && decide (k < (n : Int))) = p
  have e : ∀ k, (q k && decide (k < (n : Int))) = p k := fun k => by rw [← hp]
  rw [xbits_congr 8 (fun i a b => xq8 p i a b), xb8_all]
  refine xsum_congr 8 (fun i a b => ?_)
  rw [e, xq8 p i a b]
/-! pairs -/
def xPp (q : Int → Int → Bool) : Nat → Int
  | 0 => 0
  | n + 1 => xPp q n + xsum (fun a => b01 (q a n)) n
def xsr (f : Int → Int) (a b : Int) : Int := xsum (fun j => f (a + j)) (b - a).toNat
theorem xsr_s {f : Int → Int} {a b : Int} (h : a ≤ b) : xsr f a (b + 1) = xsr f a b + f b := by
  unfold xsr
  rw [show (b + 1 - a).toNat = (b - a).toNat + 1 by omega]
  show _ + f (a + ((b - a).toNat : Nat)) = _
  rw [show a + ((b - a).toNat : Int) = b by omega]
theorem xsr_0 {f : Int → Int} {a : Int} : xsr f a a = 0 := by unfold xsr; rw [show (a - a).toNat = 0 by omega]; rfl
theorem xPp_sr (q : Int → Int → Bool) : ∀ n : Nat, xsum (fun a => xsr (fun b => b01 (q a b)) (a + 1) n) n = xPp q n
  | 0 => rfl
  | n + 1 => by
    show xsum (fun a => xsr (fun b => b01 (q a b)) (a + 1) ((n + 1 : Nat) : Int)) n + xsr (fun b => b01 (q n b)) ((n : Int) + 1) ((n + 1 : Nat) : Int) = xPp q n + xsum (fun a => b01 (q a n)) n
    rw [show ((n + 1 : Nat) : Int) = (n : Int) + 1 by omega, xsr_0, ← xPp_sr q n, ← xsum_add]
    rw [xsum_congr (g := fun i => xsr (fun b => b01 (q i b)) (i + 1) n + b01 (q i n)) n (fun i a b => xsr_s (by omega))]
    omega
theorem xPp_D (q : Int → Int → Bool) (hs : ∀ a b, q a b = q b a) (hd : ∀ a, q a a = false) : ∀ n : Nat, xsum (fun d => xsum (fun e => b01 (q d e)) n) n = 2 * xPp q n
  | 0 => rfl
  | n + 1 => by
    have ih := xPp_D q hs hd n
    show xsum (fun d => xsum (fun e => b01 (q d e)) n + b01 (q d n)) n + (xsum (fun e => b01 (q n e)) n + b01 (q n n)) = 2 * (xPp q n + xsum (fun a => b01 (q a n)) n)
    rw [xsum_add, hd, xsum_congr (f := fun e => b01 (q n e)) (g := fun e => b01 (q e n)) n (fun i a b => by rw [hs])]
    show _ + (_ + 0) = _
    omega
theorem xPp_congr {p q : Int → Int → Bool} : ∀ n : Nat, (∀ a b : Int, 0 ≤ a → a < n → 0 ≤ b → b < n → p a b = q a b) → xPp p n = xPp q n
  | 0, _ => rfl
  | n + 1, h => by
    show xPp p n + _ = xPp q n + _
    rw [xPp_congr n (fun a b h1 h2 h3 h4 => h a b h1 (by omega) h3 (by omega)), xsum_congr n (fun i a b => by rw [h i n a (by omega) (by omega) (by omega)])]
theorem xPp_r (q : Int → Int → Bool) : ∀ n : Nat, 0 ≤ xPp q n ∧ xPp q n ≤ n * n
  | 0 => by simp [xPp]
  | n + 1 => by
    have h1 := xPp_r q n
    have h2 := xsum_r (f := fun a => b01 (q a n)) (M := 1) n (fun i _ _ => b01_r _)
    show 0 ≤ xPp q n + xsum (fun a => b01 (q a n)) n ∧ xPp q n + xsum (fun a => b01 (q a n)) n ≤ ((n + 1 : Nat) : Int) * ((n + 1 : Nat) : Int)
    rw [show ((n + 1 : Nat) : Int) = (n : Int) + 1 by omega, Int.mul_add, Int.add_mul]
    omega
/-- do two DEEDS collide: lanes, begins, lengths -/
def xq (ln b l : Int → Int) (a c : Int) : Bool := decide (a ≠ c ∧ xand (ln a) (ln c) ≠ 0 ∧ b a < b c + l c ∧ b c < b a + l a)
theorem xand_comm (a b : Int) : xand a b = xand b a := by unfold xand; rw [Int32.and_comm]
theorem xq_s (ln b l : Int → Int) (a c : Int) : xq ln b l a c = xq ln b l c a := by
  unfold xq
  rw [xand_comm (ln a) (ln c)]
  apply decide_eq_decide.mpr
  omega
theorem xq_d (ln b l : Int → Int) (a : Int) : xq ln b l a a = false := by unfold xq; simp
theorem xq_congr {ln b l ln' b' l' : Int → Int} {n : Int} (h : ∀ d, 0 ≤ d → d < n → ln d = ln' d ∧ b d = b' d ∧ l d = l' d) {a c : Int} (h1 : 0 ≤ a) (h2 : a < n) (h3 : 0 ≤ c) (h4 : c < n) : xq ln b l a c = xq ln' b' l' a c := by
  obtain ⟨p1, p2, p3⟩ := h a h1 h2
  obtain ⟨q1, q2, q3⟩ := h c h3 h4
  unfold xq
  rw [p1, p2, p3, q1, q2, q3]
theorem I32_xand (a b : Int) : I32 (xand a b) := I32_toInt _
/-- the plan of the class as begin() leaves it -/
def Xpl (s : xW) : Prop := (0 ≤ s 92 0 ∧ s 92 0 ≤ 8) ∧ ∀ d, 0 ≤ d → d < s 92 0 → (0 ≤ s 95 d ∧ s 95 d ≤ 10000) ∧ (-1 ≤ s 20 d ∧ s 20 d ≤ 9) ∧ s 96 d = s 95 d + s 20 d
theorem collide_c {a c : Int} {s : xW} (h : Xpl s) (ha : 0 ≤ a ∧ a < s 92 0) (hc : 0 ≤ c ∧ c < s 92 0) : F_X4_collide a c s = some (b01 (xq (s 94) (s 95) (s 20) a c)) := by
  obtain ⟨h1, h2⟩ := h
  obtain ⟨a1, a2, a3⟩ := h2 a ha.1 ha.2
  obtain ⟨c1, c2, c3⟩ := h2 c hc.1 hc.2
  have hi := I32_xand (s 94 a) (s 94 c)
  unfold F_X4_collide xq b01
  simp only [xbp_s, xbd_s, xls, xli, xlt, xjn]
  rw [xw_id hi, xw_sm (x := a) (by omega) (by omega), xw_sm (x := c) (by omega) (by omega), xw_sm (x := s 95 a) (by omega) (by omega), xw_sm (x := s 95 c) (by omega) (by omega), xw_sm (x := s 96 a) (by omega) (by omega), xw_sm (x := s 96 c) (by omega) (by omega), xgd_t (by omega), xgd_t (by omega), xgd_t (by omega), xgd_t (by omega), xgd_t (by omega), xgd_t (by omega)]
  by_cases q1 : a ≠ c
  · rw [if_pos q1]
    by_cases q2 : xand (s 94 a) (s 94 c) ≠ 0
    · rw [if_pos q2]
      by_cases q3 : s 95 a < s 96 c
      · rw [if_pos q3]
        by_cases q4 : s 95 c < s 96 a
        · rw [if_pos q4, if_pos (decide_eq_true ⟨q1, q2, by omega, by omega⟩)]
          rfl
        · rw [if_neg q4, if_neg (by simp only [decide_eq_true_eq]; omega)]
          rfl
      · rw [if_neg q3, if_neg (by simp only [decide_eq_true_eq]; omega)]
        rfl
    · rw [if_neg q2, if_neg (by simp only [decide_eq_true_eq]; omega)]
      rfl
  · rw [if_neg q1, if_neg (by simp only [decide_eq_true_eq]; omega)]
    rfl
