/-! misfires -/
theorem eu_half {b r k : Nat} (hr : 0 < r) (hr2 : r < b) (hb : b < 2 ^ (k + 1)) : b % r < 2 ^ k := by
  have h1 : b % r < r := Nat.mod_lt _ hr
  have h2 : r + b % r ≤ b := by
    have h3 := Nat.div_add_mod b r
    have h4 : 1 ≤ b / r := (Nat.one_le_div_iff hr).2 (Nat.le_of_lt hr2)
    have h5 : r * 1 ≤ r * (b / r) := Nat.mul_le_mul_left r h4
    omega
  rw [Nat.pow_succ] at hb
  omega
theorem xwl_nat {a : Nat} (h : a ≤ 2000000000000000) : xwl (a : Int) = (a : Int) := xwl_id (by omega)
theorem tmod_nat (a b : Nat) : Int.tmod (a : Int) (b : Int) = ((a % b : Nat) : Int) := rfl
theorem common_0 {a f : Nat} : F_common (f + 1) (a : Int) ((0 : Nat) : Int) = some (a : Int) := by
  rw [F_common, F_X11_common_b, if_pos (by decide)]
theorem common_1 {a b f : Nat} (ha : a ≤ 2000000000000000) (hb : 0 < b ∧ b ≤ 2000000000000000) : F_common (f + 1) (a : Int) (b : Int) = F_common f (b : Int) ((a % b : Nat) : Int) := by
  have h0 : ¬ (b : Int) = 0 := by omega
  rw [F_common, F_X11_common_b, xwl_nat ha, xwl_nat hb.2, if_neg h0, xgd_t h0, tmod_nat]
  cases F_common f (b : Int) ((a % b : Nat) : Int) with
  | none => rfl
  | some v => rfl
theorem common_g : ∀ (k a b f : Nat), a ≤ 2000000000000000 → b ≤ 2000000000000000 → b < 2 ^ k → 2 * k + 1 ≤ f → F_common f (a : Int) (b : Int) = some ((Nat.gcd a b : Nat) : Int) := by
  intro k
  induction k with
  | zero =>
    intro a b f ha hb hk hf
    obtain ⟨f, rfl⟩ : ∃ g, f = g + 1 := ⟨f - 1, by omega⟩
    have : b = 0 := by omega
    rw [this, common_0, Nat.gcd_zero_right]
  | succ k ih =>
    intro a b f ha hb hk hf
    obtain ⟨f, rfl⟩ : ∃ g, f = g + 1 + 1 + 1 := ⟨f - 3, by omega⟩
    by_cases z : b = 0
    · rw [z, common_0, Nat.gcd_zero_right]
    · have hm : a % b < b := Nat.mod_lt _ (by omega)
      have e1 : Nat.gcd a b = Nat.gcd b (a % b) := by rw [Nat.gcd_comm a b, Nat.gcd_rec b a, Nat.gcd_comm]
      rw [common_1 ha ⟨by omega, hb⟩, e1]
      by_cases z2 : a % b = 0
      · rw [z2, common_0, Nat.gcd_zero_right]
      · have e2 : Nat.gcd b (a % b) = Nat.gcd (a % b) (b % (a % b)) := by rw [Nat.gcd_comm b (a % b), Nat.gcd_rec (a % b) b, Nat.gcd_comm]
        have hm2 : b % (a % b) < a % b := Nat.mod_lt _ (by omega)
        rw [common_1 hb ⟨by omega, by omega⟩, e2]
        exact ih _ _ _ (by omega) (by omega) (eu_half (by omega) hm hk) (by omega)
theorem frac_0 {x y : Int} {s : xW} {a f i : Nat} {K : Int → Int → Int → Option xW} (hi : i < 128) : F_X10_tellFraction_9 x y s (f + 1) (a : Int) ((0 : Nat) : Int) (i : Int) K = K (a : Int) ((0 : Nat) : Int) (i : Int) := by
  rw [F_X10_tellFraction_9, xw_sm (x := (i : Int)) (by omega) (by omega), if_pos (by omega), if_neg (fun w => w (by decide))]
theorem frac_1 {x y : Int} {s : xW} {a b f i : Nat} {K : Int → Int → Int → Option xW} (hi : i < 128) (ha : a ≤ 2000000000000000) (hb : 0 < b ∧ b ≤ 2000000000000000) : F_X10_tellFraction_9 x y s (f + 1) (a : Int) (b : Int) (i : Int) K = F_X10_tellFraction_9 x y s f (b : Int) ((a % b : Nat) : Int) ((i + 1 : Nat) : Int) K := by
  have h0 : (b : Int) ≠ 0 := by omega
  rw [F_X10_tellFraction_9, xw_sm (x := (i : Int)) (by omega) (by omega), if_pos (by omega), xwl_nat ha, xwl_nat hb.2, if_pos h0, xgd_t h0, tmod_nat, show ((i : Int) + 1) = ((i + 1 : Nat) : Int) by omega]
theorem frac_g {x y : Int} {s : xW} {K : Int → Int → Int → Option xW} : ∀ (k a b i f : Nat), a ≤ 2000000000000000 → b ≤ 2000000000000000 → b < 2 ^ k → 2 * k + 1 ≤ f → i + 2 * k + 1 ≤ 128 → ∃ v w, F_X10_tellFraction_9 x y s f (a : Int) (b : Int) (i : Int) K = K ((Nat.gcd a b : Nat) : Int) v w := by
  intro k
  induction k with
  | zero =>
    intro a b i f ha hb hk hf hi
    obtain ⟨f, rfl⟩ : ∃ g, f = g + 1 := ⟨f - 1, by omega⟩
    have : b = 0 := by omega
    exact ⟨_, _, by rw [this, frac_0 (by omega), Nat.gcd_zero_right]⟩
  | succ k ih =>
    intro a b i f ha hb hk hf hi
    obtain ⟨f, rfl⟩ : ∃ g, f = g + 1 + 1 + 1 := ⟨f - 3, by omega⟩
    by_cases z : b = 0
    · exact ⟨_, _, by rw [z, frac_0 (by omega), Nat.gcd_zero_right]⟩
    · have hm : a % b < b := Nat.mod_lt _ (by omega)
      have e1 : Nat.gcd a b = Nat.gcd b (a % b) := by rw [Nat.gcd_comm a b, Nat.gcd_rec b a, Nat.gcd_comm]
      rw [frac_1 (by omega) ha ⟨by omega, hb⟩, e1]
      by_cases z2 : a % b = 0
      · exact ⟨_, _, by rw [z2, frac_0 (by omega), Nat.gcd_zero_right]⟩
      · have e2 : Nat.gcd b (a % b) = Nat.gcd (a % b) (b % (a % b)) := by rw [Nat.gcd_comm b (a % b), Nat.gcd_rec (a % b) b, Nat.gcd_comm]
        have hm2 : b % (a % b) < a % b := Nat.mod_lt _ (by omega)
        rw [frac_1 (by omega) hb ⟨by omega, by omega⟩, e2]
        exact ih _ _ _ _ (by omega) (by omega) (eu_half (by omega) hm hk) (by omega) (by omega)
/-- the chances after k shots -/
def xmv (p : Int) (n : Nat) : Nat → Int → Int
  | 0 => fun x => if x = 0 then 1 else 0
  | k + 1 => fun x => if x = 0 then xsum (xmv p n k) n * (10 - p) else xmv p n k (x - 1) * p
theorem xmv_0 {p : Int} {n k : Nat} : xmv p n (k + 1) 0 = xsum (xmv p n k) n * (10 - p) := by simp [xmv]
theorem xmv_s {p x : Int} {n k : Nat} (h : 0 < x) : xmv p n (k + 1) x = xmv p n k (x - 1) * p := by
  have : ¬ x = 0 := by omega
  simp [xmv, this]
theorem xmv_p {p : Int} {n : Nat} (hp : 0 ≤ p ∧ p ≤ 10) : ∀ (k : Nat) (x : Int), 0 ≤ xmv p n k x := by
  intro k
  induction k with
  | zero => intro x; simp only [xmv]; split <;> omega
  | succ k ih =>
    intro x
    simp only [xmv]
    split
    · exact Int.mul_nonneg (xsum_nn ih n) (by omega)
    · exact Int.mul_nonneg (ih _) hp.1
theorem xsum_sh (g : Int → Int) : ∀ n : Nat, xsum g (n + 1) = g 0 + xsum (fun j => g (j + 1)) n
  | 0 => by rw [xsum_s]; simp [xsum]
  | n + 1 => by rw [xsum_s, xsum_sh g n, xsum_s, show ((n + 1 : Nat) : Int) = (n : Int) + 1 by omega]; omega
theorem xsum_mul (g : Int → Int) (p : Int) : ∀ n : Nat, xsum (fun j => g j * p) n = xsum g n * p
  | 0 => by simp [xsum]
  | n + 1 => by rw [xsum_s, xsum_s, xsum_mul g p n, Int.add_mul]
theorem xmv_sum {p : Int} {n : Nat} (hp : 0 ≤ p ∧ p ≤ 10) (hn : 1 ≤ n) : ∀ k : Nat, xsum (xmv p n k) n ≤ 10 ^ k := by
  obtain ⟨m, rfl⟩ : ∃ m, n = m + 1 := ⟨n - 1, by omega⟩
  intro k
  induction k with
  | zero =>
    rw [xsum_sh]
    have e : xsum (fun j => xmv p (m + 1) 0 (j + 1)) m = xsum (fun _ => 0 * (0 : Int)) m := xsum_congr m (fun i h1 h2 => by
      have : ¬ i + 1 = 0 := by omega
      simp [xmv, this])
    rw [e, xsum_mul (fun _ => 0) 0 m, Int.mul_zero]
    simp [xmv]
  | succ k ih =>
    have e : xsum (fun j => xmv p (m + 1) (k + 1) (j + 1)) m = xsum (fun j => xmv p (m + 1) k j * p) m := xsum_congr m (fun i h1 h2 => by
      show xmv p (m + 1) (k + 1) (i + 1) = xmv p (m + 1) k i * p
      rw [xmv_s (by omega), show i + 1 - 1 = i by omega])
    have h1 : xsum (xmv p (m + 1) k) m ≤ xsum (xmv p (m + 1) k) (m + 1) := by
      rw [xsum_s]
      have := xmv_p (n := m + 1) hp k (m : Int)
      omega
    have h2 : xsum (xmv p (m + 1) k) m * p ≤ xsum (xmv p (m + 1) k) (m + 1) * p := Int.mul_le_mul_of_nonneg_right h1 hp.1
    rw [xsum_sh, xmv_0, e, xsum_mul, Int.pow_succ, Int.mul_sub]
    omega
theorem sumC {n : Nat} {s : xW} {v : Int → Int} (hn : n ≤ 15) (hv : ∀ x : Int, 0 ≤ x → x < n → s 108 x = v x) {k : Int → Int → Option Int} :
    ∀ (j i fu : Nat), i + j = n → j < fu → F_X10_sumOfChances_5 (n : Int) s fu (xsum v i) (i : Int) k = k (xsum v n) (n : Int) := by
  intro j
  induction j with
  | zero =>
    intro i fu hi hfu
    obtain ⟨fu, rfl⟩ : ∃ g, fu = g + 1 := ⟨fu - 1, by omega⟩
    have ei : i = n := by omega
    rw [ei, F_X10_sumOfChances_5, if_neg (Int.lt_irrefl _)]
  | succ j ih =>
    intro i fu hi hfu
    obtain ⟨fu, rfl⟩ : ∃ g, fu = g + 1 := ⟨fu - 1, by omega⟩
    have g := ih (i + 1) fu (by omega) (by omega)
    rw [show ((i + 1 : Nat) : Int) = (i : Int) + 1 by omega, xsum_s] at g
    rw [F_X10_sumOfChances_5, xw_sm (x := (i : Int)) (by omega) (by omega), xw_sm (x := (n : Int)) (by omega) (by omega), if_pos (by omega), xgd_t (by omega), hv i (by omega) (by omega)]
    exact g
theorem sumC_c {n : Nat} {s : xW} {v : Int → Int} (hn : n ≤ 15) (hv : ∀ x : Int, 0 ≤ x → x < n → s 108 x = v x) : F_X10_sumOfChances (n : Int) s = some (xsum v n) := by
  have hN := xN_ge
  unfold F_X10_sumOfChances
  exact sumC (k := fun (l2_9 : Int) (l4_10 : Int) => some l2_9) hn hv n 0 xN (by omega) (by omega)
theorem sumM {n : Nat} {den : Int} {s : xW} {v : Int → Int} (hn : n ≤ 15) (hv : ∀ x : Int, 0 ≤ x → x < n → s 148 x = v x) {k : Int → Int → Option (Int × xW)} :
    ∀ (j i fu : Nat), i + j = n → j < fu → F_X11_misfires_175 (n : Int) den s fu (xsum v i) (i : Int) k = k (xsum v n) (n : Int) := by
  intro j
  induction j with
  | zero =>
    intro i fu hi hfu
    obtain ⟨fu, rfl⟩ : ∃ g, fu = g + 1 := ⟨fu - 1, by omega⟩
    have ei : i = n := by omega
    rw [ei, F_X11_misfires_175, if_neg (Int.lt_irrefl _)]
  | succ j ih =>
    intro i fu hi hfu
    obtain ⟨fu, rfl⟩ : ∃ g, fu = g + 1 := ⟨fu - 1, by omega⟩
    have g := ih (i + 1) fu (by omega) (by omega)
    rw [show ((i + 1 : Nat) : Int) = (i : Int) + 1 by omega, xsum_s] at g
    rw [F_X11_misfires_175, xw_sm (x := (i : Int)) (by omega) (by omega), xw_sm (x := (n : Int)) (by omega) (by omega), if_pos (by omega), xgd_t (by omega), hv i (by omega) (by omega)]
    exact g
theorem fire_loop {p q : Int} {v : Int → Int} {k : Int → xW → Option xW} (hp : 0 ≤ p ∧ p ≤ 10) :
    ∀ (i fu : Nat) (s : xW), i ≤ 14 → i < fu → (∀ x : Int, 0 ≤ x → x ≤ i → s 108 x = v x) → ∃ s', F_X10_fireOnce_17 p q fu (i : Int) s k = k 0 s' ∧ (∀ x : Int, 1 ≤ x → x ≤ i → s' 108 x = v (x - 1) * p) ∧ (∀ x : Int, i < x → s' 108 x = s 108 x) := by
  intro i
  induction i with
  | zero =>
    intro fu s hi hfu hv
    obtain ⟨fu, rfl⟩ : ∃ g, fu = g + 1 := ⟨fu - 1, by omega⟩
    refine ⟨s, ?_, fun x x1 x2 => by omega, fun _ _ => rfl⟩
    rw [F_X10_fireOnce_17, if_neg (by decide)]
    rfl
  | succ i ih =>
    intro fu s hi hfu hv
    obtain ⟨fu, rfl⟩ : ∃ g, fu = g + 1 := ⟨fu - 1, by omega⟩
    obtain ⟨s', w1, w2, w3⟩ := ih fu (xu s 108 ((i + 1 : Nat) : Int) (v (i : Int) * p)) (by omega) (by omega) (fun x x1 x2 => by
      rw [xu_slot _ _ _ (show x ≠ ((i + 1 : Nat) : Int) by omega)]
      exact hv x x1 (by omega))
    refine ⟨s', ?_, fun x x1 x2 => ?_, fun x x1 => ?_⟩
    · rw [F_X10_fireOnce_17, xw_sm (x := ((i + 1 : Nat) : Int)) (by omega) (by omega), if_pos (by omega), xgd_t (by omega), xgd_t (by omega), xls, xlt, xw_sm (x := p) (by omega) (by omega), show ((i + 1 : Nat) : Int) - 1 = (i : Int) by omega, show ((i + 1 : Nat) : Int) + (-1) = (i : Int) by omega, hv i (by omega) (by omega)]
      exact w1
    · by_cases z : x = ((i + 1 : Nat) : Int)
      · rw [w3 x (by omega), z, xu_same, show ((i + 1 : Nat) : Int) - 1 = (i : Int) by omega]
      · exact w2 x x1 (by omega)
    · rw [w3 x (by omega), xu_slot _ _ _ (show x ≠ ((i + 1 : Nat) : Int) by omega)]
theorem fire_c {p : Int} {n k : Nat} {s : xW} (hp : 0 ≤ p ∧ p ≤ 10) (hn : 1 ≤ n ∧ n ≤ 15) (hv : ∀ x : Int, 0 ≤ x → x < n → s 108 x = xmv p n k x) : ∃ s', F_X10_fireOnce (n : Int) p s = some s' ∧ (∀ x : Int, 0 ≤ x → x < n → s' 108 x = xmv p n (k + 1) x) := by
  have hN := xN_ge
  obtain ⟨m, rfl⟩ : ∃ m, n = m + 1 := ⟨n - 1, by omega⟩
  obtain ⟨s', w1, w2, w3⟩ := fire_loop (q := xsum (xmv p (m + 1) k) (m + 1) * (10 - p)) (k := fun (l5_14 : Int) (s15 : xW) => some (xu s15 108 0 (xsum (xmv p (m + 1) k) (m + 1) * (10 - p)))) hp m xN s (by omega) (by omega) (fun x x1 x2 => hv x x1 (by omega))
  refine ⟨xu s' 108 0 (xsum (xmv p (m + 1) k) (m + 1) * (10 - p)), ?_, fun x x1 x2 => ?_⟩
  · unfold F_X10_fireOnce
    rw [sumC_c (by omega) hv]
    simp only [xbp_s, xbd_s, xls, xli, xlt, xjn]
    rw [xw_sm (x := 10 - p) (by omega) (by omega), show ((m + 1 : Nat) : Int) - 1 = (m : Int) by omega]
    exact w1
  · by_cases z : x = 0
    · rw [z, xu_same, xmv_0]
    · rw [xu_slot _ _ _ z, w2 x (by omega) (by omega), xmv_s (by omega)]
theorem mis_loopC {p a : Int} {n : Nat} {K : Int → Int → xW → Option (Int × xW)} (hp : 0 ≤ p ∧ p ≤ 10) (hn : 1 ≤ n ∧ n ≤ 15) (ha : 0 ≤ a ∧ a ≤ 15) :
    ∀ (j i fu : Nat) (s : xW), (i : Int) + j = a → j < fu → (∀ x : Int, 0 ≤ x → x < n → s 108 x = xmv p n i x) → ∃ s', F_X10_misfires_55 a (n : Int) p fu (10 ^ i) (i : Int) s K = K (10 ^ a.toNat) a s' ∧ (∀ x : Int, 0 ≤ x → x < n → s' 108 x = xmv p n a.toNat x) := by
  intro j
  induction j with
  | zero =>
    intro i fu s hi hfu hv
    obtain ⟨fu, rfl⟩ : ∃ g, fu = g + 1 := ⟨fu - 1, by omega⟩
    have ei : (i : Int) = a := by omega
    have ei2 : a.toNat = i := by omega
    rw [ei2]
    refine ⟨s, ?_, hv⟩
    rw [F_X10_misfires_55, ei, if_neg (Int.lt_irrefl _)]
  | succ j ih =>
    intro i fu s hi hfu hv
    obtain ⟨fu, rfl⟩ : ∃ g, fu = g + 1 := ⟨fu - 1, by omega⟩
    obtain ⟨s1, w1, w2⟩ := fire_c hp hn hv
    obtain ⟨s', u1, u2⟩ := ih (i + 1) fu s1 (by omega) (by omega) w2
    refine ⟨s', ?_, u2⟩
    rw [F_X10_misfires_55, xw_sm (x := (i : Int)) (by omega) (by omega), xw_sm (x := a) (by omega) (by omega), if_pos (by omega), w1]
    simp only [xbp_s, xbd_s, xls, xli, xlt, xjn]
    rw [← Int.pow_succ, show ((i : Int) + 1) = ((i + 1 : Nat) : Int) by omega]
    exact u1
theorem mis_in {a b p d c : Int} {v : Int → Int} {k : Int → Int → xW → Option (Int × xW)} (hp : 0 ≤ p ∧ p ≤ 10) :
    ∀ (n fu : Nat) (acc : Int) (s : xW), n ≤ 15 → n < fu → (∀ x : Int, 0 ≤ x → x < n → s 148 x = v x) → ∃ s', F_X11_misfires_99 a b p d c fu acc ((n : Int) - 1) s k = k (acc + xsum v n) (-1) s' ∧ (∀ x : Int, 1 ≤ x → x ≤ n → s' 148 x = v (x - 1) * p) ∧ (∀ x : Int, n < x → s' 148 x = s 148 x) := by
  intro n
  induction n with
  | zero =>
    intro fu acc s hi hfu hv
    obtain ⟨fu, rfl⟩ : ∃ g, fu = g + 1 := ⟨fu - 1, by omega⟩
    refine ⟨s, ?_, fun x x1 x2 => by omega, fun _ _ => rfl⟩
    rw [F_X11_misfires_99, if_neg (by decide)]
    show k acc _ s = k (acc + 0) _ s
    rw [Int.add_zero]
    rfl
  | succ n ih =>
    intro fu acc s hi hfu hv
    obtain ⟨fu, rfl⟩ : ∃ g, fu = g + 1 := ⟨fu - 1, by omega⟩
    obtain ⟨s', w1, w2, w3⟩ := ih fu (acc + v n) (xu s 148 ((n : Int) + 1) (v (n : Int) * p)) (by omega) (by omega) (fun x x1 x2 => by
      rw [xu_slot _ _ _ (show x ≠ (n : Int) + 1 by omega)]
      exact hv x x1 (by omega))
    refine ⟨s', ?_, fun x x1 x2 => ?_, fun x x1 => ?_⟩
    · rw [F_X11_misfires_99, show ((n + 1 : Nat) : Int) - 1 = (n : Int) by omega, xw_sm (x := (n : Int)) (by omega) (by omega), if_pos (by omega), xgd_t (by omega), xgd_t (by omega), xgd_t (by omega), xls, xlt, xw_sm (x := p) (by omega) (by omega), hv n (by omega) (by omega), show (n : Int) + (-1) = (n : Int) - 1 by omega, w1, xsum_s, show acc + v n + xsum v n = acc + (xsum v n + v n) by omega]
    · by_cases z : x = (n : Int) + 1
      · rw [w3 x (by omega), z, xu_same, show (n : Int) + 1 - 1 = (n : Int) by omega]
      · exact w2 x x1 (by omega)
    · rw [w3 x (by omega), xu_slot _ _ _ (show x ≠ (n : Int) + 1 by omega)]
theorem mis_loopM {p a : Int} {n : Nat} {K : Int → Int → xW → Option (Int × xW)} (hp : 0 ≤ p ∧ p ≤ 10) (hn : 1 ≤ n ∧ n ≤ 15) (ha : 0 ≤ a ∧ a ≤ 15) :
    ∀ (j i fu : Nat) (s : xW), (i : Int) + j = a → j < fu → (∀ x : Int, 0 ≤ x → x < n → s 148 x = xmv p n i x) → ∃ s', F_X11_misfires_85 a (n : Int) p fu (10 ^ i) (i : Int) s K = K (10 ^ a.toNat) a s' ∧ (∀ x : Int, 0 ≤ x → x < n → s' 148 x = xmv p n a.toNat x) := by
  intro j
  induction j with
  | zero =>
    intro i fu s hi hfu hv
    obtain ⟨fu, rfl⟩ : ∃ g, fu = g + 1 := ⟨fu - 1, by omega⟩
    have ei : (i : Int) = a := by omega
    have ei2 : a.toNat = i := by omega
    rw [ei2]
    refine ⟨s, ?_, hv⟩
    rw [F_X11_misfires_85, ei, if_neg (Int.lt_irrefl _)]
  | succ j ih =>
    intro i fu s hi hfu hv
    have hN := xN_ge
    obtain ⟨fu, rfl⟩ : ∃ g, fu = g + 1 := ⟨fu - 1, by omega⟩
    obtain ⟨s1, w1, w2, w3⟩ := mis_in (a := a) (b := (n : Int)) (d := 10 ^ i) (c := (i : Int)) (k := fun (l7_59 : Int) (l9_60 : Int) (s61 : xW) => F_X11_misfires_85 a (n : Int) p fu (10 ^ i * 10) ((i : Int) + 1) (xu s61 148 0 (l7_59 * (xw (10 - p)))) K) hp n xN 0 s (by omega) (by omega) hv
    obtain ⟨s', u1, u2⟩ := ih (i + 1) fu (xu s1 148 0 (xsum (xmv p n i) n * (10 - p))) (by omega) (by omega) (fun x x1 x2 => by
      by_cases z : x = 0
      · rw [z, xu_same, xmv_0]
      · rw [xu_slot _ _ _ z, w2 x (by omega) (by omega), xmv_s (by omega)])
    refine ⟨s', ?_, u2⟩
    rw [F_X11_misfires_85, xw_sm (x := (i : Int)) (by omega) (by omega), xw_sm (x := a) (by omega) (by omega), if_pos (by omega)]
    refine Eq.trans w1 ?_
    rw [← Int.pow_succ, show ((i : Int) + 1) = ((i + 1 : Nat) : Int) by omega, xw_sm (x := 10 - p) (by omega) (by omega), Int.zero_add]
    exact u1
theorem mis_init {p a : Int} {n : Nat} {K : Int → xW → Option (Int × xW)} (hn : 1 ≤ n ∧ n ≤ 15) :
    ∀ (j i fu : Nat) (s : xW), i + j = n + 1 → j < fu → (∀ x : Int, 0 ≤ x → x < i → s 148 x = if x = 0 then 1 else 0) → ∃ s' v, F_X11_misfires_49 a (n : Int) p 1 fu (i : Int) s K = K v s' ∧ (∀ x : Int, 0 ≤ x → x < n → s' 148 x = if x = 0 then 1 else 0) := by
  intro j
  induction j with
  | zero =>
    intro i fu s hi hfu hv
    obtain ⟨fu, rfl⟩ : ∃ g, fu = g + 1 := ⟨fu - 1, by omega⟩
    refine ⟨s, (i : Int), ?_, fun x x1 x2 => hv x x1 (by omega)⟩
    rw [F_X11_misfires_49, xw_sm (x := (i : Int)) (by omega) (by omega), xw_sm (x := (n : Int)) (by omega) (by omega), if_neg (by omega)]
  | succ j ih =>
    intro i fu s hi hfu hv
    obtain ⟨fu, rfl⟩ : ∃ g, fu = g + 1 := ⟨fu - 1, by omega⟩
    have hfl : ∀ s : xW, F_X11_flag (if (i : Int) = 0 then 1 else 0) s = some (if (i : Int) = 0 then 1 else 0) := fun s => by
      unfold F_X11_flag
      by_cases z : (i : Int) = 0
      · rw [if_pos z]; rfl
      · rw [if_neg z]; rfl
    rw [F_X11_misfires_49, xw_sm (x := (i : Int)) (by omega) (by omega), xw_sm (x := (n : Int)) (by omega) (by omega), if_pos (by omega), xli, xlt, hfl]
    simp only [xbp_s, xbd_s, xls, xli, xlt, xjn]
    rw [xgd_t (by omega), xif01, show ((i : Int) + 1) = ((i + 1 : Nat) : Int) by omega]
    refine ih (i + 1) fu _ (by omega) (by omega) (fun x x1 x2 => ?_)
    by_cases z : x = i
    · rw [z, xu_same]
    · rw [xu_slot _ _ _ z]
      exact hv x x1 (by omega)
theorem mis_tell {S den : Int} {s t : xW} (hS : 0 ≤ S ∧ S ≤ 1000000000000000) (hd : 0 < den ∧ den ≤ 1000000000000000) : ∃ x y, F_X10_tellFraction S den s = some (xt2 s x y) ∧ F_X11_tellsFraction S den t = some (xe2 t x y) := by
  have hN := xN_ge
  obtain ⟨S, rfl⟩ : ∃ n : Nat, S = (n : Int) := ⟨S.toNat, by omega⟩
  obtain ⟨den, rfl⟩ : ∃ n : Nat, den = (n : Int) := ⟨den.toNat, by omega⟩
  have hg : 0 < Nat.gcd S den := Nat.gcd_pos_of_pos_right _ (by omega)
  have hg2 : Nat.gcd S den ≤ den := Nat.le_of_dvd (by omega) (Nat.gcd_dvd_right _ _)
  have hp : (2 : Nat) ^ 50 = 1125899906842624 := by decide
  have e1 := common_g 50 S den 200 (by omega) (by omega) (by omega) (by omega)
  obtain ⟨v, w, e2⟩ := frac_g (x := (S : Int)) (y := (den : Int)) (s := s) (K := fun (l5_13 : Int) (l7_14 : Int) (l9_15 : Int) =>
    if (xwl l5_13) ≠ 0 then
      xgd ((xwl l5_13) ≠ 0) <|
      xgd ((xwl l5_13) ≠ 0) <|
      xbp (F_X6_tell_ (Int.tdiv (xwl (S : Int)) (xwl l5_13)) (Int.tdiv (xwl (den : Int)) (xwl l5_13)) s) fun s20 =>
      some s20
    else
      some s) 50 den S 0 xN (by omega) (by omega) (by omega) (by omega) (by omega)
  have hx : xwl ((Nat.gcd S den : Nat) : Int) ≠ 0 := by rw [xwl_nat (by omega)]; omega
  refine ⟨Int.tdiv (xwl (S : Int)) (xwl ((Nat.gcd S den : Nat) : Int)), Int.tdiv (xwl (den : Int)) (xwl ((Nat.gcd S den : Nat) : Int)), ?_, ?_⟩
  · unfold F_X10_tellFraction
    refine Eq.trans e2 ?_
    rw [Nat.gcd_comm den S, if_pos hx, xgd_t hx, xgd_t hx, tell_2]
    rfl
  · unfold F_X11_tellsFraction F_X11_common
    rw [e1]
    simp only [xbp_s, xbd_s, xls, xli, xlt, xjn]
    rw [xgd_t hx, ent_1]
    simp only [xbp_s, xbd_s, xls, xli, xlt, xjn]
    rw [xgd_t hx, ent_2]
    rfl
theorem op_misfires {a n p : Int} (ha : I32 a) (hn : I32 n) (hp : I32 p) : XO (F_X10_misfires a n p) (F_X11_misfires a n p) := by
  intro B σ τ hB hB1 h
  have hN := xN_ge
  by_cases q : (1 ≤ a ∧ a ≤ 15) ∧ (1 ≤ n ∧ n ≤ 15) ∧ (0 ≤ p ∧ p ≤ 10)
  · obtain ⟨q1, q2, q3⟩ := id q
    obtain ⟨n, rfl⟩ : ∃ m : Nat, n = (m : Int) := ⟨n.toNat, by omega⟩
    have q2' : 1 ≤ n ∧ n ≤ 15 := by omega
    obtain ⟨s, c1, c2⟩ := mis_loopC (a := a) (K := fun (l4_26 : Int) (l6_27 : Int) (s28 : xW) => xbp (F_X10_sumOfChances (n : Int) s28) fun r30 => xbp (F_X10_tellFraction r30 l4_26 s28) fun s32 => some (0, s32)) q3 q2' (by omega) a.toNat 0 xN (xu (xfl σ 108 16 0) 108 0 1) (by omega) (by omega) (fun x x1 x2 => by
      by_cases z : x = 0
      · rw [z, xu_same]; rfl
      · have : x < 16 := by omega
        simp [xmv, z, xu, xfl, x1, this])
    obtain ⟨t0, v0, d0, d1⟩ := mis_init (p := p) (a := a) (n := n) (K := fun (l6_33 : Int) (s34 : xW) =>
        F_X11_misfires_85 a (n : Int) p xN 1 0 s34 fun (l4_67 : Int) (l6_68 : Int) (s69 : xW) =>
        F_X11_misfires_175 (n : Int) l4_67 s69 xN 0 0 fun (l6_79 : Int) (l8_80 : Int) =>
        xbp (F_X11_tellsFraction l6_79 l4_67 s69) fun s82 =>
        some (0, s82)) q2' (n + 1) 0 xN (xu τ 121 0 0) (by omega) (by omega) (fun x x1 x2 => by omega)
    obtain ⟨t, d2, d3⟩ := mis_loopM (a := a) (K := fun (l4_67 : Int) (l6_68 : Int) (s69 : xW) =>
        F_X11_misfires_175 (n : Int) l4_67 s69 xN 0 0 fun (l6_79 : Int) (l8_80 : Int) =>
        xbp (F_X11_tellsFraction l6_79 l4_67 s69) fun s82 =>
        some (0, s82)) q3 q2' (by omega) a.toNat 0 xN t0 (by omega) (by omega) d1
    have hS := xmv_sum (n := n) q3 q2'.1 a.toNat
    have hS0 := xsum_nn (xmv_p (n := n) q3 a.toNat) n
    have hpw : (0 : Int) < 10 ^ a.toNat ∧ (10 : Int) ^ a.toNat ≤ 1000000000000000 := by
      have : ∀ k : Fin 16, (0 : Int) < 10 ^ k.val ∧ (10 : Int) ^ k.val ≤ 1000000000000000 := by decide
      exact this ⟨a.toNat, by omega⟩
    obtain ⟨x, y, f1, f2⟩ := mis_tell (S := xsum (xmv p n a.toNat) n) (den := 10 ^ a.toNat) (s := s) (t := t) ⟨hS0, by omega⟩ hpw
    have eC : F_X10_misfires a (n : Int) p σ = some (0, xt2 s x y) := by
      unfold F_X10_misfires
      simp only [xbp_s, xbd_s, xls, xli, xlt, xjn]
      rw [xw_id ha, xw_id hn, xw_id hp, if_pos q1.1, if_pos q1.2, if_pos q2.1, if_pos q2.2, if_pos q3.1, if_neg (by omega)]
      refine Eq.trans c1 ?_
      rw [sumC_c (by omega) c2]
      simp only [xbp_s, xbd_s, xls, xli, xlt, xjn]
      rw [f1]
      rfl
    have eM : F_X11_misfires a (n : Int) p τ = some (0, xe2 t x y) := by
      unfold F_X11_misfires
      simp only [xbp_s, xbd_s, xls, xli, xlt, xjn]
      rw [xw_id ha, xw_id hn, xw_id hp, in_eq (by omega) (by omega) (by omega), if_pos q1]
      simp only [xbp_s, xbd_s, xls, xli, xlt, xjn]
      rw [if_pos (show xw 1 ≠ 0 by decide), in_eq (by omega) (by omega) (by omega), if_pos q2]
      simp only [xbp_s, xbd_s, xls, xli, xlt, xjn]
      rw [if_pos (show xw 1 ≠ 0 by decide), in_eq (by omega) (by omega) (by omega), if_pos q3]
      simp only [xbp_s, xbd_s, xls, xli, xlt, xjn]
      rw [if_neg (show ¬ xw 1 = 0 by decide)]
      refine Eq.trans d0 (Eq.trans d2 ?_)
      refine Eq.trans (sumM (k := fun (l6_79 : Int) (l8_80 : Int) => xbp (F_X11_tellsFraction l6_79 (10 ^ a.toNat) t) fun s82 => some (0, s82)) (by omega) d3 n 0 xN (by omega) (by omega)) ?_
      rw [f2]
      rfl
    exact ⟨_, _, _, eC, eM, XR_W (fr_X10_misfires eC) (by decide +kernel) (fr_X11_misfires eM) (by decide +kernel) h (Xrow_2 (a := x) (b := y) rfl ⟨by simp [xt2, xt1, xu], by simp [xt2, xt1, xu]⟩ rfl ⟨by simp [xe2, xe1, xu], by simp [xe2, xe1, xu]⟩)⟩
  · refine ⟨-1, σ, xu τ 121 0 0, ?_, ?_, XR_mono (by omega) (XR_thr h)⟩
    · unfold F_X10_misfires
      simp only [xbp_s, xbd_s, xls, xli, xlt, xjn]
      rw [xw_id ha, xw_id hn, xw_id hp]
      by_cases z1 : 1 ≤ a
      · rw [if_pos z1]
        by_cases z2 : a ≤ 15
        · rw [if_pos z2]
          by_cases z3 : 1 ≤ n
          · rw [if_pos z3]
            by_cases z4 : n ≤ 15
            · rw [if_pos z4]
              by_cases z5 : 0 ≤ p
              · rw [if_pos z5, if_pos (by omega)]
              · rw [if_neg z5]
            · rw [if_neg z4]
          · rw [if_neg z3]
        · rw [if_neg z2]
      · rw [if_neg z1]
    · unfold F_X11_misfires
      simp only [xbp_s, xbd_s, xls, xli, xlt, xjn]
      rw [xw_id ha, xw_id hn, xw_id hp, in_eq (by omega) (by omega) (by omega)]
      simp only [xbp_s, xbd_s, xls, xli, xlt, xjn]
      by_cases z1 : 1 ≤ a ∧ a ≤ 15
      · rw [if_pos z1, if_pos (show xw 1 ≠ 0 by decide), in_eq (by omega) (by omega) (by omega)]
        simp only [xbp_s, xbd_s, xls, xli, xlt, xjn]
        by_cases z2 : 1 ≤ n ∧ n ≤ 15
        · rw [if_pos z2, if_pos (show xw 1 ≠ 0 by decide), in_eq (by omega) (by omega) (by omega)]
          simp only [xbp_s, xbd_s, xls, xli, xlt, xjn]
          rw [if_neg (show ¬ (0 ≤ p ∧ p ≤ 10) by omega), if_pos (show xw 0 = 0 by decide)]
        · rw [if_neg z2, if_neg (show ¬ xw 0 ≠ 0 by decide)]
      · rw [if_neg z1, if_neg (show ¬ xw 0 ≠ 0 by decide)]
