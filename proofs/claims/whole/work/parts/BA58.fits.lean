/-! fits: what was heard, and the weathers that fit -/
def xgq (m : Int) (cd : Int → Int) (day gun : Int) (p : Int → Int) (q h : Int) : Int := xhm m cd (q % 10) (q / 10) day gun (p h)
theorem xgq_r {m : Int} {cd : Int → Int} {day gun : Int} {p : Int → Int} {q h : Int} (hq : 0 ≤ q ∧ q < 100) : 0 ≤ xgq m cd day gun p q h ∧ xgq m cd day gun p q h ≤ 108 := xhm_r (by omega)
def Xsc (σ s : xW) : Prop := ∀ c, c ≠ 90 → c ≠ σ 0 4 + 2 → c ≠ 100 → c ≠ 103 → c ≠ 104 → s c = σ c
theorem minuteBy_c {B q x : Int} {σ τ s : xW} (hB1 : B ≤ 1000000) (h : XR B σ τ) (hq : 0 ≤ q ∧ q < 100) (hx : 0 ≤ x ∧ x < σ 0 14) (hs : Xsc σ s) : ∃ s', F_X10_minuteBy q x s = some (xgq (τ 121 23) (τ 131) (σ 17 5) (σ 17 0) (σ 18) q x, s') ∧ ∀ c, c ≠ 90 → c ≠ σ 0 4 + 2 → s' c = s c := by
  have hcw := XR_cw h
  obtain ⟨h1, h2, h3, h4, h5, h6, h7, h8, h9, h10⟩ := id h
  have hr := hcw.1
  have hX := hcw.2.1
  have hn := h5.1
  have hp := h6.1.2.1 x hx.1 (by omega)
  have hday := h6.1.1.2.2.2.2.2
  have hgun := h6.1.1.1
  have e0 : s 0 = σ 0 := hs 0 (by decide) (by omega) (by decide) (by decide) (by decide)
  have e17 : s 17 = σ 17 := hs 17 (by decide) (by omega) (by decide) (by decide) (by decide)
  have e18 : s 18 = σ 18 := hs 18 (by decide) (by omega) (by decide) (by decide) (by decide)
  have er : s (σ 0 4) = σ (σ 0 4) := hs _ (by omega) (by omega) (by omega) (by omega) (by omega)
  have er1 : s (σ 0 4 + 1) = σ (σ 0 4 + 1) := hs _ (by omega) (by omega) (by omega) (by omega) (by omega)
  obtain ⟨s3, hs3⟩ : ∃ s3, s3 = xu (xu (xu s 90 1 (q % 10)) 90 2 (q / 10)) 90 5 (σ 17 5 % 7) := ⟨_, rfl⟩
  have ho : ∀ c, c ≠ 90 → s3 c = s c := fun c z => by rw [hs3, xu_row _ _ _ z, xu_row _ _ _ z, xu_row _ _ _ z]
  obtain ⟨arr, ha⟩ := minute_c (r := σ 0 4) (m := τ 121 23) (far := xfa (σ 17 0) (σ 18 x)) (pl := σ 18 x) (e := 0) (cd := τ 131) (s := s3) hr (by rw [ho _ (by omega), ho _ (by omega), er, er1]; exact hX) hp
  refine ⟨xrow (xu (xu (xu (xu s3 90 0 (xfa (σ 17 0) (σ 18 x))) 90 3 (σ 18 x / 10)) 90 4 (σ 18 x % 10)) 90 6 0) (σ 0 4 + 2) arr, ?_, fun c c1 c2 => ?_⟩
  · unfold F_X10_minuteBy F_X0_on
    rw [xgd_t (by omega), e17, e18, xw_sm (x := q) (by omega) (by omega), xw_sm (x := σ 17 5) (by omega) (by omega), Int.tdiv_eq_ediv_of_nonneg hq.1, Int.tmod_eq_emod_of_nonneg hq.1, Int.tmod_eq_emod_of_nonneg hday.1]
    simp only [xbp_s, xbd_s, xls, xli, xlt, xjn]
    rw [← hs3, ho 0 (by decide), e0, ho 17 (by decide), e17, xgd_t (by rcases hr with a | a <;> rw [a] <;> decide), far_c hgun hp]
    simp only [xbp_s, xbd_s, xls, xli, xlt, xjn]
    rw [ha]
    simp only [xbp_s, xbd_s, xls, xli, xlt, xjn]
    have q1 : s3 90 1 = q % 10 := by rw [hs3]; simp [xu]
    have q2 : s3 90 2 = q / 10 := by rw [hs3]; simp [xu]
    have q5 : s3 90 5 = σ 17 5 % 7 := by rw [hs3]; simp [xu]
    rw [q1, q2, q5]
    rfl
  · rw [xrow_o c2, xu_row _ _ _ c1, xu_row _ _ _ c1, xu_row _ _ _ c1, xu_row _ _ _ c1]
    exact ho c c1
def Xsm (τ t : xW) : Prop := (∀ c, c ≠ 121 → c ≠ 122 → c ≠ 133 → c ≠ 134 → c ≠ 142 → t c = τ c) ∧ (∀ k, k ≠ 0 → k ≠ 1 → t 121 k = τ 121 k)
theorem hby_m {B q x : Int} {σ τ t : xW} (hB1 : B ≤ 1000000) (h : XR B σ τ) (hq : 0 ≤ q ∧ q < 100) (hx : 0 ≤ x ∧ x < σ 0 14) (ht : Xsm τ t) : ∃ t', F_X11_hearsBy 127 x 0 (q / 10) (q % 10) t = some (xgq (τ 121 23) (τ 131) (σ 17 5) (σ 17 0) (σ 18) q x, t') ∧ ∀ c, c ≠ 133 → c ≠ 134 → t' c = t c := by
  have hmr := XR_mr hB1 h
  have hmw := XR_mw h
  have hmw1 : Xmw (τ 121 23) (τ 131) σ t := Xmw_c hmw (fun c hc => ht.1 c (by omega) (by omega) (by omega) (by omega) (by omega)) (fun k hk => ht.2 k (by omega) (by omega))
  have et : t 127 = τ 127 := ht.1 127 (by decide) (by decide) (by decide) (by decide) (by decide)
  obtain ⟨s', u1, u2⟩ := hearsBy_m (r := 127) (h := x) (e := 0) (w := q % 10) (d := q / 10) hmw1.1 (Or.inl rfl) (by rw [et]; exact hmr.1) h.2.2.2.2.1.1.2 hx (Or.inl rfl)
  refine ⟨s', ?_, u2⟩
  rw [u1, et, xhe_0, hmr.2.1, hmr.2.2.1, hmr.2.2.2.1 x hx.1 hx.2]
  rfl
/-- does the weather q fit the first k that were heard -/
def xfit (G : Int → Int → Int) (rh rm : Int → Int) (q : Int) (k : Nat) : Bool := xalls (fun i => decide (G q (rh i) = rm i)) k
theorem fitC_loop {r q : Int} {G : Int → Int → Int} {σ : xW} (hr : r = 9 ∨ r = 13) (er : σ 0 4 = r) (hn : 0 ≤ σ 100 2 ∧ σ 100 2 ≤ 10) (hq : 0 ≤ q ∧ q < 100) (hG : ∀ q h : Int, 0 ≤ q → q < 100 → 0 ≤ G q h ∧ G q h ≤ 108) (hm : ∀ i : Int, 0 ≤ i → i < σ 100 2 → (0 ≤ σ 101 i ∧ σ 101 i < σ 0 14) ∧ (0 ≤ σ 102 i ∧ σ 102 i ≤ 199)) (hM : ∀ (q x : Int) (s : xW), 0 ≤ q → q < 100 → 0 ≤ x → x < σ 0 14 → Xsc σ s → ∃ s', F_X10_minuteBy q x s = some (G q x, s') ∧ ∀ c, c ≠ 90 → c ≠ r + 2 → s' c = s c) :
    ∀ (j i fu : Nat) (s : xW), (i : Int) + j = σ 100 2 → j < fu → Xsc σ s → s 100 = σ 100 → xfit G (σ 101) (σ 102) q i = true → ∃ s', F_X10_fitsReports_2 q fu (i : Int) s (fun (l2_13 : Int) (s14 : xW) => some (1, s14)) = some (b01 (xfit G (σ 101) (σ 102) q (σ 100 2).toNat), s') ∧ ∀ c, c ≠ 90 → c ≠ r + 2 → s' c = s c := by
  intro j
  induction j with
  | zero =>
    intro i fu s hi hfu hs h100 hf
    obtain ⟨fu, rfl⟩ : ∃ g, fu = g + 1 := ⟨fu - 1, by omega⟩
    have ei : (i : Int) = σ 100 2 := by omega
    have ei2 : (σ 100 2).toNat = i := by omega
    refine ⟨s, ?_, fun _ _ _ => rfl⟩
    rw [ei, F_X10_fitsReports_2, h100, if_neg (Int.lt_irrefl _), ei2, hf]
    rfl
  | succ j ih =>
    intro i fu s hi hfu hs h100 hf
    obtain ⟨fu, rfl⟩ : ∃ g, fu = g + 1 := ⟨fu - 1, by omega⟩
    have e101 : s 101 = σ 101 := hs 101 (by decide) (by omega) (by decide) (by decide) (by decide)
    have hmi := hm i (by omega) (by omega)
    obtain ⟨s1, u1, u2⟩ := hM q (σ 101 i) s hq.1 hq.2 hmi.1.1 hmi.1.2 hs
    have e102 : s1 102 = σ 102 := by rw [u2 102 (by decide) (by omega)]; exact hs 102 (by decide) (by omega) (by decide) (by decide) (by decide)
    have hg := hG q (σ 101 i) hq.1 hq.2
    have hs1 : Xsc σ s1 := fun c c1 c2 c3 c4 c5 => by rw [u2 c c1 (by rw [← er]; exact c2)]; exact hs c c1 c2 c3 c4 c5
    have ef : xfit G (σ 101) (σ 102) q (i + 1) = decide (G q (σ 101 i) = σ 102 i) := by
      show (xfit G (σ 101) (σ 102) q i && decide (G q (σ 101 i) = σ 102 i)) = _
      rw [hf, Bool.true_and]
    have e : F_X10_fitsReports_2 q (fu + 1) (i : Int) s (fun (l2_13 : Int) (s14 : xW) => some (1, s14)) = if G q (σ 101 i) ≠ σ 102 i then some (0, s1) else F_X10_fitsReports_2 q fu ((i : Int) + 1) s1 (fun (l2_13 : Int) (s14 : xW) => some (1, s14)) := by
      rw [F_X10_fitsReports_2, h100, e101, xw_sm (x := (i : Int)) (by omega) (by omega), xw_sm (x := σ 100 2) (by omega) (by omega), if_pos (by omega), xgd_t (by omega), u1]
      simp only [xbp_s, xbd_s, xls, xli, xlt, xjn]
      rw [xgd_t (by omega), e102, xw_sm (x := G q (σ 101 i)) (by omega) (by omega), xw_sm (x := σ 102 i) (by omega) (by omega)]
    rw [e]
    by_cases z : G q (σ 101 i) = σ 102 i
    · obtain ⟨s', g1, g2⟩ := ih (i + 1) fu s1 (by omega) (by omega) hs1 (by rw [u2 100 (by decide) (by omega)]; exact h100) (by rw [ef]; exact decide_eq_true z)
      refine ⟨s', ?_, fun c c1 c2 => by rw [g2 c c1 c2, u2 c c1 c2]⟩
      rw [if_neg (fun w => w z), show ((i : Int) + 1) = ((i + 1 : Nat) : Int) by omega]
      exact g1
    · refine ⟨s1, ?_, u2⟩
      rw [if_pos z]
      have hz : xfit G (σ 101) (σ 102) q (σ 100 2).toNat = false := by
        have w : xfit G (σ 101) (σ 102) q (i + 1) = false := by rw [ef]; exact decide_eq_false z
        rw [show (σ 100 2).toNat = (i + 1) + ((σ 100 2).toNat - (i + 1)) by omega]
        exact xalls_f w _
      rw [hz]
      rfl
theorem fitC {r q : Int} {G : Int → Int → Int} {σ s : xW} (hr : r = 9 ∨ r = 13) (er : σ 0 4 = r) (hn : 0 ≤ σ 100 2 ∧ σ 100 2 ≤ 10) (hq : 0 ≤ q ∧ q < 100) (hG : ∀ q h : Int, 0 ≤ q → q < 100 → 0 ≤ G q h ∧ G q h ≤ 108) (hm : ∀ i : Int, 0 ≤ i → i < σ 100 2 → (0 ≤ σ 101 i ∧ σ 101 i < σ 0 14) ∧ (0 ≤ σ 102 i ∧ σ 102 i ≤ 199)) (hM : ∀ (q x : Int) (s : xW), 0 ≤ q → q < 100 → 0 ≤ x → x < σ 0 14 → Xsc σ s → ∃ s', F_X10_minuteBy q x s = some (G q x, s') ∧ ∀ c, c ≠ 90 → c ≠ r + 2 → s' c = s c) (hs : Xsc σ s) (h100 : s 100 = σ 100) : ∃ s', F_X10_fitsReports q s = some (b01 (xfit G (σ 101) (σ 102) q (σ 100 2).toNat), s') ∧ ∀ c, c ≠ 90 → c ≠ r + 2 → s' c = s c := by
  have hN := xN_ge
  unfold F_X10_fitsReports
  exact fitC_loop hr er hn hq hG hm hM (σ 100 2).toNat 0 xN s (by omega) (by omega) hs h100 rfl
theorem fitM_loop {q : Int} {G : Int → Int → Int} {σ τ : xW} {k : Int → Int → xW → Option (Int × xW)} (hR : Xrep σ τ) (hq : 0 ≤ q ∧ q < 100) (hG : ∀ q h : Int, 0 ≤ q → q < 100 → 0 ≤ G q h ∧ G q h ≤ 108) (hM : ∀ (q x : Int) (t : xW), 0 ≤ q → q < 100 → 0 ≤ x → x < σ 0 14 → Xsm τ t → ∃ t', F_X11_hearsBy 127 x 0 (q / 10) (q % 10) t = some (G q x, t') ∧ ∀ c, c ≠ 133 → c ≠ 134 → t' c = t c) :
    ∀ (j i fu : Nat) (t : xW), (i : Int) + j = σ 100 2 → j < fu → Xsm τ t → ∃ t', F_X11_isSo_4 q fu (b01 (xfit G (σ 101) (σ 102) q i)) (i : Int) t k = k (b01 (xfit G (σ 101) (σ 102) q (σ 100 2).toNat)) (σ 100 2) t' ∧ ∀ c, c ≠ 133 → c ≠ 134 → t' c = t c := by
  obtain ⟨r1, r2, r3⟩ := hR
  intro j
  induction j with
  | zero =>
    intro i fu t hi hfu ht
    obtain ⟨fu, rfl⟩ : ∃ g, fu = g + 1 := ⟨fu - 1, by omega⟩
    have ei : (i : Int) = σ 100 2 := by omega
    have ei2 : (σ 100 2).toNat = i := by omega
    refine ⟨t, ?_, fun _ _ _ => rfl⟩
    rw [ei, F_X11_isSo_4, ht.2 42 (by decide) (by decide), r2, if_neg (Int.lt_irrefl _), ei2]
  | succ j ih =>
    intro i fu t hi hfu ht
    obtain ⟨fu, rfl⟩ : ∃ g, fu = g + 1 := ⟨fu - 1, by omega⟩
    obtain ⟨k1, k2, k3, k4⟩ := r3 i (by omega) (by omega)
    have hg := hG q (σ 101 i) hq.1 hq.2
    have ef : xfit G (σ 101) (σ 102) q (i + 1) = (xfit G (σ 101) (σ 102) q i && decide (G q (σ 101 i) = σ 102 i)) := rfl
    have key : ∃ t1, (∀ c, c ≠ 133 → c ≠ 134 → t1 c = t c) ∧ F_X11_isSo_4 q (fu + 1) (b01 (xfit G (σ 101) (σ 102) q i)) (i : Int) t k = F_X11_isSo_4 q fu (b01 (xfit G (σ 101) (σ 102) q (i + 1))) ((i : Int) + 1) t1 k := by
      cases z : xfit G (σ 101) (σ 102) q i with
      | false =>
        refine ⟨t, fun _ _ _ => rfl, ?_⟩
        rw [F_X11_isSo_4, ht.2 42 (by decide) (by decide), r2, xw_sm (x := (i : Int)) (by omega) (by omega), xw_sm (x := σ 100 2) (by omega) (by omega), if_pos (by omega)]
        simp only [xjn]
        rw [if_neg (show ¬ xw (b01 false) ≠ 0 by decide), ef, z, Bool.false_and]
        rfl
      | true =>
        obtain ⟨t1, u1, u2⟩ := hM q (σ 101 i) t hq.1 hq.2 k1.1 k1.2 ht
        refine ⟨t1, u2, ?_⟩
        have e146 : t 146 (i : Int) = σ 101 i := by rw [ht.1 146 (by decide) (by decide) (by decide) (by decide) (by decide)]; exact k3
        have e147 : t1 147 (i : Int) = σ 102 i := by rw [u2 147 (by decide) (by decide), ht.1 147 (by decide) (by decide) (by decide) (by decide) (by decide)]; exact k4
        rw [F_X11_isSo_4, ht.2 42 (by decide) (by decide), r2, xw_sm (x := (i : Int)) (by omega) (by omega), xw_sm (x := σ 100 2) (by omega) (by omega), if_pos (by omega)]
        simp only [xjn]
        rw [if_pos (show xw (b01 true) ≠ 0 by decide), xgd_t (by omega), xw_sm (x := q) (by omega) (by omega), Int.tdiv_eq_ediv_of_nonneg hq.1, Int.tmod_eq_emod_of_nonneg hq.1, e146, u1]
        simp only [xbd_n]
        rw [xgd_t (by omega), e147, xw_sm (x := G q (σ 101 i)) (by omega) (by omega), xw_sm (x := σ 102 i) (by omega) (by omega), ef, z, Bool.true_and]
        by_cases z2 : G q (σ 101 i) = σ 102 i
        · rw [if_pos z2, decide_eq_true z2]; rfl
        · rw [if_neg z2, decide_eq_false z2]; rfl
    obtain ⟨t1, u1, u2⟩ := key
    obtain ⟨t', g1, g2⟩ := ih (i + 1) fu t1 (by omega) (by omega) ⟨fun c c1 c2 c3 c4 c5 => by rw [u1 c c3 c4]; exact ht.1 c c1 c2 c3 c4 c5, fun kk k1 k2 => by rw [u1 121 (by decide) (by decide)]; exact ht.2 kk k1 k2⟩
    refine ⟨t', ?_, fun c c1 c2 => by rw [g2 c c1 c2, u1 c c1 c2]⟩
    rw [u2, show ((i : Int) + 1) = ((i + 1 : Nat) : Int) by omega]
    exact g1
theorem fitM {q : Int} {G : Int → Int → Int} {σ τ t : xW} (hR : Xrep σ τ) (hq : 0 ≤ q ∧ q < 100) (hG : ∀ q h : Int, 0 ≤ q → q < 100 → 0 ≤ G q h ∧ G q h ≤ 108) (hM : ∀ (q x : Int) (t : xW), 0 ≤ q → q < 100 → 0 ≤ x → x < σ 0 14 → Xsm τ t → ∃ t', F_X11_hearsBy 127 x 0 (q / 10) (q % 10) t = some (G q x, t') ∧ ∀ c, c ≠ 133 → c ≠ 134 → t' c = t c) (ht : Xsm τ t) : ∃ t', F_X11_isSo q t = some (b01 (xfit G (σ 101) (σ 102) q (σ 100 2).toNat), t') ∧ ∀ c, c ≠ 133 → c ≠ 134 → t' c = t c := by
  have hN := xN_ge
  have h0 := hR.1
  obtain ⟨t', u1, u2⟩ := fitM_loop (k := fun (l2_25 : Int) (l3_26 : Int) (s27 : xW) => xgd (l2_25 = 0 ∨ l2_25 = 1) <| some (l2_25, s27)) hR hq hG hM (σ 100 2).toNat 0 xN t (by omega) (by omega) ht
  refine ⟨t', ?_, u2⟩
  unfold F_X11_isSo
  refine Eq.trans u1 ?_
  rw [xgd_t (by have := b01_r (xfit G (σ 101) (σ 102) q (σ 100 2).toNat); omega)]
/-- how many of the first i weathers fit -/
def xcnf (P : Int → Bool) (i : Nat) : Int := xsum (fun q => b01 (P q)) i
theorem xcnf_s (P : Int → Bool) (i : Nat) : xcnf P (i + 1) = xcnf P i + b01 (P i) := rfl
theorem xcnf_r (P : Int → Bool) (i : Nat) : 0 ≤ xcnf P i ∧ xcnf P i ≤ i := by
  have := xsum_r (f := fun q => b01 (P q)) (M := 1) i (fun _ _ _ => b01_r _)
  unfold xcnf
  omega
theorem xcnf_mo (P : Int → Bool) (i : Nat) : ∀ j : Nat, xcnf P i ≤ xcnf P (i + j)
  | 0 => Int.le_refl _
  | j + 1 => by
    have h1 := xcnf_mo P i j
    have h2 := xcnf_s P (i + j)
    have h3 := b01_r (P ((i + j : Nat) : Int))
    show _ ≤ xcnf P (i + j + 1)
    omega
def Xwe (P : Int → Bool) (W : Int → Int) (i : Nat) : Prop := ∀ q : Nat, q < i → P q = true → W (xcnf P q) = q
theorem weath_loop {r : Int} {P : Int → Bool} {σ : xW} {k : Int → Int → xW → Option (Int × xW)} (hr : r = 9 ∨ r = 13) (er : σ 0 4 = r) (hf : ∀ (q : Int) (s : xW), 0 ≤ q → q < 100 → Xsc σ s → s 100 = σ 100 → ∃ s', F_X10_fitsReports q s = some (b01 (P q), s') ∧ ∀ c, c ≠ 90 → c ≠ r + 2 → s' c = s c) :
    ∀ (j i fu : Nat) (s : xW), i + j = 100 → j < fu → Xsc σ s → s 100 = σ 100 → s 104 = σ 104 → Xwe P (s 103) i → ∃ s', F_X10_findWeathers_4 fu (xcnf P i) (i : Int) s k = k (xcnf P 100) 100 s' ∧ Xsc σ s' ∧ s' 100 = σ 100 ∧ s' 104 = σ 104 ∧ Xwe P (s' 103) 100 := by
  intro j
  induction j with
  | zero =>
    intro i fu s hi hfu hs h100 h104 hw
    obtain ⟨fu, rfl⟩ : ∃ g, fu = g + 1 := ⟨fu - 1, by omega⟩
    have ei : i = 100 := by omega
    rw [ei] at hw ⊢
    refine ⟨s, ?_, hs, h100, h104, hw⟩
    rw [F_X10_findWeathers_4, if_neg (by decide)]
    rfl
  | succ j ih =>
    intro i fu s hi hfu hs h100 h104 hw
    obtain ⟨fu, rfl⟩ : ∃ g, fu = g + 1 := ⟨fu - 1, by omega⟩
    obtain ⟨s1, u1, u2⟩ := hf i s (by omega) (by omega) hs h100
    have hc := xcnf_r P i
    have hs1 : Xsc σ s1 := fun c c1 c2 c3 c4 c5 => by rw [u2 c c1 (by rw [← er]; exact c2)]; exact hs c c1 c2 c3 c4 c5
    have e100 : s1 100 = σ 100 := by rw [u2 100 (by decide) (by omega)]; exact h100
    have e104 : s1 104 = σ 104 := by rw [u2 104 (by decide) (by omega)]; exact h104
    have e103 : s1 103 = s 103 := u2 103 (by decide) (by omega)
    rw [F_X10_findWeathers_4, xw_sm (x := (i : Int)) (by omega) (by omega), if_pos (by omega), u1]
    simp only [xbp_s, xbd_s, xls, xli, xlt, xjn]
    rw [xw_b01]
    cases z : P (i : Int) with
    | true =>
      rw [if_pos (show b01 true ≠ 0 by decide), xgd_t (by omega)]
      obtain ⟨s', g1, g2⟩ := ih (i + 1) fu (xu s1 103 (xcnf P i) (i : Int)) (by omega) (by omega) (fun c c1 c2 c3 c4 c5 => by rw [xu_row _ _ _ c4]; exact hs1 c c1 c2 c3 c4 c5) (by rw [xu_row _ _ _ (show (100 : Int) ≠ 103 by decide)]; exact e100) (by rw [xu_row _ _ _ (show (104 : Int) ≠ 103 by decide)]; exact e104) (fun q q1 q2 => by
        by_cases w : q = i
        · rw [w, xu_same]
        · have m1 := xcnf_mo P (q + 1) (i - (q + 1))
          rw [show q + 1 + (i - (q + 1)) = i by omega, xcnf_s, q2] at m1
          have m2 : b01 true = 1 := rfl
          rw [xu_slot _ _ _ (by omega), e103]
          exact hw q (by omega) q2)
      refine ⟨s', ?_, g2⟩
      rw [xcnf_s, z] at g1
      rw [show ((i : Int) + 1) = ((i + 1 : Nat) : Int) by omega]
      exact g1
    | false =>
      rw [if_neg (show ¬ b01 false ≠ 0 by decide)]
      obtain ⟨s', g1, g2⟩ := ih (i + 1) fu s1 (by omega) (by omega) hs1 e100 e104 (fun q q1 q2 => by
        by_cases w : q = i
        · rw [w, z] at q2; exact nomatch q2
        · rw [e103]; exact hw q (by omega) q2)
      refine ⟨s', ?_, g2⟩
      rw [xcnf_s, z] at g1
      have e : xcnf P i + b01 false = xcnf P i := Int.add_zero _
      rw [e] at g1
      rw [show ((i : Int) + 1) = ((i + 1 : Nat) : Int) by omega]
      exact g1
