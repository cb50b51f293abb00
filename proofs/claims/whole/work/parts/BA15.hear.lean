/-! the code that is kept; none kept: the first rule -/
def xg0 : Int → Int := fun i => ([1000, 2, 2005, 1001, 2, 2006, 2004] : List Int).getD i.toNat 0
def xcg (m : Int) (cd : Int → Int) : Int → Int := if m = 0 then xg0 else cd
def xcn (m : Int) : Int := if m = 0 then 7 else m
def xrv (m : Int) (cd th : Int → Int) : Int := (xev (xcg m cd) th (xcn m).toNat).headD 0
def xdl (m : Int) (cd th : Int → Int) : Int := max 0 (min 99 (xw (xrv m cd th)))
theorem xdl_r (m : Int) (cd th : Int → Int) : 0 ≤ xdl m cd th ∧ xdl m cd th ≤ 99 := by unfold xdl; omega
theorem xg0_code : xcode 7 xg0 := by
  refine ⟨fun i hi => ?_, by decide⟩
  rcases (by omega : i = 0 ∨ i = 1 ∨ i = 2 ∨ i = 3 ∨ i = 4 ∨ i = 5 ∨ i = 6) with rfl | rfl | rfl | rfl | rfl | rfl | rfl <;> decide
theorem XRC_use {n m : Int} {f cd : Int → Int} (h : XRC n f m cd) : n = xcn m ∧ (1 ≤ xcn m ∧ xcn m ≤ 40) ∧ xcode (xcn m) (xcg m cd) ∧ ∀ i, 0 ≤ i → i < xcn m → f i = xsc (xcg m cd i) := by
  unfold xcn xcg
  rcases h with ⟨rfl, h1, h2⟩ | ⟨h1, h2, h3, h4, h5⟩
  · rw [if_pos rfl, if_pos rfl]
    refine ⟨h1, by decide, xg0_code, fun i a b => ?_⟩
    rw [h2 i a b]
    rcases (by omega : i = 0 ∨ i = 1 ∨ i = 2 ∨ i = 3 ∨ i = 4 ∨ i = 5 ∨ i = 6) with rfl | rfl | rfl | rfl | rfl | rfl | rfl <;> decide
  · rw [if_neg (by omega), if_neg (by omega)]
    exact ⟨h3, ⟨h1, h2⟩, h4, h5⟩
theorem xev_one {n : Int} {g th : Int → Int} (h : xcode n g) (hn : 1 ≤ n) : ∃ v, xev g th n.toNat = [v] := by
  have h1 := (xev_len (th := th) h.1 n.toNat (by omega)).1
  rw [h.2] at h1
  match h2 : xev g th n.toNat with
  | [] => rw [h2] at h1; simp at h1
  | [v] => exact ⟨v, rfl⟩
  | _ :: _ :: _ => rw [h2] at h1; simp at h1; omega
theorem delay_c {r m : Int} {cd : Int → Int} {s : xW} (hr : r = 9 ∨ r = 13) (h : XRC (s r 1) (s (r + 1)) m cd) : ∃ arr, F_X7_delay r s = some (xdl m cd (s 90), xrow s (r + 2) arr) := by
  obtain ⟨h1, h2, h3, h4⟩ := XRC_use h
  obtain ⟨v, hv⟩ := xev_one (th := s 90) h3 h2.1
  obtain ⟨arr, a1, a2⟩ := delay_loop (k := fun (l2_43 : Int) (l3_44 : Int) (s45 : xW) => some ((max 0 (xw (min 99 (xw (s45 (r + 2) 0))))), s45)) h2.2 h1 h4 hr h3.1 (xcn m).toNat 0 (s (r + 2)) xN (by omega) (by have := xN_ge; omega) trivial
  refine ⟨arr, ?_⟩
  unfold F_X7_delay
  rw [xgd_t (by rcases hr with rfl | rfl <;> decide)]
  rw [xrow_i] at a2
  refine a2.trans ?_
  rw [hv] at a1
  have a3 : arr 0 = v := a1.1
  rw [xrow_s, a3, xw_id (by have := I32_xw v; omega)]
  unfold xdl xrv
  rw [hv]
  rfl
theorem ruled_m {m : Int} {cd : Int → Int} {n : Int} {f : Int → Int} {s : xW} (h : XRC n f m cd) (e1 : s 121 23 = m) (e2 : s 131 = cd) : ∃ arr, F_X11_ruled s = some (xrv m cd (s 134), xrow s 133 arr) := by
  unfold F_X11_ruled
  by_cases hm : m = 0
  · refine ⟨s 133, ?_⟩
    obtain ⟨f, hf, -⟩ := xN_s
    rw [xrow_i, hf]
    unfold F_X11_ruled_4
    rw [e1, hm]
    rw [if_neg (by decide)]
    simp only [xjn]
    rw [e1, hm, if_pos (by decide)]
    have hq : xrv 0 cd (s 134) = 2 * s 134 0 - Int.tdiv (xw (s 134 1)) 2 := by
      have e7 : (xcn 0).toNat = 7 := by decide
      unfold xrv
      rw [e7]
      simp only [xev, xcg, if_true]
      simp only [xg0, xst1, xwk]
      simp
      rw [if_neg (by decide), xw_sm (x := 2) (by decide) (by decide)]
      omega
    rw [hq]
  · obtain ⟨h1, h2, h3, h4⟩ := XRC_use h
    have en : xcn m = m := by unfold xcn; rw [if_neg hm]
    have eg : xcg m cd = cd := by unfold xcg; rw [if_neg hm]
    rw [en] at h2 h3
    rw [eg, ← e2] at h3
    obtain ⟨v, hv⟩ := xev_one (th := s 134) h3 h2.1
    obtain ⟨arr, a1, a2⟩ := ruled_loop (k := fun (l1_36 : Int) (l2_37 : Int) (s38 : xW) => xjn (fun (t39 : Int) => some (t39, s38)) fun j40 => if (xw (s38 121 23)) = 0 then j40 ((2 * (s38 134 0)) - (Int.tdiv (xw (s38 134 1)) 2)) else j40 (s38 133 0)) h2.2 e1 h3.1 m.toNat 0 (s 133) xN (by omega) (by have := xN_ge; omega) trivial
    refine ⟨arr, ?_⟩
    rw [xrow_i] at a2
    refine a2.trans ?_
    rw [hv] at a1
    have a3 : arr 0 = v := a1.1
    simp only [xjn]
    rw [xrow_o (by decide), e1, xw_sm (by omega) (by omega), if_neg hm, xrow_s, a3]
    unfold xrv
    rw [en, eg, ← e2, hv]
    rfl
theorem xev_congr {n : Int} {g th th' : Int → Int} (hw : xwf n g) (h : ∀ j, 0 ≤ j → j < 7 → th j = th' j) : ∀ k : Nat, (k : Int) ≤ n → xev g th k = xev g th' k
  | 0, _ => rfl
  | k + 1, hk => by
    unfold xev
    rw [xev_congr hw h k (by omega)]
    have h1 := hw k (by omega)
    unfold xst1
    by_cases q1 : g k < 1000
    · rw [if_pos q1, if_pos q1]
    · rw [if_neg q1, if_neg q1]
      by_cases q2 : g k < 2000
      · rw [if_pos q2, if_pos q2, h _ (by omega) (by omega)]
      · rw [if_neg q2, if_neg q2]
theorem xrv_congr {m n : Int} {f cd th th' : Int → Int} (hX : XRC n f m cd) (h : ∀ j, 0 ≤ j → j < 7 → th j = th' j) : xrv m cd th = xrv m cd th' := by
  obtain ⟨h1, h2, h3, h4⟩ := XRC_use hX
  unfold xrv
  rw [xev_congr h3.1 h _ (by omega)]
theorem xdl_congr {m n : Int} {f cd th th' : Int → Int} (hX : XRC n f m cd) (h : ∀ j, 0 ≤ j → j < 7 → th j = th' j) : xdl m cd th = xdl m cd th' := by
  unfold xdl
  rw [xrv_congr hX h]
def xth (f w d x y n e : Int) : Int → Int := fun i => if i = 0 then f else if i = 1 then w else if i = 2 then d else if i = 3 then x else if i = 4 then y else if i = 5 then n else e
/-- how far two PLACES are -/
def xfa (a b : Int) : Int := xab (a / 10 - b / 10) + xab (a % 10 - b % 10)
theorem xfa_r {a b : Int} (ha : 0 ≤ a ∧ a ≤ 99) (hb : 0 ≤ b ∧ b ≤ 99) : 0 ≤ xfa a b ∧ xfa a b ≤ 18 := by
  unfold xfa xab
  repeat' split
  all_goals omega
theorem far_c {a b : Int} {s : xW} (ha : 0 ≤ a ∧ a ≤ 99) (hb : 0 ≤ b ∧ b ≤ 99) : F_X10_far a b s = some (xfa a b) := by
  unfold F_X10_far xfa
  rw [xw_sm (x := a) (by omega) (by omega), xw_sm (x := b) (by omega) (by omega), Int.tdiv_eq_ediv_of_nonneg ha.1, Int.tdiv_eq_ediv_of_nonneg hb.1, Int.tmod_eq_emod_of_nonneg ha.1, Int.tmod_eq_emod_of_nonneg hb.1, xw_sm (by omega) (by omega), xw_sm (by omega) (by omega)]
theorem far_m {x y u v : Int} {s : xW} (hx : 0 ≤ x ∧ x ≤ 9) (hy : 0 ≤ y ∧ y ≤ 9) (hu : 0 ≤ u ∧ u ≤ 9) (hv : 0 ≤ v ∧ v ≤ 9) : F_X11_far x y u v s = some (xfa (10 * x + y) (10 * u + v)) := by
  unfold F_X11_far xfa
  rw [xw_sm (by omega) (by omega), xw_sm (by omega) (by omega), show (10 * x + y) / 10 = x by omega, show (10 * u + v) / 10 = u by omega, show (10 * x + y) % 10 = y by omega, show (10 * u + v) % 10 = v by omega]
theorem minute_c {r m far pl e : Int} {cd : Int → Int} {s : xW} (hr : r = 9 ∨ r = 13) (h : XRC (s r 1) (s (r + 1)) m cd) (hp : 0 ≤ pl ∧ pl ≤ 99) : ∃ arr, F_X0_minute r far pl e s = some (s 90 2 + xdl m cd (xth far (s 90 1) (s 90 2) (pl / 10) (pl % 10) (s 90 5) e), xrow (xu (xu (xu (xu s 90 0 far) 90 3 (pl / 10)) 90 4 (pl % 10)) 90 6 e) (r + 2) arr) := by
  have hX : XRC ((xu (xu (xu (xu s 90 0 far) 90 3 (pl / 10)) 90 4 (pl % 10)) 90 6 e) r 1) ((xu (xu (xu (xu s 90 0 far) 90 3 (pl / 10)) 90 4 (pl % 10)) 90 6 e) (r + 1)) m cd := by
    rw [xu_row _ _ _ (by omega), xu_row _ _ _ (by omega), xu_row _ _ _ (by omega), xu_row _ _ _ (by omega), xu_row _ _ _ (by omega), xu_row _ _ _ (by omega), xu_row _ _ _ (by omega), xu_row _ _ _ (by omega)]
    exact h
  obtain ⟨arr, ha⟩ := delay_c hr hX
  refine ⟨arr, ?_⟩
  simp only [F_X0_minute, xbd, xbp, xls, xli, xlt, xjn]
  rw [xgd_t (by rcases hr with rfl | rfl <;> decide), xw_sm (by omega) (by omega), Int.tdiv_eq_ediv_of_nonneg hp.1, Int.tmod_eq_emod_of_nonneg hp.1, ha]
  simp only []
  rw [xdl_congr (th' := xth far (s 90 1) (s 90 2) (pl / 10) (pl % 10) (s 90 5) e) hX (fun j j1 j2 => by
    rcases (by omega : j = 0 ∨ j = 1 ∨ j = 2 ∨ j = 3 ∨ j = 4 ∨ j = 5 ∨ j = 6) with rfl | rfl | rfl | rfl | rfl | rfl | rfl <;> simp [xu, xth])]
  simp [xu]
/-- the minute on which a HOUSE hears the gun: m, cd the rule; w, d the weather; n the day; gun's place, the house's place -/
def xhm (m : Int) (cd : Int → Int) (w d n gun pl : Int) : Int := d + xdl m cd (xth (xfa gun pl) w d (pl / 10) (pl % 10) (n % 7) 0)
theorem xhm_r {m : Int} {cd : Int → Int} {w d n gun pl : Int} (hd : 0 ≤ d ∧ d ≤ 9) : 0 ≤ xhm m cd w d n gun pl ∧ xhm m cd w d n gun pl ≤ 108 := by
  have := xdl_r m cd (xth (xfa gun pl) w d (pl / 10) (pl % 10) (n % 7) 0)
  unfold xhm
  omega
theorem plan_loop {r m w d n gun nh : Int} {cd : Int → Int} {s0 : xW} {k : Int → xW → Option xW} (hr : r = 9 ∨ r = 13) (hX : XRC (s0 r 1) (s0 (r + 1)) m cd) (hnh : nh ≤ 8) (e0 : s0 0 14 = nh) (hp : ∀ h, 0 ≤ h → h < 8 → 0 ≤ s0 18 h ∧ s0 18 h ≤ 99) (hg : 0 ≤ gun ∧ gun ≤ 99) :
    ∀ (j i : Nat) (s : xW) (f : Nat), (i : Int) + j = nh → j < f → (∀ c, c ≠ 90 → c ≠ 91 → c ≠ r + 2 → s c = s0 c) → s 90 1 = w → s 90 2 = d → s 90 5 = n % 7 → (∀ h : Int, 0 ≤ h → h < i → s 91 h = xhm m cd w d n gun (s0 18 h)) →
    ∃ s', F_X10_planFor_27 r gun f i s k = k nh s' ∧ (∀ c, c ≠ 90 → c ≠ 91 → c ≠ r + 2 → s' c = s0 c) ∧ (∀ h, 0 ≤ h → h < nh → s' 91 h = xhm m cd w d n gun (s0 18 h)) := by
  intro j
  induction j with
  | zero =>
    intro i s f hi hf hc q1 q2 q3 q4
    obtain ⟨f, rfl⟩ : ∃ f', f = f' + 1 := ⟨f - 1, by omega⟩
    refine ⟨s, ?_, hc, fun h a b => q4 h a (by omega)⟩
    unfold F_X10_planFor_27
    rw [hc 0 (by omega) (by omega) (by omega), e0, xw_sm (by omega) (by omega), xw_sm (by omega) (by omega), if_neg (by omega), show nh = (i : Int) by omega]
  | succ j ih =>
    intro i s f hi hf hc q1 q2 q3 q4
    obtain ⟨f, rfl⟩ : ∃ f', f = f' + 1 := ⟨f - 1, by omega⟩
    have hX' : XRC (s r 1) (s (r + 1)) m cd := by rw [hc r (by omega) (by omega) (by omega), hc (r + 1) (by omega) (by omega) (by omega)]; exact hX
    obtain ⟨arr, ha⟩ := minute_c (far := xfa gun (s0 18 i)) (pl := s0 18 i) (e := 0) hr hX' (hp i (by omega) (by omega))
    unfold F_X10_planFor_27
    simp only [xbd, xbp, xls, xli, xlt, xjn]
    rw [hc 0 (by omega) (by omega) (by omega), e0, xw_sm (by omega) (by omega), xw_sm (by omega) (by omega), if_pos (by omega), xgd_t (by omega), hc 18 (by omega) (by omega) (by omega), far_c hg (hp i (by omega) (by omega))]
    simp only []
    rw [ha]
    simp only []
    rw [xgd_t (by omega), show ((i : Int) + 1) = ((i + 1 : Nat) : Int) by omega]
    refine ih (i + 1) _ f (by omega) (by omega) ?_ ?_ ?_ ?_ ?_
    · intro c c1 c2 c3
      rw [xu_row _ _ _ c2, xrow_o c3, xu_row _ _ _ c1, xu_row _ _ _ c1, xu_row _ _ _ c1, xu_row _ _ _ c1]
      exact hc c c1 c2 c3
    · rw [xu_row _ _ _ (by decide), xrow_o (by omega)]
      simp [xu]
      exact q1
    · rw [xu_row _ _ _ (by decide), xrow_o (by omega)]
      simp [xu]
      exact q2
    · rw [xu_row _ _ _ (by decide), xrow_o (by omega)]
      simp [xu]
      exact q3
    · intro h h1 h2
      by_cases hh : h = i
      · rw [hh, xu_same, q1, q2, q3]
        rfl
      · rw [xu_slot _ _ _ hh, xrow_o (by omega), xu_row _ _ _ (by decide), xu_row _ _ _ (by decide), xu_row _ _ _ (by decide), xu_row _ _ _ (by decide)]
        exact q4 h h1 (by omega)
theorem begin_loop {nd : Int} {s0 : xW} {k : Int → xW → Option xW} (hnd : nd ≤ 8) (e0 : s0 92 0 = nd) (hh : ∀ d, 0 ≤ d → d < nd → 0 ≤ s0 93 d ∧ s0 93 d < 8) :
    ∀ (j i : Nat) (s : xW) (f : Nat), (i : Int) + j = nd → j < f → (∀ c, c ≠ 95 → c ≠ 96 → s c = s0 c) → (∀ d : Int, 0 ≤ d → d < i → s 95 d = s0 91 (s0 93 d) ∧ s 96 d = s0 91 (s0 93 d) + s0 20 d) →
    ∃ s', F_X4_begin_2 f i s k = k nd s' ∧ (∀ c, c ≠ 95 → c ≠ 96 → s' c = s0 c) ∧ (∀ d, 0 ≤ d → d < nd → s' 95 d = s0 91 (s0 93 d) ∧ s' 96 d = s0 91 (s0 93 d) + s0 20 d) := by
  intro j
  induction j with
  | zero =>
    intro i s f hi hf hc q
    obtain ⟨f, rfl⟩ : ∃ f', f = f' + 1 := ⟨f - 1, by omega⟩
    refine ⟨s, ?_, hc, fun h a b => q h a (by omega)⟩
    unfold F_X4_begin_2
    rw [hc 92 (by omega) (by omega), e0, xw_sm (by omega) (by omega), xw_sm (by omega) (by omega), if_neg (by omega), show nd = (i : Int) by omega]
  | succ j ih =>
    intro i s f hi hf hc q
    obtain ⟨f, rfl⟩ : ∃ f', f = f' + 1 := ⟨f - 1, by omega⟩
    unfold F_X4_begin_2
    simp only [xbd, xbp, xls, xli, xlt, xjn]
    have h1 := hh i (by omega) (by omega)
    rw [hc 92 (by omega) (by omega), e0, xw_sm (by omega) (by omega), xw_sm (by omega) (by omega), if_pos (by omega), xgd_t (by omega), hc 93 (by omega) (by omega), xgd_t (by omega), xgd_t (by omega), xgd_t (by omega), xgd_t (by omega), xgd_t (by omega), show ((i : Int) + 1) = ((i + 1 : Nat) : Int) by omega, xu_same, xu_row _ _ _ (show (20 : Int) ≠ 95 by decide), hc 91 (by omega) (by omega), hc 20 (by omega) (by omega)]
    refine ih (i + 1) _ f (by omega) (by omega) ?_ ?_
    · intro c c1 c2
      rw [xu_row _ _ _ c2, xu_row _ _ _ c1]
      exact hc c c1 c2
    · intro d h1 h2
      by_cases hd : d = i
      · rw [hd, xu_row _ _ _ (show (95 : Int) ≠ 96 by decide), xu_same, xu_same]
        exact ⟨rfl, rfl⟩
      · rw [xu_row _ _ _ (show (95 : Int) ≠ 96 by decide), xu_slot _ _ _ hd, xu_slot _ _ _ hd, xu_row _ _ _ (show (96 : Int) ≠ 95 by decide)]
        exact q d h1 (by omega)
/-- what a plan is made of, in the class's world: m, cd the rule; gun's place, day -/
theorem planFor_c {r m gun day : Int} {cd : Int → Int} {s : xW} (hr : r = 9 ∨ r = 13) (hX : XRC (s r 1) (s (r + 1)) m cd) (hw : 1 ≤ s 5 1 ∧ s 5 1 ≤ 20) (hd : 1 ≤ s 7 1 ∧ s 7 1 ≤ 20) (hnh : 0 ≤ s 0 14 ∧ s 0 14 ≤ 8) (hnd : 0 ≤ s 92 0 ∧ s 92 0 ≤ 8) (hh : ∀ d, 0 ≤ d → d < s 92 0 → 0 ≤ s 93 d ∧ s 93 d < s 0 14) (hp : ∀ h, 0 ≤ h → h < 8 → 0 ≤ s 18 h ∧ s 18 h ≤ 99) (hg : 0 ≤ gun ∧ gun ≤ 99) (hday : 0 ≤ day ∧ day ≤ 2000000) :
    ∃ s', F_X10_planFor r gun day s = some s' ∧ (∀ c, c ≠ 90 → c ≠ 91 → c ≠ r + 2 → c ≠ 95 → c ≠ 96 → s' c = s c) ∧ (∀ h, 0 ≤ h → h < s 0 14 → s' 91 h = xhm m cd (xday (s 5 1) (s 6) day) (xday (s 7 1) (s 8) day) day gun (s 18 h)) ∧ (∀ d, 0 ≤ d → d < s 92 0 → s' 95 d = xhm m cd (xday (s 5 1) (s 6) day) (xday (s 7 1) (s 8) day) day gun (s 18 (s 93 d)) ∧ s' 96 d = s' 95 d + s 20 d) := by
  unfold F_X10_planFor
  rw [xgd_t (by rcases hr with rfl | rfl <;> decide), of_c (Or.inr rfl) hd hday, of_c (Or.inl rfl) hw hday]
  simp only [xbp_s, xbd_s, xls, xli, xlt, xjn, F_X0_on]
  rw [xw_sm (by omega) (by omega), Int.tmod_eq_emod_of_nonneg hday.1]
  generalize hs6 : xu (xu (xu s 90 1 (xday (s 5 1) (s (5 + 1)) day)) 90 2 (xday (s 7 1) (s (7 + 1)) day)) 90 5 (day % 7) = s6
  have hs6' : ∀ c, c ≠ 90 → s6 c = s c := fun c hc => by rw [← hs6, xu_row _ _ _ hc, xu_row _ _ _ hc, xu_row _ _ _ hc]
  obtain ⟨s1, e1, e2, e3⟩ := plan_loop (m := m) (cd := cd) (r := r) (gun := gun) (w := xday (s 5 1) (s 6) day) (d := xday (s 7 1) (s 8) day) (n := day) (nh := s 0 14) (s0 := s6) (k := fun (l4_24 : Int) (s25 : xW) => xbp (F_X4_begin s25) fun s27 => some s27) hr (by rw [hs6' r (by omega), hs6' (r + 1) (by omega)]; exact hX) hnh.2 (by rw [hs6' 0 (by decide)]) (by rw [hs6' 18 (by decide)]; exact hp) hg (s 0 14).toNat 0 s6 xN (by omega) (by have := xN_ge; omega) (fun c _ _ _ => rfl) (by rw [← hs6]; simp [xu]) (by rw [← hs6]; simp [xu]) (by rw [← hs6]; simp [xu]) (fun h a b => by omega)
  obtain ⟨s2, g1, g2, g3⟩ := begin_loop (nd := s 92 0) (s0 := s1) (k := fun (l3_16 : Int) (s17 : xW) => some s17) hnd.2 (by rw [e2 92 (by decide) (by decide) (by omega), hs6' 92 (by decide)]) (by rw [e2 93 (by decide) (by decide) (by omega), hs6' 93 (by decide)]; intro d a b; have := hh d a b; omega) (s 92 0).toNat 0 s1 xN (by omega) (by have := xN_ge; omega) (fun c _ _ => rfl) (fun h a b => by omega)
  refine ⟨s2, ?_, ?_, ?_, ?_⟩
  · refine Eq.trans e1 ?_
    unfold F_X4_begin
    have g1' : F_X4_begin_2 xN 0 s1 (fun (l3_16 : Int) (s17 : xW) => some s17) = some s2 := g1
    rw [g1']
    rfl
  · intro c c1 c2 c3 c4 c5
    rw [g2 c c4 c5, e2 c c1 c2 c3, hs6' c c1]
  · intro h a b
    rw [g2 91 (by decide) (by decide), e3 h a b, hs6' 18 (by decide)]
  · intro d a b
    have hd := hh d a b
    have g3' := g3 d a b
    rw [e2 93 (by decide) (by decide) (by omega), hs6' 93 (by decide), e2 20 (by decide) (by decide) (by omega), hs6' 20 (by decide), e3 _ hd.1 hd.2, hs6' 18 (by decide)] at g3'
    rw [g3'.1, g3'.2]
    exact ⟨rfl, rfl⟩
