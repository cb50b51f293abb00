/-! what the class's methods leave alone: all cells from 121 on; what the reference's: all below it, and 154 -/
def xkHi (σ τ : xW) : Prop := ∀ c, 121 ≤ c → τ c = σ c
def xkLo (σ τ : xW) : Prop := ∀ c, (c < 121 ∨ c = 154) → τ c = σ c
theorem xfm_hi {W : List (Int × Int)} {σ τ : xW} (h : xfm W σ τ) (hw : W.all (fun q => decide (q.1 < 121)) = true) : xkHi σ τ := by
  intro c hc
  have no : ∀ k, (c, k) ∉ W := fun k hk => by
    have := List.all_eq_true.mp hw _ hk
    simp at this
    omega
  funext k
  exact h c k (no k) (no (-1))
theorem xfm_lo {W : List (Int × Int)} {σ τ : xW} (h : xfm W σ τ) (hw : W.all (fun q => decide (121 ≤ q.1 ∧ q.1 < 154)) = true) : xkLo σ τ := by
  intro c hc
  have no : ∀ k, (c, k) ∉ W := fun k hk => by
    have := List.all_eq_true.mp hw _ hk
    simp at this
    omega
  funext k
  exact h c k (no k) (no (-1))
theorem xkHi.rf {σ : xW} : xkHi σ σ := fun _ _ => rfl
theorem xkHi.tr {σ τ υ : xW} (h : xkHi σ τ) (g : xkHi τ υ) : xkHi σ υ := fun c hc => (g c hc).trans (h c hc)
theorem xkHi.u {σ τ : xW} {a k v : Int} (h : xkHi σ τ) (ha : a < 121) : xkHi σ (xu τ a k v) := fun c hc => (xu_row τ k v (by omega)).trans (h c hc)
theorem xkLo.rf {σ : xW} : xkLo σ σ := fun _ _ => rfl
theorem xkLo.tr {σ τ υ : xW} (h : xkLo σ τ) (g : xkLo τ υ) : xkLo σ υ := fun c hc => (g c hc).trans (h c hc)
theorem xkLo.u {σ τ : xW} {a k v : Int} (h : xkLo σ τ) (ha : 121 ≤ a ∧ a < 154) : xkLo σ (xu τ a k v) := fun c hc => (xu_row τ k v (by omega)).trans (h c hc)
theorem town_le : ∀ z ∈ xTowns, z ≤ 117 := by decide +kernel
theorem copy_hi {a b : Int} {s q : xW} (h : F_X9_copy a b s = some q) : xkHi s q := by
  have hf := fr_X9_copy h
  unfold F_X9_copy at h
  have ha := town_le _ (xgd_e h).1
  have no : ∀ c, 121 ≤ c → ∀ k, (c, k) ∉ W_X9_copy a := by
    intro c hc k hm
    simp [W_X9_copy] at hm
    omega
  intro c hc
  funext k
  exact hf c k (no c hc k) (no c hc (-1))
theorem note_hi {s q : xW} (h : F_X3_note s = some q) : xkHi s q := by
  unfold F_X3_note at h
  obtain ⟨-, h⟩ := xgd_e h
  obtain ⟨-, h⟩ := xgd_e h
  obtain ⟨s4, e, h⟩ := xbp_e h
  cases h
  exact copy_hi e
theorem hi_X10_buys {a : Int} {s : xW} {q : Int × xW} (h : F_X10_buys a s = some q) : xkHi s q.2 := by
  unfold F_X10_buys at h
  obtain ⟨s2, e1, h⟩ := xbp_e h
  obtain ⟨r4, s5, e2, h⟩ := xbd_e h
  obtain ⟨r7, s8, e3, h⟩ := xbd_e h
  cases h
  exact ((note_hi e1).tr (xfm_hi (fr_X10_buy e2) (by decide +kernel))).tr (xfm_hi (fr_X10_noted e3) (by decide +kernel))
theorem hi_X10_days {a : Int} {s : xW} {q : Int × xW} (h : F_X10_days a s = some q) : xkHi s q.2 := by
  unfold F_X10_days at h
  obtain ⟨s2, e1, h⟩ := xbp_e h
  obtain ⟨r4, s5, e2, h⟩ := xbd_e h
  obtain ⟨r7, s8, e3, h⟩ := xbd_e h
  cases h
  exact ((note_hi e1).tr (xfm_hi (fr_X10_passDays e2) (by decide +kernel))).tr (xfm_hi (fr_X10_noted e3) (by decide +kernel))
theorem hi_X10_hill {a b : Int} {s : xW} {q : Int × xW} (h : F_X10_hill a b s = some q) : xkHi s q.2 := by
  unfold F_X10_hill at h
  obtain ⟨s2, e1, h⟩ := xbp_e h
  obtain ⟨r4, s5, e2, h⟩ := xbd_e h
  obtain ⟨r7, s8, e3, h⟩ := xbd_e h
  cases h
  exact ((note_hi e1).tr (xfm_hi (fr_X10_setHill e2) (by decide +kernel))).tr (xfm_hi (fr_X10_noted e3) (by decide +kernel))
theorem hi_X10_hauls {a b : Int} {s : xW} {q : Int × xW} (h : F_X10_hauls a b s = some q) : xkHi s q.2 := by
  unfold F_X10_hauls at h
  obtain ⟨s2, e1, h⟩ := xbp_e h
  obtain ⟨r4, s5, e2, h⟩ := xbd_e h
  obtain ⟨r7, s8, e3, h⟩ := xbd_e h
  cases h
  exact ((note_hi e1).tr (xfm_hi (fr_X10_haul e2) (by decide +kernel))).tr (xfm_hi (fr_X10_noted e3) (by decide +kernel))
theorem hi_X10_moves {a b c : Int} {s : xW} {q : Int × xW} (h : F_X10_moves a b c s = some q) : xkHi s q.2 := by
  unfold F_X10_moves at h
  obtain ⟨s2, e1, h⟩ := xbp_e h
  obtain ⟨r4, s5, e2, h⟩ := xbd_e h
  obtain ⟨r7, s8, e3, h⟩ := xbd_e h
  cases h
  exact ((note_hi e1).tr (xfm_hi (fr_X10_move e2) (by decide +kernel))).tr (xfm_hi (fr_X10_noted e3) (by decide +kernel))
theorem hi_X10_takes {a b : Int} {s : xW} {q : Int × xW} (h : F_X10_takes a b s = some q) : xkHi s q.2 := by
  unfold F_X10_takes at h
  obtain ⟨s2, e1, h⟩ := xbp_e h
  obtain ⟨r4, s5, e2, h⟩ := xbd_e h
  obtain ⟨r7, s8, e3, h⟩ := xbd_e h
  cases h
  exact ((note_hi e1).tr (xfm_hi (fr_X10_lengthen e2) (by decide +kernel))).tr (xfm_hi (fr_X10_noted e3) (by decide +kernel))
theorem hi_X10_keep {a : Int} {s : xW} {q : Int × xW} (h : F_X10_keep a s = some q) : xkHi s q.2 := by
  unfold F_X10_keep at h
  obtain ⟨j1, ej, h⟩ := xjn_e h
  have hj : j1 = some q → xkHi s q.2 := by
    intro h
    rw [ej] at h
    cases h
    exact xkHi.rf
  rcases xif_o h with h | h
  · rcases xif_o h with h | h
    · exact hj h
    · obtain ⟨-, h⟩ := xgd_e h
      obtain ⟨-, h⟩ := xgd_e h
      obtain ⟨s9, e, h⟩ := xbp_e h
      obtain ⟨-, h⟩ := xgd_e h
      obtain ⟨s11, e2, h⟩ := xlt_e h
      cases h
      subst e2
      exact (copy_hi e).u (by decide)
  · exact hj h
theorem rule_99 {z : Int} (h : z ∈ xRules) : z = 9 ∨ z = 13 := by
  have : ∀ z ∈ xRules, z = 9 ∨ z = 13 := by decide +kernel
  exact this z h
theorem read_hi {a : Int} {s : xW} {q : Int × xW} (ha : a ∈ xRules) (h : F_X7_read a s = some q) : xkHi s q.2 := by
  have hf := fr_X7_read h
  rcases rule_99 ha with rfl | rfl <;> exact xfm_hi hf (by decide +kernel)
theorem hi_X10_rule {s : xW} {q : Int × xW} (h : F_X10_rule s = some q) : xkHi s q.2 := by
  unfold F_X10_rule at h
  obtain ⟨ha, h⟩ := xgd_e h
  obtain ⟨r3, s4, e1, h⟩ := xbd_e h
  have h1 : xkHi s s4 := read_hi ha e1
  obtain ⟨j6, ej, h⟩ := xjn_e h
  have hj : ∀ s5, xkHi s s5 → j6 s5 = some q → xkHi s q.2 := by
    intro s5 h5 h
    rw [ej] at h
    obtain ⟨s10, e, h⟩ := xbp_e h
    cases h
    exact h5.tr (xfm_hi (fr_X8_clear e) (by decide +kernel))
  rcases xif_o h with h | h
  · obtain ⟨-, h⟩ := xgd_e h
    obtain ⟨-, h⟩ := xgd_e h
    obtain ⟨s14, e2, h⟩ := xlt_e h
    obtain ⟨s16, e3, h⟩ := xlt_e h
    subst e2
    subst e3
    exact hj _ ((h1.u (by decide)).u (by decide)) h
  · exact hj _ h1 h
theorem hi_law86 {a b : Int} {s0 : xW} {q : Int × xW} {k : Int → xW → Option (Int × xW)} (hk : ∀ x s, xkHi s0 s → k x s = some q → xkHi s0 q.2) : ∀ (f : Nat) (l : Int) (s : xW), xkHi s0 s → F_X10_law_86 a b f l s k = some q → xkHi s0 q.2
  | 0, l, s, hs, h => by unfold F_X10_law_86 at h; cases h
  | f + 1, l, s, hs, h => by
    unfold F_X10_law_86 at h
    rcases xif_o h with h | h
    · obtain ⟨-, h⟩ := xgd_e h
      obtain ⟨s25, e, h⟩ := xbp_e h
      exact hi_law86 hk f _ s25 (hs.tr (xfm_hi (fr_X6_add e) (by decide +kernel))) h
    · exact hk _ _ hs h
theorem hi_X10_law {s : xW} {q : Int × xW} (h : F_X10_law s = some q) : xkHi s q.2 := by
  unfold F_X10_law at h
  obtain ⟨ha, h⟩ := xgd_e h
  obtain ⟨r3, s4, e1, h⟩ := xbd_e h
  have h1 : xkHi s s4 := read_hi ha e1
  obtain ⟨s6, e2, h⟩ := xbp_e h
  have h2 := h1.tr (xfm_hi (fr_X8_clear e2) (by decide +kernel))
  rcases xif_o h with h | h
  · cases h
    exact h2
  · obtain ⟨r9, s10, e3, h⟩ := xbd_e h
    obtain ⟨-, h⟩ := xgd_e h
    obtain ⟨s13, e4, h⟩ := xbp_e h
    obtain ⟨r15, e5, h⟩ := xbp_e h
    obtain ⟨s17, e6, h⟩ := xbp_e h
    refine hi_law86 (fun x s5 h5 h => ?_) _ _ s17 (((h2.tr (xfm_hi (fr_X10_pairsOn e3) (by decide +kernel))).tr (xfm_hi (fr_X10_planFor e4) (by decide +kernel))).tr (xfm_hi (fr_X6_tell_ e6) (by decide +kernel))) h
    cases h
    exact h5
theorem hi_week39 {s0 : xW} {q : Int × xW} {k : Int → Int → Int → xW → Option (Int × xW)} (hk : ∀ x y z s, xkHi s0 s → k x y z s = some q → xkHi s0 q.2) : ∀ (f : Nat) (a b c : Int) (s : xW), xkHi s0 s → F_X10_week_39 f a b c s k = some q → xkHi s0 q.2
  | 0, a, b, c, s, hs, h => by unfold F_X10_week_39 at h; cases h
  | f + 1, a, b, c, s, hs, h => by
    unfold F_X10_week_39 at h
    rcases xif_o h with h | h
    · rcases xif_o h with h | h
      · obtain ⟨r13, s14, e, h⟩ := xbd_e h
        obtain ⟨v16, -, h⟩ := xlt_e h
        obtain ⟨v20, -, h⟩ := xlt_e h
        obtain ⟨r24, -, h⟩ := xbp_e h
        obtain ⟨r26, -, h⟩ := xbp_e h
        exact hi_week39 hk f _ _ _ s14 (hs.tr (xfm_hi (fr_X10_doAct e) (by decide +kernel))) h
      · exact hk _ _ _ _ hs h
    · exact hk _ _ _ _ hs h
theorem hi_X10_week {s : xW} {q : Int × xW} (h : F_X10_week s = some q) : xkHi s q.2 := by
  unfold F_X10_week at h
  obtain ⟨r2, -, h⟩ := xbp_e h
  rcases xif_o h with h | h
  · obtain ⟨s51, e, h⟩ := xbp_e h
    cases h
    exact xfm_hi (fr_X8_clear e) (by decide +kernel)
  · obtain ⟨s5, e1, h⟩ := xbp_e h
    refine hi_week39 (fun x y z s34 h34 h => ?_) _ _ _ _ s5 (note_hi e1) h
    obtain ⟨j36, ej, h⟩ := xjn_e h
    have hj : ∀ s5, xkHi s s5 → j36 s5 = some q → xkHi s q.2 := by
      intro s5 h5 h
      rw [ej] at h
      obtain ⟨s40, e, h⟩ := xbp_e h
      obtain ⟨v42, -, h⟩ := xlt_e h
      obtain ⟨s46, e6, h⟩ := xbp_e h
      cases h
      exact (h5.tr (xfm_hi (fr_X8_clear e) (by decide +kernel))).tr (xfm_hi (fr_X6_tell_ e6) (by decide +kernel))
    rcases xif_o h with h | h
    · obtain ⟨s49, e, h⟩ := xbp_e h
      exact hj _ (h34.tr (xfm_hi (fr_X3_add e) (by decide +kernel))) h
    · exact hj _ h34 h
theorem hi_years37 {a2 : Int} {s0 : xW} {q : Int × xW} {k : Int → Int → Int → xW → Option (Int × xW)} (hk : ∀ x y z s, xkHi s0 s → k x y z s = some q → xkHi s0 q.2) : ∀ (f : Nat) (a b c : Int) (s : xW), xkHi s0 s → F_X10_years_37 a2 f a b c s k = some q → xkHi s0 q.2
  | 0, a, b, c, s, hs, h => by unfold F_X10_years_37 at h; cases h
  | f + 1, a, b, c, s, hs, h => by
    unfold F_X10_years_37 at h
    rcases xif_o h with h | h
    · obtain ⟨r17, s18, e1, h⟩ := xbd_e h
      have h18 := hs.tr (xfm_hi (fr_X10_draw e1) (by decide +kernel))
      obtain ⟨j22, ej, h⟩ := xjn_e h
      have hj : ∀ x y s5, xkHi s0 s5 → j22 x y s5 = some q → xkHi s0 q.2 := by
        intro x y s5 h5 h
        rw [ej] at h
        exact hi_years37 hk f _ _ _ s5 h5 h
      rcases xif_o h with h | h
      · obtain ⟨r50, s51, e, h⟩ := xbd_e h
        obtain ⟨v53, -, h⟩ := xlt_e h
        exact hj _ _ _ (h18.tr (xfm_hi (fr_X10_passDay e) (by decide +kernel))) h
      · rcases xif_o h with h | h
        · obtain ⟨r41, s42, e2, h⟩ := xbd_e h
          obtain ⟨r44, s45, e3, h⟩ := xbd_e h
          obtain ⟨r47, s48, e4, h⟩ := xbd_e h
          exact hj _ _ _ (((h18.tr (xfm_hi (fr_X10_draw e2) (by decide +kernel))).tr (xfm_hi (fr_X10_draw e3) (by decide +kernel))).tr (xfm_hi (fr_X10_haul e4) (by decide +kernel))) h
        · rcases xif_o h with h | h
          · obtain ⟨r29, s30, e2, h⟩ := xbd_e h
            obtain ⟨r32, s33, e3, h⟩ := xbd_e h
            obtain ⟨r35, s36, e4, h⟩ := xbd_e h
            obtain ⟨r38, s39, e5, h⟩ := xbd_e h
            exact hj _ _ _ ((((h18.tr (xfm_hi (fr_X10_draw e2) (by decide +kernel))).tr (xfm_hi (fr_X10_draw e3) (by decide +kernel))).tr (xfm_hi (fr_X10_draw e4) (by decide +kernel))).tr (xfm_hi (fr_X10_move e5) (by decide +kernel))) h
          · exact hj _ _ _ h18 h
    · exact hk _ _ _ _ hs h
theorem hi_X10_years {a b : Int} {s : xW} {q : Int × xW} (h : F_X10_years a b s = some q) : xkHi s q.2 := by
  unfold F_X10_years at h
  obtain ⟨j1, ej, h⟩ := xjn_e h
  have hj : j1 = some q → xkHi s q.2 := by
    intro h
    rw [ej] at h
    cases h
    exact xkHi.rf
  rcases xif_o h with h | h
  · rcases xif_o h with h | h
    · exact hj h
    · obtain ⟨s7, e1, h⟩ := xbp_e h
      obtain ⟨s8, e2, h⟩ := xlt_e h
      subst e2
      refine hi_years37 (fun x y z s63 h63 h => ?_) _ _ _ _ _ ((note_hi e1).u (by decide)) h
      obtain ⟨s65, e3, h⟩ := xbp_e h
      obtain ⟨s67, e4, h⟩ := xbp_e h
      cases h
      refine (h63.tr (xfm_hi (fr_X6_tell_ e3) (by decide +kernel))).tr (xfm_hi (fr_X3_takeBack e4) (by decide +kernel))
  · exact hj h
theorem lo_X11_rule {s : xW} {q : Int × xW} (h : F_X11_rule s = some q) : xkLo s q.2 := by
  unfold F_X11_rule at h
  obtain ⟨s1, e0, h⟩ := xlt_e h
  subst e0
  obtain ⟨r4, s5, e1, h⟩ := xbd_e h
  have h5 : xkLo s s5 := (xkLo.rf.u (by decide)).tr (xfm_lo (fr_rr e1) (by decide +kernel))
  obtain ⟨j7, ej, h⟩ := xjn_e h
  have hj : ∀ s6, xkLo s s6 → j7 s6 = some q → xkLo s q.2 := by
    intro s6 h6 h
    rw [ej] at h
    cases h
    exact h6
  rcases xif_o h with h | h
  · obtain ⟨s12, e2, h⟩ := xbp_e h
    exact hj _ (h5.tr (xfm_lo (fr_X11_laysCode e2) (by decide +kernel))) h
  · exact hj _ h5 h
theorem lo_law39 {a b : Int} {s0 : xW} {q : Int × xW} {k : Int → xW → Option (Int × xW)} (hk : ∀ x s, xkLo s0 s → k x s = some q → xkLo s0 q.2) : ∀ (f : Nat) (l : Int) (s : xW), xkLo s0 s → F_X11_law_39 a b f l s k = some q → xkLo s0 q.2
  | 0, l, s, hs, h => by unfold F_X11_law_39 at h; cases h
  | f + 1, l, s, hs, h => by
    unfold F_X11_law_39 at h
    rcases xif_o h with h | h
    · obtain ⟨-, h⟩ := xgd_e h
      obtain ⟨-, h⟩ := xgd_e h
      obtain ⟨s17, e, h⟩ := xlt_e h
      subst e
      exact lo_law39 hk f _ _ (hs.u (by decide)) h
    · exact hk _ _ hs h
theorem lo_law111 {a b c : Int} {s0 : xW} {q : Int × xW} {k : Int → xW → Option (Int × xW)} (hk : ∀ x s, xkLo s0 s → k x s = some q → xkLo s0 q.2) : ∀ (f : Nat) (l : Int) (s : xW), xkLo s0 s → F_X11_law_111 a b c f l s k = some q → xkLo s0 q.2
  | 0, l, s, hs, h => by unfold F_X11_law_111 at h; cases h
  | f + 1, l, s, hs, h => by
    unfold F_X11_law_111 at h
    rcases xif_o h with h | h
    · obtain ⟨r41, s42, e1, h⟩ := xbd_e h
      obtain ⟨s44, e2, h⟩ := xbp_e h
      exact lo_law111 hk f _ _ ((hs.tr (xfm_lo (fr_X11_hears e1) (by decide +kernel))).tr (xfm_lo (fr_X11_enters e2) (by decide +kernel))) h
    · exact hk _ _ hs h
theorem lo_X11_law {s : xW} {q : Int × xW} (h : F_X11_law s = some q) : xkLo s q.2 := by
  unfold F_X11_law at h
  obtain ⟨s1, e0, h⟩ := xlt_e h
  subst e0
  obtain ⟨r4, s5, e1, h⟩ := xbd_e h
  have h5 : xkLo s s5 := (xkLo.rf.u (by decide)).tr (xfm_lo (fr_rr e1) (by decide +kernel))
  rcases xif_o h with h | h
  · cases h
    exact h5
  · obtain ⟨r8, s9, e2, h⟩ := xbd_e h
    refine lo_law39 (fun x s22 h22 h => ?_) _ _ s9 (h5.tr (xfm_lo (fr_X11_clashesOn e2) (by decide +kernel))) h
    obtain ⟨s24, e3, h⟩ := xbp_e h
    obtain ⟨r26, s27, e4, h⟩ := xbd_e h
    obtain ⟨s28, e5, h⟩ := xlt_e h
    subst e5
    obtain ⟨s31, e6, h⟩ := xbp_e h
    obtain ⟨s33, e7, h⟩ := xbp_e h
    refine lo_law111 (fun y s48 h48 h => ?_) _ _ s33 ((((((h22.tr (xfm_lo (fr_X11_laysCode e3) (by decide +kernel))).tr (xfm_lo (fr_X11_clashesOn e4) (by decide +kernel))).u (by decide))).tr (xfm_lo (fr_X11_enters e6) (by decide +kernel))).tr (xfm_lo (fr_X11_enters e7) (by decide +kernel))) h
    obtain ⟨s50, e8, h⟩ := xbp_e h
    cases h
    exact h48.tr (xfm_lo (fr_X11_laysCode e8) (by decide +kernel))
