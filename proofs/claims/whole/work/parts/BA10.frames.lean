/-! frames: only what the list names may change -/
def xfm (W : List (Int × Int)) (σ τ : xW) : Prop := ∀ c k, (c, k) ∉ W → (c, -1) ∉ W → τ c k = σ c k
theorem xif_o {α : Type} {c : Prop} [Decidable c] {A B q : α} (h : (if c then A else B) = q) : A = q ∨ B = q := by
  by_cases hc : c
  · exact Or.inl (xif_t hc h)
  · exact Or.inr (xif_f hc h)
theorem xfm_rf {W : List (Int × Int)} {σ : xW} : xfm W σ σ := fun _ _ _ _ => rfl
theorem xfm_uA {W : List (Int × Int)} {σ τ υ : xW} {c k v : Int} (h : xfm W σ τ) (hm : (c, -1) ∈ W) (e : xu τ c k v = υ) : xfm W σ υ := by
  subst e
  intro c' k' h1 h2
  unfold xu
  rw [if_neg (fun z => h2 (by rw [z.1]; exact hm))]
  exact h c' k' h1 h2
theorem xfm_uO {W : List (Int × Int)} {σ τ υ : xW} {c k v : Int} (h : xfm W σ τ) (hm : (c, k) ∈ W) (e : xu τ c k v = υ) : xfm W σ υ := by
  subst e
  intro c' k' h1 h2
  unfold xu
  rw [if_neg (fun z => h1 (by rw [z.1, z.2]; exact hm))]
  exact h c' k' h1 h2
theorem xfm_cp {W : List (Int × Int)} {σ τ υ : xW} {a0 a k : Int} (h : xfm W σ τ) (hm : (a, -1) ∈ W) (e : xcp τ a0 a k = υ) : xfm W σ υ := by
  subst e
  intro c' k' h1 h2
  unfold xcp
  rw [if_neg (fun z => h2 (by rw [z.1]; exact hm))]
  exact h c' k' h1 h2
theorem xfm_fl {W : List (Int × Int)} {σ τ υ : xW} {a v : Int} {n : Nat} (h : xfm W σ τ) (hm : (a, -1) ∈ W) (e : xfl τ a n v = υ) : xfm W σ υ := by
  subst e
  intro c' k' h1 h2
  unfold xfl
  rw [if_neg (fun z => h2 (by rw [z.1]; exact hm))]
  exact h c' k' h1 h2
theorem xfm_fi {W : List (Int × Int)} {σ τ υ : xW} {a : Int} (h : xfm W σ τ) (hm : (a, -1) ∈ W) (e : xfirst τ a = υ) : xfm W σ υ := by
  subst e
  intro c' k' h1 h2
  unfold xfirst
  rw [if_neg (fun z => h2 (by rw [z.1]; exact hm))]
  exact h c' k' h1 h2
theorem xfm_c {V W : List (Int × Int)} {σ τ υ : xW} (h : xfm W σ τ) (h2 : xfm V τ υ) (hs : ∀ q ∈ V, q ∈ W) : xfm W σ υ := fun c k h3 h4 => (h2 c k (fun z => h3 (hs _ z)) (fun z => h4 (hs _ z))).trans (h c k h3 h4)
def W_X7_delay : List (Int × Int) := [(11, -1), (15, -1)]
theorem fr_X7_delay_4 {s0 : xW} {l0_1 : Int} (hm_l0_1 : l0_1 ∈ xRules) {q : Int × xW} {k : Int → Int → xW → Option (Int × xW)} (hk : ∀ (x0_ : Int) (x1_ : Int) (x2_ : xW), xfm (W_X7_delay ) s0 x2_ → k x0_ x1_ x2_ = some q → xfm (W_X7_delay ) s0 q.2) : ∀ (f : Nat) (l2_3 : Int) (l3_4 : Int) (s5 : xW), xfm (W_X7_delay ) s0 s5 → F_X7_delay_4 l0_1 f l2_3 l3_4 s5 k = some q → xfm (W_X7_delay ) s0 q.2 := by
  intro f
  induction f with
  | zero => intro l2_3 l3_4 s5 hf h; cases h
  | succ f ih =>
    intro l2_3 l3_4 s5 hf h
    unfold F_X7_delay_4 at h
    rcases xif_o h with h | h
    · skip
      replace h := (xgd_e h).2
      obtain ⟨j10, ej_, h⟩ := xjn_e h
      have hj10 : ∀ (l2_8 : Int) (s9 : xW), xfm (W_X7_delay ) s0 s9 → j10 l2_8 s9 = some q → xfm (W_X7_delay ) s0 q.2 := by
        intro l2_8 s9 hf h
        rw [ej_] at h
        exact ih l2_8 (l3_4 + 1) s9 hf h
      clear ej_
      obtain ⟨j13, ej_, h⟩ := xjn_e h
      have hj13 : j13  = some q → xfm (W_X7_delay ) s0 q.2 := by
        intro  h
        rw [ej_] at h
        obtain ⟨j16, ej_, h⟩ := xjn_e h
        have hj16 : j16  = some q → xfm (W_X7_delay ) s0 q.2 := by
          intro  h
          rw [ej_] at h
          rcases xif_o h with h | h
          · skip
            replace h := (xgd_e h).2
            replace h := (xgd_e h).2
            obtain ⟨r23, -, h⟩ := xbp_e h
            replace h := (xgd_e h).2
            obtain ⟨s25, e_, h⟩ := xlt_e h
            replace hf := xfm_uA hf ((by decide : ∀ z ∈ xRules, (z + 2, -1) ∈ W_X7_delay) _ (by assumption)) e_
            clear e_
            exact hj10 (l2_3 + (-1)) s25 hf h
          · skip
            exact hj10 l2_3 s5 hf h
        clear ej_
        rcases xif_o h with h | h
        · skip
          rcases xif_o h with h | h
          · skip
            replace h := (xgd_e h).2
            replace h := (xgd_e h).2
            obtain ⟨s31, e_, h⟩ := xlt_e h
            replace hf := xfm_uA hf ((by decide : ∀ z ∈ xRules, (z + 2, -1) ∈ W_X7_delay) _ (by assumption)) e_
            clear e_
            exact hj10 l2_3 s31 hf h
          · skip
            exact hj16  h
        · skip
          exact hj16  h
      clear ej_
      rcases xif_o h with h | h
      · skip
        rcases xif_o h with h | h
        · skip
          obtain ⟨r36, -, h⟩ := xbp_e h
          replace h := (xgd_e h).2
          obtain ⟨s38, e_, h⟩ := xlt_e h
          replace hf := xfm_uA hf ((by decide : ∀ z ∈ xRules, (z + 2, -1) ∈ W_X7_delay) _ (by assumption)) e_
          clear e_
          exact hj10 (l2_3 + 1) s38 hf h
        · skip
          exact hj13  h
      · skip
        exact hj13  h
    · skip
      exact hk l2_3 l3_4 s5 hf h
theorem fr_X7_delay {a0 : Int} {s0 : xW} {q : Int × xW} (h : F_X7_delay a0 s0 = some q) : xfm (W_X7_delay ) s0 q.2 := by
  unfold F_X7_delay at h
  have hf : xfm (W_X7_delay ) s0 s0 := xfm_rf
  obtain ⟨hm_0, h⟩ := xgd_e h
  refine fr_X7_delay_4 (by assumption) (fun l2_43 l3_44 s45 hf h => ?_) xN _ _ _ hf h
  cases h; exact hf
def W_X0_minute : List (Int × Int) := [(90, -1)] ++ (W_X7_delay)
theorem fr_X0_minute {a1 : Int} {a2 : Int} {a3 : Int} {a4 : Int} {s0 : xW} {q : Int × xW} (h : F_X0_minute a1 a2 a3 a4 s0 = some q) : xfm (W_X0_minute ) s0 q.2 := by
  unfold F_X0_minute at h
  have hf : xfm (W_X0_minute ) s0 s0 := xfm_rf
  obtain ⟨hm_0, h⟩ := xgd_e h
  obtain ⟨s1, e_, h⟩ := xlt_e h
  replace hf := xfm_uA hf (List.mem_append_left _ (List.mem_of_getElem? (i := 0) rfl)) e_
  clear e_
  obtain ⟨s3, e_, h⟩ := xlt_e h
  replace hf := xfm_uA hf (List.mem_append_left _ (List.mem_of_getElem? (i := 0) rfl)) e_
  clear e_
  obtain ⟨s5, e_, h⟩ := xlt_e h
  replace hf := xfm_uA hf (List.mem_append_left _ (List.mem_of_getElem? (i := 0) rfl)) e_
  clear e_
  obtain ⟨s7, e_, h⟩ := xlt_e h
  replace hf := xfm_uA hf (List.mem_append_left _ (List.mem_of_getElem? (i := 0) rfl)) e_
  clear e_
  obtain ⟨r10, s11, e_, h⟩ := xbd_e h
  replace hf := xfm_c hf (fr_X7_delay e_) (fun q hq => List.mem_append_right _ (hq))
  clear e_
  cases h; exact hf
def W_X0_on : List (Int × Int) := [(90, -1)]
theorem fr_X0_on {a1 : Int} {a2 : Int} {a3 : Int} {s0 : xW} {q : xW} (h : F_X0_on a1 a2 a3 s0 = some q) : xfm (W_X0_on ) s0 q := by
  unfold F_X0_on at h
  have hf : xfm (W_X0_on ) s0 s0 := xfm_rf
  obtain ⟨s1, e_, h⟩ := xlt_e h
  replace hf := xfm_uA hf (List.mem_of_getElem? (i := 0) rfl) e_
  clear e_
  obtain ⟨s3, e_, h⟩ := xlt_e h
  replace hf := xfm_uA hf (List.mem_of_getElem? (i := 0) rfl) e_
  clear e_
  obtain ⟨s5, e_, h⟩ := xlt_e h
  replace hf := xfm_uA hf (List.mem_of_getElem? (i := 0) rfl) e_
  clear e_
  cases h; exact hf
def W_X9_copy (a0 : Int) : List (Int × Int) := [(a0, 0), (a0, 1), (a0, 2), (a0, 3), (a0, 4), (a0, 5), (a0 + 1, -1), (a0 + 2, -1), (a0 + 3, -1)]
theorem fr_X9_copy {a0 : Int} {a1 : Int} {s0 : xW} {q : xW} (h : F_X9_copy a0 a1 s0 = some q) : xfm (W_X9_copy a0) s0 q := by
  unfold F_X9_copy at h
  have hf : xfm (W_X9_copy a0) s0 s0 := xfm_rf
  obtain ⟨hm_0, h⟩ := xgd_e h
  obtain ⟨hm_1, h⟩ := xgd_e h
  obtain ⟨s1, e_, h⟩ := xlt_e h
  replace hf := xfm_uO hf (List.mem_of_getElem? (i := 0) rfl) e_
  clear e_
  obtain ⟨s3, e_, h⟩ := xlt_e h
  replace hf := xfm_uO hf (List.mem_of_getElem? (i := 1) rfl) e_
  clear e_
  obtain ⟨s5, e_, h⟩ := xlt_e h
  replace hf := xfm_uO hf (List.mem_of_getElem? (i := 2) rfl) e_
  clear e_
  obtain ⟨s7, e_, h⟩ := xlt_e h
  replace hf := xfm_uO hf (List.mem_of_getElem? (i := 3) rfl) e_
  clear e_
  obtain ⟨s9, e_, h⟩ := xlt_e h
  replace hf := xfm_uO hf (List.mem_of_getElem? (i := 4) rfl) e_
  clear e_
  obtain ⟨s11, e_, h⟩ := xlt_e h
  replace hf := xfm_uO hf (List.mem_of_getElem? (i := 5) rfl) e_
  clear e_
  obtain ⟨s13, e_, h⟩ := xlt_e h
  replace hf := xfm_cp hf (List.mem_of_getElem? (i := 6) rfl) e_
  clear e_
  obtain ⟨s15, e_, h⟩ := xlt_e h
  replace hf := xfm_cp hf (List.mem_of_getElem? (i := 7) rfl) e_
  clear e_
  obtain ⟨s17, e_, h⟩ := xlt_e h
  replace hf := xfm_cp hf (List.mem_of_getElem? (i := 8) rfl) e_
  clear e_
  cases h; exact hf
def W_X3_drop : List (Int × Int) := [(21, 2)]
theorem fr_X3_drop {s0 : xW} {q : xW} (h : F_X3_drop  s0 = some q) : xfm (W_X3_drop ) s0 q := by
  unfold F_X3_drop at h
  have hf : xfm (W_X3_drop ) s0 s0 := xfm_rf
  obtain ⟨s1, e_, h⟩ := xlt_e h
  replace hf := xfm_uO hf (List.mem_of_getElem? (i := 0) rfl) e_
  clear e_
  cases h; exact hf
def W_X10_again : List (Int × Int) := [] ++ (W_X9_copy 17 ++ (W_X3_drop))
theorem fr_X10_again {a1 : Int} {s0 : xW} {q : Int × xW} (h : F_X10_again a1 s0 = some q) : xfm (W_X10_again ) s0 q.2 := by
  unfold F_X10_again at h
  have hf : xfm (W_X10_again ) s0 s0 := xfm_rf
  obtain ⟨j1, ej_, h⟩ := xjn_e h
  have hj1 : j1  = some q → xfm (W_X10_again ) s0 q.2 := by
    intro  h
    rw [ej_] at h
    cases h; exact hf
  clear ej_
  rcases xif_o h with h | h
  · skip
    rcases xif_o h with h | h
    · skip
      replace h := (xgd_e h).2
      rcases xif_o h with h | h
      · skip
        exact hj1  h
      · skip
        replace h := (xgd_e h).2
        obtain ⟨hm_0, h⟩ := xgd_e h
        obtain ⟨s11, e_, h⟩ := xbp_e h
        replace hf := xfm_c hf (fr_X9_copy e_) (fun q hq => List.mem_append_right _ (List.mem_append_left _ hq))
        clear e_
        obtain ⟨s13, e_, h⟩ := xbp_e h
        replace hf := xfm_c hf (fr_X3_drop e_) (fun q hq => List.mem_append_right _ (List.mem_append_right _ (hq)))
        clear e_
        cases h; exact hf
    · skip
      exact hj1  h
  · skip
    exact hj1  h
def W_X6_clear : List (Int × Int) := [(3, 1)]
theorem fr_X6_clear {s0 : xW} {q : xW} (h : F_X6_clear  s0 = some q) : xfm (W_X6_clear ) s0 q := by
  unfold F_X6_clear at h
  have hf : xfm (W_X6_clear ) s0 s0 := xfm_rf
  obtain ⟨s1, e_, h⟩ := xlt_e h
  replace hf := xfm_uO hf (List.mem_of_getElem? (i := 0) rfl) e_
  clear e_
  cases h; exact hf
def W_X6_add : List (Int × Int) := [(4, -1), (3, 1)]
theorem fr_X6_add {a1 : Int} {s0 : xW} {q : xW} (h : F_X6_add a1 s0 = some q) : xfm (W_X6_add ) s0 q := by
  unfold F_X6_add at h
  have hf : xfm (W_X6_add ) s0 s0 := xfm_rf
  obtain ⟨j2, ej_, h⟩ := xjn_e h
  have hj2 : ∀ (s1 : xW), xfm (W_X6_add ) s0 s1 → j2 s1 = some q → xfm (W_X6_add ) s0 q := by
    intro s1 hf h
    rw [ej_] at h
    cases h; exact hf
  clear ej_
  rcases xif_o h with h | h
  · skip
    replace h := (xgd_e h).2
    obtain ⟨s7, e_, h⟩ := xlt_e h
    replace hf := xfm_uA hf (List.mem_of_getElem? (i := 0) rfl) e_
    clear e_
    obtain ⟨s9, e_, h⟩ := xlt_e h
    replace hf := xfm_uO hf (List.mem_of_getElem? (i := 1) rfl) e_
    clear e_
    exact hj2 s9 hf h
  · skip
    exact hj2 s0 hf h
def W_X6_tell : List (Int × Int) := [] ++ (W_X6_clear ++ (W_X6_add))
theorem fr_X6_tell {a1 : Int} {s0 : xW} {q : xW} (h : F_X6_tell a1 s0 = some q) : xfm (W_X6_tell ) s0 q := by
  unfold F_X6_tell at h
  have hf : xfm (W_X6_tell ) s0 s0 := xfm_rf
  obtain ⟨s2, e_, h⟩ := xbp_e h
  replace hf := xfm_c hf (fr_X6_clear e_) (fun q hq => List.mem_append_right _ (List.mem_append_left _ hq))
  clear e_
  obtain ⟨s4, e_, h⟩ := xbp_e h
  replace hf := xfm_c hf (fr_X6_add e_) (fun q hq => List.mem_append_right _ (List.mem_append_right _ (hq)))
  clear e_
  cases h; exact hf
def W_X6_tell_ : List (Int × Int) := [] ++ (W_X6_tell ++ (W_X6_add))
theorem fr_X6_tell_ {a1 : Int} {a3 : Int} {s0 : xW} {q : xW} (h : F_X6_tell_ a1 a3 s0 = some q) : xfm (W_X6_tell_ ) s0 q := by
  unfold F_X6_tell_ at h
  have hf : xfm (W_X6_tell_ ) s0 s0 := xfm_rf
  obtain ⟨s2, e_, h⟩ := xbp_e h
  replace hf := xfm_c hf (fr_X6_tell e_) (fun q hq => List.mem_append_right _ (List.mem_append_left _ hq))
  clear e_
  obtain ⟨s4, e_, h⟩ := xbp_e h
  replace hf := xfm_c hf (fr_X6_add e_) (fun q hq => List.mem_append_right _ (List.mem_append_right _ (hq)))
  clear e_
  cases h; exact hf
def W_X4_begin : List (Int × Int) := [(95, -1), (96, -1)]
theorem fr_X4_begin_2 {s0 : xW} {q : xW} {k : Int → xW → Option (xW)} (hk : ∀ (x0_ : Int) (x1_ : xW), xfm (W_X4_begin ) s0 x1_ → k x0_ x1_ = some q → xfm (W_X4_begin ) s0 q) : ∀ (f : Nat) (l3_1 : Int) (s2 : xW), xfm (W_X4_begin ) s0 s2 → F_X4_begin_2  f l3_1 s2 k = some q → xfm (W_X4_begin ) s0 q := by
  intro f
  induction f with
  | zero => intro l3_1 s2 hf h; cases h
  | succ f ih =>
    intro l3_1 s2 hf h
    unfold F_X4_begin_2 at h
    rcases xif_o h with h | h
    · skip
      replace h := (xgd_e h).2
      replace h := (xgd_e h).2
      replace h := (xgd_e h).2
      obtain ⟨s7, e_, h⟩ := xlt_e h
      replace hf := xfm_uA hf (List.mem_of_getElem? (i := 0) rfl) e_
      clear e_
      replace h := (xgd_e h).2
      replace h := (xgd_e h).2
      replace h := (xgd_e h).2
      obtain ⟨s12, e_, h⟩ := xlt_e h
      replace hf := xfm_uA hf (List.mem_of_getElem? (i := 1) rfl) e_
      clear e_
      exact ih (l3_1 + 1) s12 hf h
    · skip
      exact hk l3_1 s2 hf h
theorem fr_X4_begin {s0 : xW} {q : xW} (h : F_X4_begin  s0 = some q) : xfm (W_X4_begin ) s0 q := by
  unfold F_X4_begin at h
  have hf : xfm (W_X4_begin ) s0 s0 := xfm_rf
  refine fr_X4_begin_2 (fun l3_16 s17 hf h => ?_) xN _ _ hf h
  cases h; exact hf
def W_X10_planFor : List (Int × Int) := [(91, -1)] ++ (W_X0_on ++ (W_X4_begin ++ (W_X0_minute)))
theorem fr_X10_planFor_27 {s0 : xW} {l1_7 : Int} {l2_9 : Int} (hm_l1_7 : l1_7 ∈ xRules) {q : xW} {k : Int → xW → Option (xW)} (hk : ∀ (x0_ : Int) (x1_ : xW), xfm (W_X10_planFor ) s0 x1_ → k x0_ x1_ = some q → xfm (W_X10_planFor ) s0 q) : ∀ (f : Nat) (l4_10 : Int) (s11 : xW), xfm (W_X10_planFor ) s0 s11 → F_X10_planFor_27 l1_7 l2_9 f l4_10 s11 k = some q → xfm (W_X10_planFor ) s0 q := by
  intro f
  induction f with
  | zero => intro l4_10 s11 hf h; cases h
  | succ f ih =>
    intro l4_10 s11 hf h
    unfold F_X10_planFor_27 at h
    rcases xif_o h with h | h
    · skip
      replace h := (xgd_e h).2
      obtain ⟨r15, -, h⟩ := xbp_e h
      obtain ⟨r17, s18, e_, h⟩ := xbd_e h
      replace hf := xfm_c hf (fr_X0_minute e_) (fun q hq => List.mem_append_right _ (List.mem_append_right _ (List.mem_append_right _ (hq))))
      clear e_
      replace h := (xgd_e h).2
      obtain ⟨s20, e_, h⟩ := xlt_e h
      replace hf := xfm_uA hf (List.mem_append_left _ (List.mem_of_getElem? (i := 0) rfl)) e_
      clear e_
      exact ih (l4_10 + 1) s20 hf h
    · skip
      exact hk l4_10 s11 hf h
theorem fr_X10_planFor {a1 : Int} {a2 : Int} {a3 : Int} {s0 : xW} {q : xW} (h : F_X10_planFor a1 a2 a3 s0 = some q) : xfm (W_X10_planFor ) s0 q := by
  unfold F_X10_planFor at h
  have hf : xfm (W_X10_planFor ) s0 s0 := xfm_rf
  obtain ⟨hm_0, h⟩ := xgd_e h
  obtain ⟨r2, -, h⟩ := xbp_e h
  obtain ⟨r4, -, h⟩ := xbp_e h
  obtain ⟨s6, e_, h⟩ := xbp_e h
  replace hf := xfm_c hf (fr_X0_on e_) (fun q hq => List.mem_append_right _ (List.mem_append_left _ hq))
  clear e_
  refine fr_X10_planFor_27 (by assumption) (fun l4_24 s25 hf h => ?_) xN _ _ hf h
  obtain ⟨s27, e_, h⟩ := xbp_e h
  replace hf := xfm_c hf (fr_X4_begin e_) (fun q hq => List.mem_append_right _ (List.mem_append_right _ (List.mem_append_left _ hq)))
  clear e_
  cases h; exact hf
def W_X10_pairsOn : List (Int × Int) := [] ++ (W_X10_planFor)
theorem fr_X10_pairsOn {a1 : Int} {s0 : xW} {q : Int × xW} (h : F_X10_pairsOn a1 s0 = some q) : xfm (W_X10_pairsOn ) s0 q.2 := by
  unfold F_X10_pairsOn at h
  have hf : xfm (W_X10_pairsOn ) s0 s0 := xfm_rf
  obtain ⟨hm_0, h⟩ := xgd_e h
  obtain ⟨s3, e_, h⟩ := xbp_e h
  replace hf := xfm_c hf (fr_X10_planFor e_) (fun q hq => List.mem_append_right _ (hq))
  clear e_
  obtain ⟨r5, -, h⟩ := xbp_e h
  cases h; exact hf
def W_X10_ahead : List (Int × Int) := [] ++ (W_X6_tell_ ++ (W_X10_pairsOn))
theorem fr_X10_ahead {a1 : Int} {s0 : xW} {q : Int × xW} (h : F_X10_ahead a1 s0 = some q) : xfm (W_X10_ahead ) s0 q.2 := by
  unfold F_X10_ahead at h
  have hf : xfm (W_X10_ahead ) s0 s0 := xfm_rf
  obtain ⟨j1, ej_, h⟩ := xjn_e h
  have hj1 : j1  = some q → xfm (W_X10_ahead ) s0 q.2 := by
    intro  h
    rw [ej_] at h
    cases h; exact hf
  clear ej_
  rcases xif_o h with h | h
  · skip
    rcases xif_o h with h | h
    · skip
      exact hj1  h
    · skip
      obtain ⟨r7, -, h⟩ := xbp_e h
      obtain ⟨r9, -, h⟩ := xbp_e h
      obtain ⟨s11, e_, h⟩ := xbp_e h
      replace hf := xfm_c hf (fr_X6_tell_ e_) (fun q hq => List.mem_append_right _ (List.mem_append_left _ hq))
      clear e_
      obtain ⟨r13, s14, e_, h⟩ := xbd_e h
      replace hf := xfm_c hf (fr_X10_pairsOn e_) (fun q hq => List.mem_append_right _ (List.mem_append_right _ (hq)))
      clear e_
      cases h; exact hf
  · skip
    exact hj1  h
def W_X10_apart : List (Int × Int) := [] ++ (W_X6_tell_)
theorem fr_X10_apart_27 {s0 : xW} {l2_7 : Int} {q : Int × xW} {k : Int → Int → xW → Option (Int × xW)} (hk : ∀ (x0_ : Int) (x1_ : Int) (x2_ : xW), xfm (W_X10_apart ) s0 x2_ → k x0_ x1_ x2_ = some q → xfm (W_X10_apart ) s0 q.2) : ∀ (f : Nat) (l1_6 : Int) (l3_8 : Int) (s9 : xW), xfm (W_X10_apart ) s0 s9 → F_X10_apart_27 l2_7 f l1_6 l3_8 s9 k = some q → xfm (W_X10_apart ) s0 q.2 := by
  intro f
  induction f with
  | zero => intro l1_6 l3_8 s9 hf h; cases h
  | succ f ih =>
    intro l1_6 l3_8 s9 hf h
    unfold F_X10_apart_27 at h
    rcases xif_o h with h | h
    · skip
      replace h := (xgd_e h).2
      replace h := (xgd_e h).2
      obtain ⟨j15, ej_, h⟩ := xjn_e h
      have hj15 : ∀ (l1_13 : Int) (s14 : xW), xfm (W_X10_apart ) s0 s14 → j15 l1_13 s14 = some q → xfm (W_X10_apart ) s0 q.2 := by
        intro l1_13 s14 hf h
        rw [ej_] at h
        exact ih l1_13 (l3_8 + 1) s14 hf h
      clear ej_
      rcases xif_o h with h | h
      · skip
        obtain ⟨s20, e_, h⟩ := xbp_e h
        replace hf := xfm_c hf (fr_X6_tell_ e_) (fun q hq => List.mem_append_right _ (hq))
        clear e_
        exact hj15 (xab (xw ((s9 19 l2_7) - (s9 19 l3_8)))) s20 hf h
      · skip
        exact hj15 l1_6 s9 hf h
    · skip
      exact hk l1_6 l3_8 s9 hf h
theorem fr_X10_apart_15 {s0 : xW} {q : Int × xW} {k : Int → Int → xW → Option (Int × xW)} (hk : ∀ (x0_ : Int) (x1_ : Int) (x2_ : xW), xfm (W_X10_apart ) s0 x2_ → k x0_ x1_ x2_ = some q → xfm (W_X10_apart ) s0 q.2) : ∀ (f : Nat) (l1_2 : Int) (l2_3 : Int) (s4 : xW), xfm (W_X10_apart ) s0 s4 → F_X10_apart_15  f l1_2 l2_3 s4 k = some q → xfm (W_X10_apart ) s0 q.2 := by
  intro f
  induction f with
  | zero => intro l1_2 l2_3 s4 hf h; cases h
  | succ f ih =>
    intro l1_2 l2_3 s4 hf h
    unfold F_X10_apart_15 at h
    rcases xif_o h with h | h
    · skip
      refine fr_X10_apart_27 (fun l1_24 l3_25 s26 hf h => ?_) xN _ _ _ hf h
      exact ih l1_24 (l2_3 + 1) s26 hf h
    · skip
      exact hk l1_2 l2_3 s4 hf h
theorem fr_X10_apart {s0 : xW} {q : Int × xW} (h : F_X10_apart  s0 = some q) : xfm (W_X10_apart ) s0 q.2 := by
  unfold F_X10_apart at h
  have hf : xfm (W_X10_apart ) s0 s0 := xfm_rf
  rcases xif_o h with h | h
  · skip
    cases h; exact hf
  · skip
    refine fr_X10_apart_15 (fun l1_30 l2_31 s32 hf h => ?_) xN _ _ _ hf h
    cases h; exact hf
def W_X10_minuteBy : List (Int × Int) := [] ++ (W_X0_on ++ (W_X0_minute))
theorem fr_X10_minuteBy {a1 : Int} {a2 : Int} {s0 : xW} {q : Int × xW} (h : F_X10_minuteBy a1 a2 s0 = some q) : xfm (W_X10_minuteBy ) s0 q.2 := by
  unfold F_X10_minuteBy at h
  have hf : xfm (W_X10_minuteBy ) s0 s0 := xfm_rf
  replace h := (xgd_e h).2
  obtain ⟨s3, e_, h⟩ := xbp_e h
  replace hf := xfm_c hf (fr_X0_on e_) (fun q hq => List.mem_append_right _ (List.mem_append_left _ hq))
  clear e_
  obtain ⟨hm_0, h⟩ := xgd_e h
  obtain ⟨r6, -, h⟩ := xbp_e h
  obtain ⟨r8, s9, e_, h⟩ := xbd_e h
  replace hf := xfm_c hf (fr_X0_minute e_) (fun q hq => List.mem_append_right _ (List.mem_append_right _ (hq)))
  clear e_
  cases h; exact hf
def W_X10_fitsReports : List (Int × Int) := [] ++ (W_X10_minuteBy)
theorem fr_X10_fitsReports_2 {s0 : xW} {l1_1 : Int} {q : Int × xW} {k : Int → xW → Option (Int × xW)} (hk : ∀ (x0_ : Int) (x1_ : xW), xfm (W_X10_fitsReports ) s0 x1_ → k x0_ x1_ = some q → xfm (W_X10_fitsReports ) s0 q.2) : ∀ (f : Nat) (l2_2 : Int) (s3 : xW), xfm (W_X10_fitsReports ) s0 s3 → F_X10_fitsReports_2 l1_1 f l2_2 s3 k = some q → xfm (W_X10_fitsReports ) s0 q.2 := by
  intro f
  induction f with
  | zero => intro l2_2 s3 hf h; cases h
  | succ f ih =>
    intro l2_2 s3 hf h
    unfold F_X10_fitsReports_2 at h
    rcases xif_o h with h | h
    · skip
      replace h := (xgd_e h).2
      obtain ⟨r7, s8, e_, h⟩ := xbd_e h
      replace hf := xfm_c hf (fr_X10_minuteBy e_) (fun q hq => List.mem_append_right _ (hq))
      clear e_
      replace h := (xgd_e h).2
      rcases xif_o h with h | h
      · skip
        cases h; exact hf
      · skip
        exact ih (l2_2 + 1) s8 hf h
    · skip
      exact hk l2_2 s3 hf h
theorem fr_X10_fitsReports {a1 : Int} {s0 : xW} {q : Int × xW} (h : F_X10_fitsReports a1 s0 = some q) : xfm (W_X10_fitsReports ) s0 q.2 := by
  unfold F_X10_fitsReports at h
  have hf : xfm (W_X10_fitsReports ) s0 s0 := xfm_rf
  refine fr_X10_fitsReports_2 (fun l2_13 s14 hf h => ?_) xN _ _ hf h
  cases h; exact hf
def W_X10_findWeathers : List (Int × Int) := [(100, 4), (103, -1)] ++ (W_X10_fitsReports)
theorem fr_X10_findWeathers_4 {s0 : xW} {q : Int × xW} {k : Int → Int → xW → Option (Int × xW)} (hk : ∀ (x0_ : Int) (x1_ : Int) (x2_ : xW), xfm (W_X10_findWeathers ) s0 x2_ → k x0_ x1_ x2_ = some q → xfm (W_X10_findWeathers ) s0 q.2) : ∀ (f : Nat) (l1_1 : Int) (l2_2 : Int) (s3 : xW), xfm (W_X10_findWeathers ) s0 s3 → F_X10_findWeathers_4  f l1_1 l2_2 s3 k = some q → xfm (W_X10_findWeathers ) s0 q.2 := by
  intro f
  induction f with
  | zero => intro l1_1 l2_2 s3 hf h; cases h
  | succ f ih =>
    intro l1_1 l2_2 s3 hf h
    unfold F_X10_findWeathers_4 at h
    rcases xif_o h with h | h
    · skip
      obtain ⟨r6, s7, e_, h⟩ := xbd_e h
      replace hf := xfm_c hf (fr_X10_fitsReports e_) (fun q hq => List.mem_append_right _ (hq))
      clear e_
      obtain ⟨j10, ej_, h⟩ := xjn_e h
      have hj10 : ∀ (l1_8 : Int) (s9 : xW), xfm (W_X10_findWeathers ) s0 s9 → j10 l1_8 s9 = some q → xfm (W_X10_findWeathers ) s0 q.2 := by
        intro l1_8 s9 hf h
        rw [ej_] at h
        exact ih l1_8 (l2_2 + 1) s9 hf h
      clear ej_
      rcases xif_o h with h | h
      · skip
        replace h := (xgd_e h).2
        obtain ⟨s15, e_, h⟩ := xlt_e h
        replace hf := xfm_uA hf (List.mem_append_left _ (List.mem_of_getElem? (i := 1) rfl)) e_
        clear e_
        exact hj10 (l1_1 + 1) s15 hf h
      · skip
        exact hj10 l1_1 s7 hf h
    · skip
      exact hk l1_1 l2_2 s3 hf h
theorem fr_X10_findWeathers {s0 : xW} {q : Int × xW} (h : F_X10_findWeathers  s0 = some q) : xfm (W_X10_findWeathers ) s0 q.2 := by
  unfold F_X10_findWeathers at h
  have hf : xfm (W_X10_findWeathers ) s0 s0 := xfm_rf
  refine fr_X10_findWeathers_4 (fun l1_20 l2_21 s22 hf h => ?_) xN _ _ _ hf h
  obtain ⟨s23, e_, h⟩ := xlt_e h
  replace hf := xfm_uO hf (List.mem_append_left _ (List.mem_of_getElem? (i := 0) rfl)) e_
  clear e_
  cases h; exact hf
def W_X5_countMinute : List (Int × Int) := [(104, -1)]
theorem fr_X5_countMinute {a1 : Int} {s0 : xW} {q : Int × xW} (h : F_X5_countMinute a1 s0 = some q) : xfm (W_X5_countMinute ) s0 q.2 := by
  unfold F_X5_countMinute at h
  have hf : xfm (W_X5_countMinute ) s0 s0 := xfm_rf
  obtain ⟨j1, ej_, h⟩ := xjn_e h
  have hj1 : j1  = some q → xfm (W_X5_countMinute ) s0 q.2 := by
    intro  h
    rw [ej_] at h
    cases h; exact hf
  clear ej_
  rcases xif_o h with h | h
  · skip
    rcases xif_o h with h | h
    · skip
      exact hj1  h
    · skip
      replace h := (xgd_e h).2
      replace h := (xgd_e h).2
      obtain ⟨s8, e_, h⟩ := xlt_e h
      replace hf := xfm_uA hf (List.mem_of_getElem? (i := 0) rfl) e_
      clear e_
      replace h := (xgd_e h).2
      cases h; exact hf
  · skip
    exact hj1  h
def W_X10_mostLeft : List (Int × Int) := [(104, -1)] ++ (W_X10_minuteBy ++ (W_X5_countMinute))
theorem fr_X10_mostLeft_15 {s0 : xW} {l1_3 : Int} {q : Int × xW} {k : Int → Int → xW → Option (Int × xW)} (hk : ∀ (x0_ : Int) (x1_ : Int) (x2_ : xW), xfm (W_X10_mostLeft ) s0 x2_ → k x0_ x1_ x2_ = some q → xfm (W_X10_mostLeft ) s0 q.2) : ∀ (f : Nat) (l2_4 : Int) (l3_5 : Int) (s6 : xW), xfm (W_X10_mostLeft ) s0 s6 → F_X10_mostLeft_15 l1_3 f l2_4 l3_5 s6 k = some q → xfm (W_X10_mostLeft ) s0 q.2 := by
  intro f
  induction f with
  | zero => intro l2_4 l3_5 s6 hf h; cases h
  | succ f ih =>
    intro l2_4 l3_5 s6 hf h
    unfold F_X10_mostLeft_15 at h
    rcases xif_o h with h | h
    · skip
      replace h := (xgd_e h).2
      obtain ⟨r10, s11, e_, h⟩ := xbd_e h
      replace hf := xfm_c hf (fr_X10_minuteBy e_) (fun q hq => List.mem_append_right _ (List.mem_append_left _ hq))
      clear e_
      obtain ⟨r13, s14, e_, h⟩ := xbd_e h
      replace hf := xfm_c hf (fr_X5_countMinute e_) (fun q hq => List.mem_append_right _ (List.mem_append_right _ (hq)))
      clear e_
      exact ih (max (xw l2_4) (xw r13)) (l3_5 + 1) s14 hf h
    · skip
      exact hk l2_4 l3_5 s6 hf h
theorem fr_X10_mostLeft {a1 : Int} {s0 : xW} {q : Int × xW} (h : F_X10_mostLeft a1 s0 = some q) : xfm (W_X10_mostLeft ) s0 q.2 := by
  unfold F_X10_mostLeft at h
  have hf : xfm (W_X10_mostLeft ) s0 s0 := xfm_rf
  obtain ⟨s1, e_, h⟩ := xlt_e h
  replace hf := xfm_fl hf (List.mem_append_left _ (List.mem_of_getElem? (i := 0) rfl)) e_
  clear e_
  refine fr_X10_mostLeft_15 (fun l2_18 l3_19 s20 hf h => ?_) xN _ _ _ hf h
  cases h; exact hf
def W_X10_asks : List (Int × Int) := [] ++ (W_X10_findWeathers ++ (W_X6_tell ++ (W_X10_mostLeft)))
theorem fr_X10_asks_24 {s0 : xW} {q : Int × xW} {k : Int → Int → Int → xW → Option (Int × xW)} (hk : ∀ (x0_ : Int) (x1_ : Int) (x2_ : Int) (x3_ : xW), xfm (W_X10_asks ) s0 x3_ → k x0_ x1_ x2_ x3_ = some q → xfm (W_X10_asks ) s0 q.2) : ∀ (f : Nat) (l1_10 : Int) (l2_11 : Int) (l3_12 : Int) (s13 : xW), xfm (W_X10_asks ) s0 s13 → F_X10_asks_24  f l1_10 l2_11 l3_12 s13 k = some q → xfm (W_X10_asks ) s0 q.2 := by
  intro f
  induction f with
  | zero => intro l1_10 l2_11 l3_12 s13 hf h; cases h
  | succ f ih =>
    intro l1_10 l2_11 l3_12 s13 hf h
    unfold F_X10_asks_24 at h
    rcases xif_o h with h | h
    · skip
      obtain ⟨r16, s17, e_, h⟩ := xbd_e h
      replace hf := xfm_c hf (fr_X10_mostLeft e_) (fun q hq => List.mem_append_right _ (List.mem_append_right _ (List.mem_append_right _ (hq))))
      clear e_
      obtain ⟨j20, ej_, h⟩ := xjn_e h
      have hj20 : ∀ (l1_18 : Int) (l2_19 : Int), j20 l1_18 l2_19 = some q → xfm (W_X10_asks ) s0 q.2 := by
        intro l1_18 l2_19 h
        rw [ej_] at h
        exact ih l1_18 l2_19 (l3_12 + 1) s17 hf h
      clear ej_
      rcases xif_o h with h | h
      · skip
        exact hj20 r16 l3_12 h
      · skip
        exact hj20 l1_10 l2_11 h
    · skip
      exact hk l1_10 l2_11 l3_12 s13 hf h
theorem fr_X10_asks {s0 : xW} {q : Int × xW} (h : F_X10_asks  s0 = some q) : xfm (W_X10_asks ) s0 q.2 := by
  unfold F_X10_asks at h
  have hf : xfm (W_X10_asks ) s0 s0 := xfm_rf
  obtain ⟨j2, ej_, h⟩ := xjn_e h
  have hj2 : ∀ (s1 : xW), xfm (W_X10_asks ) s0 s1 → j2 s1 = some q → xfm (W_X10_asks ) s0 q.2 := by
    intro s1 hf h
    rw [ej_] at h
    cases h; exact hf
  clear ej_
  rcases xif_o h with h | h
  · skip
    obtain ⟨r7, s8, e_, h⟩ := xbd_e h
    replace hf := xfm_c hf (fr_X10_findWeathers e_) (fun q hq => List.mem_append_right _ (List.mem_append_left _ hq))
    clear e_
    rcases xif_o h with h | h
    · skip
      exact hj2 s8 hf h
    · skip
      refine fr_X10_asks_24 (fun l1_28 l2_29 l3_30 s31 hf h => ?_) xN _ _ _ _ hf h
      obtain ⟨s33, e_, h⟩ := xbp_e h
      replace hf := xfm_c hf (fr_X6_tell e_) (fun q hq => List.mem_append_right _ (List.mem_append_right _ (List.mem_append_left _ hq)))
      clear e_
      cases h; exact hf
  · skip
    exact hj2 s0 hf h
def W_X6_tell__ : List (Int × Int) := [] ++ (W_X6_tell_ ++ (W_X6_add))
theorem fr_X6_tell__ {a1 : Int} {a3 : Int} {a5 : Int} {s0 : xW} {q : xW} (h : F_X6_tell__ a1 a3 a5 s0 = some q) : xfm (W_X6_tell__ ) s0 q := by
  unfold F_X6_tell__ at h
  have hf : xfm (W_X6_tell__ ) s0 s0 := xfm_rf
  obtain ⟨s2, e_, h⟩ := xbp_e h
  replace hf := xfm_c hf (fr_X6_tell_ e_) (fun q hq => List.mem_append_right _ (List.mem_append_left _ hq))
  clear e_
  obtain ⟨s4, e_, h⟩ := xbp_e h
  replace hf := xfm_c hf (fr_X6_add e_) (fun q hq => List.mem_append_right _ (List.mem_append_right _ (hq)))
  clear e_
  cases h; exact hf
def W_X10_best : List (Int × Int) := [] ++ (W_X10_pairsOn ++ (W_X6_tell__ ++ (W_X10_planFor)))
theorem fr_X10_best_6 {s0 : xW} {q : Int × xW} {k : Int → Int → Int → xW → Option (Int × xW)} (hk : ∀ (x0_ : Int) (x1_ : Int) (x2_ : Int) (x3_ : xW), xfm (W_X10_best ) s0 x3_ → k x0_ x1_ x2_ x3_ = some q → xfm (W_X10_best ) s0 q.2) : ∀ (f : Nat) (l1_1 : Int) (l2_2 : Int) (l3_3 : Int) (s4 : xW), xfm (W_X10_best ) s0 s4 → F_X10_best_6  f l1_1 l2_2 l3_3 s4 k = some q → xfm (W_X10_best ) s0 q.2 := by
  intro f
  induction f with
  | zero => intro l1_1 l2_2 l3_3 s4 hf h; cases h
  | succ f ih =>
    intro l1_1 l2_2 l3_3 s4 hf h
    unfold F_X10_best_6 at h
    rcases xif_o h with h | h
    · skip
      obtain ⟨hm_0, h⟩ := xgd_e h
      obtain ⟨s8, e_, h⟩ := xbp_e h
      replace hf := xfm_c hf (fr_X10_planFor e_) (fun q hq => List.mem_append_right _ (List.mem_append_right _ (List.mem_append_right _ (hq))))
      clear e_
      obtain ⟨r10, -, h⟩ := xbp_e h
      obtain ⟨j13, ej_, h⟩ := xjn_e h
      have hj13 : ∀ (l1_11 : Int) (l2_12 : Int), j13 l1_11 l2_12 = some q → xfm (W_X10_best ) s0 q.2 := by
        intro l1_11 l2_12 h
        rw [ej_] at h
        exact ih l1_11 l2_12 (l3_3 + 1) s8 hf h
      clear ej_
      obtain ⟨j16, ej_, h⟩ := xjn_e h
      have hj16 : j16  = some q → xfm (W_X10_best ) s0 q.2 := by
        intro  h
        rw [ej_] at h
        exact hj13 r10 l3_3 h
      clear ej_
      rcases xif_o h with h | h
      · skip
        rcases xif_o h with h | h
        · skip
          exact hj16  h
        · skip
          exact hj13 l1_1 l2_2 h
      · skip
        exact hj16  h
    · skip
      exact hk l1_1 l2_2 l3_3 s4 hf h
theorem fr_X10_best {s0 : xW} {q : Int × xW} (h : F_X10_best  s0 = some q) : xfm (W_X10_best ) s0 q.2 := by
  unfold F_X10_best at h
  have hf : xfm (W_X10_best ) s0 s0 := xfm_rf
  refine fr_X10_best_6 (fun l1_25 l2_26 l3_27 s28 hf h => ?_) xN _ _ _ _ hf h
  obtain ⟨r30, s31, e_, h⟩ := xbd_e h
  replace hf := xfm_c hf (fr_X10_pairsOn e_) (fun q hq => List.mem_append_right _ (List.mem_append_left _ hq))
  clear e_
  obtain ⟨s33, e_, h⟩ := xbp_e h
  replace hf := xfm_c hf (fr_X6_tell__ e_) (fun q hq => List.mem_append_right _ (List.mem_append_right _ (List.mem_append_left _ hq)))
  clear e_
  cases h; exact hf
def W_X10_buy : List (Int × Int) := [(17, 2)]
theorem fr_X10_buy {a1 : Int} {s0 : xW} {q : Int × xW} (h : F_X10_buy a1 s0 = some q) : xfm (W_X10_buy ) s0 q.2 := by
  unfold F_X10_buy at h
  have hf : xfm (W_X10_buy ) s0 s0 := xfm_rf
  obtain ⟨j1, ej_, h⟩ := xjn_e h
  have hj1 : j1  = some q → xfm (W_X10_buy ) s0 q.2 := by
    intro  h
    rw [ej_] at h
    cases h; exact hf
  clear ej_
  rcases xif_o h with h | h
  · skip
    rcases xif_o h with h | h
    · skip
      exact hj1  h
    · skip
      rcases xif_o h with h | h
      · skip
        cases h; exact hf
      · skip
        obtain ⟨s7, e_, h⟩ := xlt_e h
        replace hf := xfm_uO hf (List.mem_of_getElem? (i := 0) rfl) e_
        clear e_
        cases h; exact hf
  · skip
    exact hj1  h
def W_X3_add : List (Int × Int) := [(21, 1), (21, 2)]
theorem fr_X3_add {s0 : xW} {q : xW} (h : F_X3_add  s0 = some q) : xfm (W_X3_add ) s0 q := by
  unfold F_X3_add at h
  have hf : xfm (W_X3_add ) s0 s0 := xfm_rf
  obtain ⟨s1, e_, h⟩ := xlt_e h
  replace hf := xfm_uO hf (List.mem_of_getElem? (i := 0) rfl) e_
  clear e_
  obtain ⟨s3, e_, h⟩ := xlt_e h
  replace hf := xfm_uO hf (List.mem_of_getElem? (i := 1) rfl) e_
  clear e_
  cases h; exact hf
def W_X10_noted : List (Int × Int) := [] ++ (W_X3_add)
theorem fr_X10_noted {a1 : Int} {s0 : xW} {q : Int × xW} (h : F_X10_noted a1 s0 = some q) : xfm (W_X10_noted ) s0 q.2 := by
  unfold F_X10_noted at h
  have hf : xfm (W_X10_noted ) s0 s0 := xfm_rf
  obtain ⟨j2, ej_, h⟩ := xjn_e h
  have hj2 : ∀ (s1 : xW), xfm (W_X10_noted ) s0 s1 → j2 s1 = some q → xfm (W_X10_noted ) s0 q.2 := by
    intro s1 hf h
    rw [ej_] at h
    cases h; exact hf
  clear ej_
  rcases xif_o h with h | h
  · skip
    obtain ⟨s7, e_, h⟩ := xbp_e h
    replace hf := xfm_c hf (fr_X3_add e_) (fun q hq => List.mem_append_right _ (hq))
    clear e_
    exact hj2 s7 hf h
  · skip
    exact hj2 s0 hf h
def W_X10_planToday : List (Int × Int) := [] ++ (W_X10_planFor)
theorem fr_X10_planToday {s0 : xW} {q : xW} (h : F_X10_planToday  s0 = some q) : xfm (W_X10_planToday ) s0 q := by
  unfold F_X10_planToday at h
  have hf : xfm (W_X10_planToday ) s0 s0 := xfm_rf
  obtain ⟨hm_0, h⟩ := xgd_e h
  obtain ⟨s3, e_, h⟩ := xbp_e h
  replace hf := xfm_c hf (fr_X10_planFor e_) (fun q hq => List.mem_append_right _ (hq))
  clear e_
  cases h; exact hf
def W_X10_clashes : List (Int × Int) := [] ++ (W_X10_planToday ++ (W_X6_clear ++ (W_X6_tell_)))
theorem fr_X10_clashes_30 {s0 : xW} {l2_10 : Int} {q : Int × xW} {k : Int → Int → xW → Option (Int × xW)} (hk : ∀ (x0_ : Int) (x1_ : Int) (x2_ : xW), xfm (W_X10_clashes ) s0 x2_ → k x0_ x1_ x2_ = some q → xfm (W_X10_clashes ) s0 q.2) : ∀ (f : Nat) (l1_9 : Int) (l3_11 : Int) (s12 : xW), xfm (W_X10_clashes ) s0 s12 → F_X10_clashes_30 l2_10 f l1_9 l3_11 s12 k = some q → xfm (W_X10_clashes ) s0 q.2 := by
  intro f
  induction f with
  | zero => intro l1_9 l3_11 s12 hf h; cases h
  | succ f ih =>
    intro l1_9 l3_11 s12 hf h
    unfold F_X10_clashes_30 at h
    rcases xif_o h with h | h
    · skip
      obtain ⟨r15, -, h⟩ := xbp_e h
      obtain ⟨j18, ej_, h⟩ := xjn_e h
      have hj18 : ∀ (l1_16 : Int) (s17 : xW), xfm (W_X10_clashes ) s0 s17 → j18 l1_16 s17 = some q → xfm (W_X10_clashes ) s0 q.2 := by
        intro l1_16 s17 hf h
        rw [ej_] at h
        exact ih l1_16 (l3_11 + 1) s17 hf h
      clear ej_
      rcases xif_o h with h | h
      · skip
        rcases xif_o h with h | h
        · skip
          obtain ⟨s24, e_, h⟩ := xbp_e h
          replace hf := xfm_c hf (fr_X6_tell_ e_) (fun q hq => List.mem_append_right _ (List.mem_append_right _ (List.mem_append_right _ (hq))))
          clear e_
          exact hj18 (l1_9 + 1) s24 hf h
        · skip
          exact hj18 (l1_9 + 1) s12 hf h
      · skip
        exact hj18 l1_9 s12 hf h
    · skip
      exact hk l1_9 l3_11 s12 hf h
theorem fr_X10_clashes_15 {s0 : xW} {q : Int × xW} {k : Int → Int → xW → Option (Int × xW)} (hk : ∀ (x0_ : Int) (x1_ : Int) (x2_ : xW), xfm (W_X10_clashes ) s0 x2_ → k x0_ x1_ x2_ = some q → xfm (W_X10_clashes ) s0 q.2) : ∀ (f : Nat) (l1_5 : Int) (l2_6 : Int) (s7 : xW), xfm (W_X10_clashes ) s0 s7 → F_X10_clashes_15  f l1_5 l2_6 s7 k = some q → xfm (W_X10_clashes ) s0 q.2 := by
  intro f
  induction f with
  | zero => intro l1_5 l2_6 s7 hf h; cases h
  | succ f ih =>
    intro l1_5 l2_6 s7 hf h
    unfold F_X10_clashes_15 at h
    rcases xif_o h with h | h
    · skip
      refine fr_X10_clashes_30 (fun l1_28 l3_29 s30 hf h => ?_) xN _ _ _ hf h
      exact ih l1_28 (l2_6 + 1) s30 hf h
    · skip
      exact hk l1_5 l2_6 s7 hf h
theorem fr_X10_clashes {s0 : xW} {q : Int × xW} (h : F_X10_clashes  s0 = some q) : xfm (W_X10_clashes ) s0 q.2 := by
  unfold F_X10_clashes at h
  have hf : xfm (W_X10_clashes ) s0 s0 := xfm_rf
  obtain ⟨s2, e_, h⟩ := xbp_e h
  replace hf := xfm_c hf (fr_X10_planToday e_) (fun q hq => List.mem_append_right _ (List.mem_append_left _ hq))
  clear e_
  obtain ⟨s4, e_, h⟩ := xbp_e h
  replace hf := xfm_c hf (fr_X6_clear e_) (fun q hq => List.mem_append_right _ (List.mem_append_right _ (List.mem_append_left _ hq)))
  clear e_
  refine fr_X10_clashes_15 (fun l1_34 l2_35 s36 hf h => ?_) xN _ _ _ hf h
  cases h; exact hf
def W_X1_read (a0 : Int) : List (Int × Int) := [(a0, 1), (a0 + 1, -1)]
theorem fr_X1_read_2 {s0 : xW} {l0_1 : Int} {s4 : xW} (hf : xfm (W_X1_read l0_1) s0 s4) (hm_l0_1 : l0_1 ∈ xDigs) {q : Int × xW} {k : Int → Option (Int × xW)} (hk : ∀ (x0_ : Int), k x0_ = some q → xfm (W_X1_read l0_1) s0 q.2) : ∀ (f : Nat) (l2_3 : Int), F_X1_read_2 l0_1 s4 f l2_3 k = some q → xfm (W_X1_read l0_1) s0 q.2 := by
  intro f
  induction f with
  | zero => intro l2_3 h; cases h
  | succ f ih =>
    intro l2_3 h
    unfold F_X1_read_2 at h
    rcases xif_o h with h | h
    · skip
      obtain ⟨j6, ej_, h⟩ := xjn_e h
      have hj6 : j6  = some q → xfm (W_X1_read l0_1) s0 q.2 := by
        intro  h
        rw [ej_] at h
        cases h; exact hf
      clear ej_
      rcases xif_o h with h | h
      · skip
        obtain ⟨r11, -, h⟩ := xbp_e h
        rcases xif_o h with h | h
        · skip
          exact hj6  h
        · skip
          exact ih (l2_3 + 1) h
      · skip
        exact hj6  h
    · skip
      exact hk l2_3 h
theorem fr_X1_read_52 {s0 : xW} {l0_18 : Int} (hm_l0_18 : l0_18 ∈ xDigs) {q : Int × xW} {k : Int → xW → Option (Int × xW)} (hk : ∀ (x0_ : Int) (x1_ : xW), xfm (W_X1_read l0_18) s0 x1_ → k x0_ x1_ = some q → xfm (W_X1_read l0_18) s0 q.2) : ∀ (f : Nat) (l2_20 : Int) (s21 : xW), xfm (W_X1_read l0_18) s0 s21 → F_X1_read_52 l0_18 f l2_20 s21 k = some q → xfm (W_X1_read l0_18) s0 q.2 := by
  intro f
  induction f with
  | zero => intro l2_20 s21 hf h; cases h
  | succ f ih =>
    intro l2_20 s21 hf h
    unfold F_X1_read_52 at h
    rcases xif_o h with h | h
    · skip
      obtain ⟨r24, -, h⟩ := xbp_e h
      replace h := (xgd_e h).2
      obtain ⟨s26, e_, h⟩ := xlt_e h
      replace hf := xfm_uA hf (List.mem_of_getElem? (i := 1) rfl) e_
      clear e_
      exact ih (l2_20 + 1) s26 hf h
    · skip
      exact hk l2_20 s21 hf h
theorem fr_X1_read {a0 : Int} {s0 : xW} {q : Int × xW} (h : F_X1_read a0 s0 = some q) : xfm (W_X1_read a0) s0 q.2 := by
  unfold F_X1_read at h
  have hf : xfm (W_X1_read a0) s0 s0 := xfm_rf
  obtain ⟨hm_0, h⟩ := xgd_e h
  refine fr_X1_read_2 hf (by assumption) (fun l2_14 h => ?_) xN _ h
  rcases xif_o h with h | h
  · skip
    cases h; exact hf
  · skip
    obtain ⟨s16, e_, h⟩ := xlt_e h
    replace hf := xfm_uO hf (List.mem_of_getElem? (i := 0) rfl) e_
    clear e_
    refine fr_X1_read_52 (by assumption) (fun l2_30 s31 hf h => ?_) xN _ _ hf h
    cases h; exact hf
def W_X8_clear : List (Int × Int) := [(1, 1)]
theorem fr_X8_clear {s0 : xW} {q : xW} (h : F_X8_clear  s0 = some q) : xfm (W_X8_clear ) s0 q := by
  unfold F_X8_clear at h
  have hf : xfm (W_X8_clear ) s0 s0 := xfm_rf
  obtain ⟨s1, e_, h⟩ := xlt_e h
  replace hf := xfm_uO hf (List.mem_of_getElem? (i := 0) rfl) e_
  clear e_
  cases h; exact hf
def W_X10_readDigits (a1 : Int) : List (Int × Int) := [] ++ (W_X1_read a1 ++ (W_X8_clear))
theorem fr_X10_readDigits {a1 : Int} {s0 : xW} {q : Int × xW} (h : F_X10_readDigits a1 s0 = some q) : xfm (W_X10_readDigits a1) s0 q.2 := by
  unfold F_X10_readDigits at h
  have hf : xfm (W_X10_readDigits a1) s0 s0 := xfm_rf
  obtain ⟨hm_0, h⟩ := xgd_e h
  obtain ⟨r2, s3, e_, h⟩ := xbd_e h
  replace hf := xfm_c hf (fr_X1_read e_) (fun q hq => List.mem_append_right _ (List.mem_append_left _ hq))
  clear e_
  obtain ⟨v5, -, h⟩ := xlt_e h
  obtain ⟨s9, e_, h⟩ := xbp_e h
  replace hf := xfm_c hf (fr_X8_clear e_) (fun q hq => List.mem_append_right _ (List.mem_append_right _ (hq)))
  clear e_
  cases h; exact hf
def W_X10_damps : List (Int × Int) := [] ++ (W_X10_readDigits 7)
theorem fr_X10_damps {s0 : xW} {q : Int × xW} (h : F_X10_damps  s0 = some q) : xfm (W_X10_damps ) s0 q.2 := by
  unfold F_X10_damps at h
  have hf : xfm (W_X10_damps ) s0 s0 := xfm_rf
  obtain ⟨r2, s3, e_, h⟩ := xbd_e h
  replace hf := xfm_c hf (fr_X10_readDigits e_) (fun q hq => List.mem_append_right _ (hq))
  clear e_
  cases h; exact hf
def W_X10_passDay : List (Int × Int) := [(17, 5), (17, 2), (17, 3), (19, -1), (17, 4)] ++ (W_X10_planFor)
theorem fr_X10_passDay {s0 : xW} {q : Int × xW} (h : F_X10_passDay  s0 = some q) : xfm (W_X10_passDay ) s0 q.2 := by
  unfold F_X10_passDay at h
  have hf : xfm (W_X10_passDay ) s0 s0 := xfm_rf
  obtain ⟨j3, ej_, h⟩ := xjn_e h
  have hj3 : ∀ (l1_1 : Int) (s2 : xW), xfm (W_X10_passDay ) s0 s2 → j3 l1_1 s2 = some q → xfm (W_X10_passDay ) s0 q.2 := by
    intro l1_1 s2 hf h
    rw [ej_] at h
    obtain ⟨s6, e_, h⟩ := xlt_e h
    replace hf := xfm_uO hf (List.mem_append_left _ (List.mem_of_getElem? (i := 0) rfl)) e_
    clear e_
    cases h; exact hf
  clear ej_
  rcases xif_o h with h | h
  · skip
    obtain ⟨hm_0, h⟩ := xgd_e h
    obtain ⟨s13, e_, h⟩ := xbp_e h
    replace hf := xfm_c hf (fr_X10_planFor e_) (fun q hq => List.mem_append_right _ (hq))
    clear e_
    obtain ⟨r15, -, h⟩ := xbp_e h
    obtain ⟨s16, e_, h⟩ := xlt_e h
    replace hf := xfm_uO hf (List.mem_append_left _ (List.mem_of_getElem? (i := 1) rfl)) e_
    clear e_
    obtain ⟨s18, e_, h⟩ := xlt_e h
    replace hf := xfm_uO hf (List.mem_append_left _ (List.mem_of_getElem? (i := 2) rfl)) e_
    clear e_
    replace h := (xgd_e h).2
    obtain ⟨s21, e_, h⟩ := xlt_e h
    replace hf := xfm_cp hf (List.mem_append_left _ (List.mem_of_getElem? (i := 3) rfl)) e_
    clear e_
    exact hj3 r15 s21 hf h
  · skip
    obtain ⟨s9, e_, h⟩ := xlt_e h
    replace hf := xfm_uO hf (List.mem_append_left _ (List.mem_of_getElem? (i := 4) rfl)) e_
    clear e_
    exact hj3 (-1) s9 hf h
def W_X10_passDays : List (Int × Int) := [] ++ (W_X6_tell_ ++ (W_X10_passDay))
theorem fr_X10_passDays_19 {s0 : xW} {l1_6 : Int} {q : Int × xW} {k : Int → Int → Int → xW → Option (Int × xW)} (hk : ∀ (x0_ : Int) (x1_ : Int) (x2_ : Int) (x3_ : xW), xfm (W_X10_passDays ) s0 x3_ → k x0_ x1_ x2_ x3_ = some q → xfm (W_X10_passDays ) s0 q.2) : ∀ (f : Nat) (l2_7 : Int) (l3_8 : Int) (l4_9 : Int) (s10 : xW), xfm (W_X10_passDays ) s0 s10 → F_X10_passDays_19 l1_6 f l2_7 l3_8 l4_9 s10 k = some q → xfm (W_X10_passDays ) s0 q.2 := by
  intro f
  induction f with
  | zero => intro l2_7 l3_8 l4_9 s10 hf h; cases h
  | succ f ih =>
    intro l2_7 l3_8 l4_9 s10 hf h
    unfold F_X10_passDays_19 at h
    rcases xif_o h with h | h
    · skip
      obtain ⟨r13, s14, e_, h⟩ := xbd_e h
      replace hf := xfm_c hf (fr_X10_passDay e_) (fun q hq => List.mem_append_right _ (List.mem_append_right _ (hq)))
      clear e_
      obtain ⟨v16, -, h⟩ := xlt_e h
      exact ih (l2_7 + (max (xw r13) 0)) (l3_8 + v16) (l4_9 + 1) s14 hf h
    · skip
      exact hk l2_7 l3_8 l4_9 s10 hf h
theorem fr_X10_passDays {a1 : Int} {s0 : xW} {q : Int × xW} (h : F_X10_passDays a1 s0 = some q) : xfm (W_X10_passDays ) s0 q.2 := by
  unfold F_X10_passDays at h
  have hf : xfm (W_X10_passDays ) s0 s0 := xfm_rf
  obtain ⟨j1, ej_, h⟩ := xjn_e h
  have hj1 : j1  = some q → xfm (W_X10_passDays ) s0 q.2 := by
    intro  h
    rw [ej_] at h
    cases h; exact hf
  clear ej_
  rcases xif_o h with h | h
  · skip
    rcases xif_o h with h | h
    · skip
      exact hj1  h
    · skip
      refine fr_X10_passDays_19 (fun l2_23 l3_24 l4_25 s26 hf h => ?_) xN _ _ _ _ hf h
      obtain ⟨s28, e_, h⟩ := xbp_e h
      replace hf := xfm_c hf (fr_X6_tell_ e_) (fun q hq => List.mem_append_right _ (List.mem_append_left _ hq))
      clear e_
      cases h; exact hf
  · skip
    exact hj1  h
def W_X10_deed : List (Int × Int) := [] ++ (W_X10_planToday)
theorem fr_X10_deed {a1 : Int} {a2 : Int} {s0 : xW} {q : Int × xW} (h : F_X10_deed a1 a2 s0 = some q) : xfm (W_X10_deed ) s0 q.2 := by
  unfold F_X10_deed at h
  have hf : xfm (W_X10_deed ) s0 s0 := xfm_rf
  obtain ⟨r2, -, h⟩ := xbp_e h
  obtain ⟨j3, ej_, h⟩ := xjn_e h
  have hj3 : j3  = some q → xfm (W_X10_deed ) s0 q.2 := by
    intro  h
    rw [ej_] at h
    cases h
  clear ej_
  rcases xif_o h with h | h
  · skip
    rcases xif_o h with h | h
    · skip
      rcases xif_o h with h | h
      · skip
        exact hj3  h
      · skip
        obtain ⟨s10, e_, h⟩ := xbp_e h
        replace hf := xfm_c hf (fr_X10_planToday e_) (fun q hq => List.mem_append_right _ (hq))
        clear e_
        rcases xif_o h with h | h
        · skip
          replace h := (xgd_e h).2
          cases h; exact hf
        · skip
          rcases xif_o h with h | h
          · skip
            replace h := (xgd_e h).2
            cases h; exact hf
          · skip
            rcases xif_o h with h | h
            · skip
              replace h := (xgd_e h).2
              cases h; exact hf
            · skip
              rcases xif_o h with h | h
              · skip
                replace h := (xgd_e h).2
                cases h; exact hf
              · skip
                obtain ⟨r20, -, h⟩ := xbp_e h
                cases h; exact hf
    · skip
      exact hj3  h
  · skip
    exact hj3  h
def W_X10_fitsDeed : List (Int × Int) := [(93, -1), (94, -1), (20, -1)]
theorem fr_X10_fitsDeed {a1 : Int} {a2 : Int} {a3 : Int} {s0 : xW} {q : Int × xW} (h : F_X10_fitsDeed a1 a2 a3 s0 = some q) : xfm (W_X10_fitsDeed ) s0 q.2 := by
  unfold F_X10_fitsDeed at h
  have hf : xfm (W_X10_fitsDeed ) s0 s0 := xfm_rf
  rcases xif_o h with h | h
  · skip
    cases h; exact hf
  · skip
    obtain ⟨r3, -, h⟩ := xbp_e h
    rcases xif_o h with h | h
    · skip
      replace h := (xgd_e h).2
      obtain ⟨s38, e_, h⟩ := xlt_e h
      replace hf := xfm_uA hf (List.mem_of_getElem? (i := 0) rfl) e_
      clear e_
      replace h := (xgd_e h).2
      obtain ⟨s41, e_, h⟩ := xlt_e h
      replace hf := xfm_uA hf (List.mem_of_getElem? (i := 1) rfl) e_
      clear e_
      obtain ⟨r44, -, h⟩ := xbp_e h
      replace h := (xgd_e h).2
      cases h; exact hf
    · skip
      rcases xif_o h with h | h
      · skip
        replace h := (xgd_e h).2
        obtain ⟨s30, e_, h⟩ := xlt_e h
        replace hf := xfm_uA hf (List.mem_of_getElem? (i := 2) rfl) e_
        clear e_
        obtain ⟨v33, -, h⟩ := xlt_e h
        replace h := (xgd_e h).2
        cases h; exact hf
      · skip
        obtain ⟨r7, -, h⟩ := xbp_e h
        obtain ⟨j9, ej_, h⟩ := xjn_e h
        have hj9 : ∀ (t8 : Int), j9 t8 = some q → xfm (W_X10_fitsDeed ) s0 q.2 := by
          intro t8 h
          rw [ej_] at h
          obtain ⟨j13, ej_, h⟩ := xjn_e h
          have hj13 : ∀ (s12 : xW), xfm (W_X10_fitsDeed ) s0 s12 → j13 s12 = some q → xfm (W_X10_fitsDeed ) s0 q.2 := by
            intro s12 hf h
            rw [ej_] at h
            replace h := (xgd_e h).2
            cases h; exact hf
          clear ej_
          rcases xif_o h with h | h
          · skip
            replace h := (xgd_e h).2
            replace h := (xgd_e h).2
            obtain ⟨s20, e_, h⟩ := xlt_e h
            replace hf := xfm_uA hf (List.mem_of_getElem? (i := 1) rfl) e_
            clear e_
            exact hj13 s20 hf h
          · skip
            exact hj13 s0 hf h
        clear ej_
        obtain ⟨j22, ej_, h⟩ := xjn_e h
        have hj22 : j22  = some q → xfm (W_X10_fitsDeed ) s0 q.2 := by
          intro  h
          rw [ej_] at h
          exact hj9 0 h
        clear ej_
        rcases xif_o h with h | h
        · skip
          rcases xif_o h with h | h
          · skip
            replace h := (xgd_e h).2
            rcases xif_o h with h | h
            · skip
              exact hj9 1 h
            · skip
              exact hj22  h
          · skip
            exact hj22  h
        · skip
          exact hj22  h
def W_X10_readDeeds : List (Int × Int) := [] ++ (W_X10_fitsDeed)
theorem fr_X10_readDeeds_6 {s0 : xW} {q : Int × xW} {k : Int → Int → Int → xW → Option (Int × xW)} (hk : ∀ (x0_ : Int) (x1_ : Int) (x2_ : Int) (x3_ : xW), xfm (W_X10_readDeeds ) s0 x3_ → k x0_ x1_ x2_ x3_ = some q → xfm (W_X10_readDeeds ) s0 q.2) : ∀ (f : Nat) (l1_1 : Int) (l2_2 : Int) (l3_3 : Int) (s4 : xW), xfm (W_X10_readDeeds ) s0 s4 → F_X10_readDeeds_6  f l1_1 l2_2 l3_3 s4 k = some q → xfm (W_X10_readDeeds ) s0 q.2 := by
  intro f
  induction f with
  | zero => intro l1_1 l2_2 l3_3 s4 hf h; cases h
  | succ f ih =>
    intro l1_1 l2_2 l3_3 s4 hf h
    unfold F_X10_readDeeds_6 at h
    rcases xif_o h with h | h
    · skip
      rcases xif_o h with h | h
      · skip
        cases h; exact hf
      · skip
        obtain ⟨j10, ej_, h⟩ := xjn_e h
        have hj10 : ∀ (l1_7 : Int) (l2_8 : Int) (s9 : xW), xfm (W_X10_readDeeds ) s0 s9 → j10 l1_7 l2_8 s9 = some q → xfm (W_X10_readDeeds ) s0 q.2 := by
          intro l1_7 l2_8 s9 hf h
          rw [ej_] at h
          exact ih l1_7 l2_8 (l3_3 + 1) s9 hf h
        clear ej_
        obtain ⟨j13, ej_, h⟩ := xjn_e h
        have hj13 : j13  = some q → xfm (W_X10_readDeeds ) s0 q.2 := by
          intro  h
          rw [ej_] at h
          obtain ⟨r17, s18, e_, h⟩ := xbd_e h
          replace hf := xfm_c hf (fr_X10_fitsDeed e_) (fun q hq => List.mem_append_right _ (hq))
          clear e_
          rcases xif_o h with h | h
          · skip
            exact hj10 l1_1 (l2_2 + 1) s18 hf h
          · skip
            cases h; exact hf
        clear ej_
        rcases xif_o h with h | h
        · skip
          obtain ⟨r22, -, h⟩ := xbp_e h
          rcases xif_o h with h | h
          · skip
            exact hj10 (l1_1 + 1) 0 s4 hf h
          · skip
            exact hj13  h
        · skip
          exact hj13  h
    · skip
      exact hk l1_1 l2_2 l3_3 s4 hf h
theorem fr_X10_readDeeds {s0 : xW} {q : Int × xW} (h : F_X10_readDeeds  s0 = some q) : xfm (W_X10_readDeeds ) s0 q.2 := by
  unfold F_X10_readDeeds at h
  have hf : xfm (W_X10_readDeeds ) s0 s0 := xfm_rf
  refine fr_X10_readDeeds_6 (fun l1_28 l2_29 l3_30 s31 hf h => ?_) xN _ _ _ _ hf h
  obtain ⟨v33, -, h⟩ := xlt_e h
  cases h; exact hf
def W_X10_forgetPast : List (Int × Int) := [(88, -1)] ++ (W_X3_drop)
theorem fr_X10_forgetPast_9 {s0 : xW} {q : xW} {k : Int → xW → Option (xW)} (hk : ∀ (x0_ : Int) (x1_ : xW), xfm (W_X10_forgetPast ) s0 x1_ → k x0_ x1_ = some q → xfm (W_X10_forgetPast ) s0 q) : ∀ (f : Nat) (l1_3 : Int) (s4 : xW), xfm (W_X10_forgetPast ) s0 s4 → F_X10_forgetPast_9  f l1_3 s4 k = some q → xfm (W_X10_forgetPast ) s0 q := by
  intro f
  induction f with
  | zero => intro l1_3 s4 hf h; cases h
  | succ f ih =>
    intro l1_3 s4 hf h
    unfold F_X10_forgetPast_9 at h
    rcases xif_o h with h | h
    · skip
      replace h := (xgd_e h).2
      obtain ⟨s7, e_, h⟩ := xlt_e h
      replace hf := xfm_uA hf (List.mem_append_left _ (List.mem_of_getElem? (i := 0) rfl)) e_
      clear e_
      exact ih (l1_3 + 1) s7 hf h
    · skip
      exact hk l1_3 s4 hf h
theorem fr_X10_forgetPast {s0 : xW} {q : xW} (h : F_X10_forgetPast  s0 = some q) : xfm (W_X10_forgetPast ) s0 q := by
  unfold F_X10_forgetPast at h
  have hf : xfm (W_X10_forgetPast ) s0 s0 := xfm_rf
  obtain ⟨s2, e_, h⟩ := xbp_e h
  replace hf := xfm_c hf (fr_X3_drop e_) (fun q hq => List.mem_append_right _ (hq))
  clear e_
  refine fr_X10_forgetPast_9 (fun l1_11 s12 hf h => ?_) xN _ _ hf h
  cases h; exact hf
def W_X10_deeds : List (Int × Int) := [(92, 0)] ++ (W_X8_clear ++ (W_X10_forgetPast ++ (W_X10_readDeeds)))
theorem fr_X10_deeds {s0 : xW} {q : Int × xW} (h : F_X10_deeds  s0 = some q) : xfm (W_X10_deeds ) s0 q.2 := by
  unfold F_X10_deeds at h
  have hf : xfm (W_X10_deeds ) s0 s0 := xfm_rf
  obtain ⟨j3, ej_, h⟩ := xjn_e h
  have hj3 : ∀ (t1 : Int) (s2 : xW), xfm (W_X10_deeds ) s0 s2 → j3 t1 s2 = some q → xfm (W_X10_deeds ) s0 q.2 := by
    intro t1 s2 hf h
    rw [ej_] at h
    obtain ⟨j7, ej_, h⟩ := xjn_e h
    have hj7 : ∀ (s6 : xW), xfm (W_X10_deeds ) s0 s6 → j7 s6 = some q → xfm (W_X10_deeds ) s0 q.2 := by
      intro s6 hf h
      rw [ej_] at h
      obtain ⟨s11, e_, h⟩ := xbp_e h
      replace hf := xfm_c hf (fr_X8_clear e_) (fun q hq => List.mem_append_right _ (List.mem_append_left _ hq))
      clear e_
      cases h; exact hf
    clear ej_
    rcases xif_o h with h | h
    · skip
      obtain ⟨s13, e_, h⟩ := xlt_e h
      replace hf := xfm_uO hf (List.mem_append_left _ (List.mem_of_getElem? (i := 0) rfl)) e_
      clear e_
      obtain ⟨s16, e_, h⟩ := xbp_e h
      replace hf := xfm_c hf (fr_X10_forgetPast e_) (fun q hq => List.mem_append_right _ (List.mem_append_right _ (List.mem_append_left _ hq)))
      clear e_
      exact hj7 s16 hf h
    · skip
      exact hj7 s2 hf h
  clear ej_
  rcases xif_o h with h | h
  · skip
    exact hj3 0 s0 hf h
  · skip
    obtain ⟨r19, s20, e_, h⟩ := xbd_e h
    replace hf := xfm_c hf (fr_X10_readDeeds e_) (fun q hq => List.mem_append_right _ (List.mem_append_right _ (List.mem_append_right _ (hq))))
    clear e_
    exact hj3 r19 s20 hf h
def W_X10_haul : List (Int × Int) := [(17, 0)]
theorem fr_X10_haul {a1 : Int} {a2 : Int} {s0 : xW} {q : Int × xW} (h : F_X10_haul a1 a2 s0 = some q) : xfm (W_X10_haul ) s0 q.2 := by
  unfold F_X10_haul at h
  have hf : xfm (W_X10_haul ) s0 s0 := xfm_rf
  obtain ⟨r2, -, h⟩ := xbp_e h
  rcases xif_o h with h | h
  · skip
    cases h; exact hf
  · skip
    obtain ⟨r5, -, h⟩ := xbp_e h
    obtain ⟨s6, e_, h⟩ := xlt_e h
    replace hf := xfm_uO hf (List.mem_of_getElem? (i := 0) rfl) e_
    clear e_
    obtain ⟨v9, -, h⟩ := xlt_e h
    cases h; exact hf
def W_X10_move : List (Int × Int) := [(18, -1)]
theorem fr_X10_move {a1 : Int} {a2 : Int} {a3 : Int} {s0 : xW} {q : Int × xW} (h : F_X10_move a1 a2 a3 s0 = some q) : xfm (W_X10_move ) s0 q.2 := by
  unfold F_X10_move at h
  have hf : xfm (W_X10_move ) s0 s0 := xfm_rf
  obtain ⟨r2, -, h⟩ := xbp_e h
  obtain ⟨j3, ej_, h⟩ := xjn_e h
  have hj3 : j3  = some q → xfm (W_X10_move ) s0 q.2 := by
    intro  h
    rw [ej_] at h
    cases h; exact hf
  clear ej_
  rcases xif_o h with h | h
  · skip
    obtain ⟨r8, -, h⟩ := xbp_e h
    rcases xif_o h with h | h
    · skip
      exact hj3  h
    · skip
      replace h := (xgd_e h).2
      obtain ⟨r12, -, h⟩ := xbp_e h
      replace h := (xgd_e h).2
      obtain ⟨s14, e_, h⟩ := xlt_e h
      replace hf := xfm_uA hf (List.mem_of_getElem? (i := 0) rfl) e_
      clear e_
      obtain ⟨v17, -, h⟩ := xlt_e h
      cases h; exact hf
  · skip
    exact hj3  h
def W_X10_lengthen : List (Int × Int) := [(20, -1)]
theorem fr_X10_lengthen {a1 : Int} {a2 : Int} {s0 : xW} {q : Int × xW} (h : F_X10_lengthen a1 a2 s0 = some q) : xfm (W_X10_lengthen ) s0 q.2 := by
  unfold F_X10_lengthen at h
  have hf : xfm (W_X10_lengthen ) s0 s0 := xfm_rf
  obtain ⟨r2, -, h⟩ := xbp_e h
  obtain ⟨j3, ej_, h⟩ := xjn_e h
  have hj3 : j3  = some q → xfm (W_X10_lengthen ) s0 q.2 := by
    intro  h
    rw [ej_] at h
    cases h; exact hf
  clear ej_
  rcases xif_o h with h | h
  · skip
    rcases xif_o h with h | h
    · skip
      rcases xif_o h with h | h
      · skip
        exact hj3  h
      · skip
        replace h := (xgd_e h).2
        replace h := (xgd_e h).2
        obtain ⟨s11, e_, h⟩ := xlt_e h
        replace hf := xfm_uA hf (List.mem_of_getElem? (i := 0) rfl) e_
        clear e_
        obtain ⟨v14, -, h⟩ := xlt_e h
        cases h; exact hf
    · skip
      exact hj3  h
  · skip
    exact hj3  h
def W_X10_doAct : List (Int × Int) := [] ++ (W_X10_buy ++ (W_X10_haul ++ (W_X10_move ++ (W_X10_passDays ++ (W_X10_lengthen)))))
theorem fr_X10_doAct {a1 : Int} {s0 : xW} {q : Int × xW} (h : F_X10_doAct a1 s0 = some q) : xfm (W_X10_doAct ) s0 q.2 := by
  unfold F_X10_doAct at h
  have hf : xfm (W_X10_doAct ) s0 s0 := xfm_rf
  obtain ⟨r2, -, h⟩ := xbp_e h
  obtain ⟨r4, -, h⟩ := xbp_e h
  obtain ⟨r6, -, h⟩ := xbp_e h
  rcases xif_o h with h | h
  · skip
    obtain ⟨r9, s10, e_, h⟩ := xbd_e h
    replace hf := xfm_c hf (fr_X10_buy e_) (fun q hq => List.mem_append_right _ (List.mem_append_left _ hq))
    clear e_
    cases h; exact hf
  · skip
    rcases xif_o h with h | h
    · skip
      obtain ⟨r13, s14, e_, h⟩ := xbd_e h
      replace hf := xfm_c hf (fr_X10_haul e_) (fun q hq => List.mem_append_right _ (List.mem_append_right _ (List.mem_append_left _ hq)))
      clear e_
      cases h; exact hf
    · skip
      rcases xif_o h with h | h
      · skip
        obtain ⟨r17, -, h⟩ := xbp_e h
        obtain ⟨r19, s20, e_, h⟩ := xbd_e h
        replace hf := xfm_c hf (fr_X10_move e_) (fun q hq => List.mem_append_right _ (List.mem_append_right _ (List.mem_append_right _ (List.mem_append_left _ hq))))
        clear e_
        cases h; exact hf
      · skip
        rcases xif_o h with h | h
        · skip
          obtain ⟨r23, s24, e_, h⟩ := xbd_e h
          replace hf := xfm_c hf (fr_X10_passDays e_) (fun q hq => List.mem_append_right _ (List.mem_append_right _ (List.mem_append_right _ (List.mem_append_right _ (List.mem_append_left _ hq)))))
          clear e_
          cases h; exact hf
        · skip
          obtain ⟨r26, s27, e_, h⟩ := xbd_e h
          replace hf := xfm_c hf (fr_X10_lengthen e_) (fun q hq => List.mem_append_right _ (List.mem_append_right _ (List.mem_append_right _ (List.mem_append_right _ (List.mem_append_right _ (hq))))))
          clear e_
          cases h; exact hf
def W_X10_draw : List (Int × Int) := [(0, 15)]
theorem fr_X10_draw {a1 : Int} {s0 : xW} {q : Int × xW} (h : F_X10_draw a1 s0 = some q) : xfm (W_X10_draw ) s0 q.2 := by
  unfold F_X10_draw at h
  have hf : xfm (W_X10_draw ) s0 s0 := xfm_rf
  obtain ⟨s1, e_, h⟩ := xlt_e h
  replace hf := xfm_uO hf (List.mem_of_getElem? (i := 0) rfl) e_
  clear e_
  obtain ⟨j4, ej_, h⟩ := xjn_e h
  have hj4 : ∀ (t3 : Int), j4 t3 = some q → xfm (W_X10_draw ) s0 q.2 := by
    intro t3 h
    rw [ej_] at h
    cases h; exact hf
  clear ej_
  rcases xif_o h with h | h
  · skip
    replace h := (xgd_e h).2
    exact hj4 (Int.tmod (xw (xushr (s1 0 15) 16)) (xw a1)) h
  · skip
    exact hj4 0 h
def W_X10_minuteOfEcho : List (Int × Int) := [] ++ (W_X0_on ++ (W_X0_minute))
theorem fr_X10_minuteOfEcho {a1 : Int} {s0 : xW} {q : Int × xW} (h : F_X10_minuteOfEcho a1 s0 = some q) : xfm (W_X10_minuteOfEcho ) s0 q.2 := by
  unfold F_X10_minuteOfEcho at h
  have hf : xfm (W_X10_minuteOfEcho ) s0 s0 := xfm_rf
  replace h := (xgd_e h).2
  obtain ⟨r3, -, h⟩ := xbp_e h
  obtain ⟨r5, -, h⟩ := xbp_e h
  obtain ⟨r7, -, h⟩ := xbp_e h
  obtain ⟨r9, -, h⟩ := xbp_e h
  obtain ⟨s11, e_, h⟩ := xbp_e h
  replace hf := xfm_c hf (fr_X0_on e_) (fun q hq => List.mem_append_right _ (List.mem_append_left _ hq))
  clear e_
  obtain ⟨hm_0, h⟩ := xgd_e h
  obtain ⟨r14, s15, e_, h⟩ := xbd_e h
  replace hf := xfm_c hf (fr_X0_minute e_) (fun q hq => List.mem_append_right _ (List.mem_append_right _ (hq)))
  clear e_
  cases h; exact hf
def W_X10_echo : List (Int × Int) := [] ++ (W_X10_planToday ++ (W_X10_minuteOfEcho ++ (W_X6_tell)))
theorem fr_X10_echo_25 {s0 : xW} {l1_9 : Int} {l2_10 : Int} {s13 : xW} (hf : xfm (W_X10_echo ) s0 s13) {q : Int × xW} {k : Int → Int → Option (Int × xW)} (hk : ∀ (x0_ : Int) (x1_ : Int), k x0_ x1_ = some q → xfm (W_X10_echo ) s0 q.2) : ∀ (f : Nat) (l3_11 : Int) (l4_12 : Int), F_X10_echo_25 l1_9 l2_10 s13 f l3_11 l4_12 k = some q → xfm (W_X10_echo ) s0 q.2 := by
  intro f
  induction f with
  | zero => intro l3_11 l4_12 h; cases h
  | succ f ih =>
    intro l3_11 l4_12 h
    unfold F_X10_echo_25 at h
    rcases xif_o h with h | h
    · skip
      replace h := (xgd_e h).2
      obtain ⟨v17, -, h⟩ := xlt_e h
      exact ih (xor' l3_11 v17) (l4_12 + 1) h
    · skip
      exact hk l3_11 l4_12 h
theorem fr_X10_echo {a1 : Int} {s0 : xW} {q : Int × xW} (h : F_X10_echo a1 s0 = some q) : xfm (W_X10_echo ) s0 q.2 := by
  unfold F_X10_echo at h
  have hf : xfm (W_X10_echo ) s0 s0 := xfm_rf
  obtain ⟨r2, -, h⟩ := xbp_e h
  rcases xif_o h with h | h
  · skip
    cases h; exact hf
  · skip
    obtain ⟨s5, e_, h⟩ := xbp_e h
    replace hf := xfm_c hf (fr_X10_planToday e_) (fun q hq => List.mem_append_right _ (List.mem_append_left _ hq))
    clear e_
    obtain ⟨r7, s8, e_, h⟩ := xbd_e h
    replace hf := xfm_c hf (fr_X10_minuteOfEcho e_) (fun q hq => List.mem_append_right _ (List.mem_append_right _ (List.mem_append_left _ hq)))
    clear e_
    refine fr_X10_echo_25 hf (fun l3_22 l4_23 h => ?_) xN _ _ h
    obtain ⟨s25, e_, h⟩ := xbp_e h
    replace hf := xfm_c hf (fr_X6_tell e_) (fun q hq => List.mem_append_right _ (List.mem_append_right _ (List.mem_append_right _ (hq))))
    clear e_
    replace h := (xgd_e h).2
    cases h; exact hf
def W_X8_cut : List (Int × Int) := [(1, 1)]
theorem fr_X8_cut {a1 : Int} {s0 : xW} {q : Int × xW} (h : F_X8_cut a1 s0 = some q) : xfm (W_X8_cut ) s0 q.2 := by
  unfold F_X8_cut at h
  have hf : xfm (W_X8_cut ) s0 s0 := xfm_rf
  obtain ⟨j1, ej_, h⟩ := xjn_e h
  have hj1 : j1  = some q → xfm (W_X8_cut ) s0 q.2 := by
    intro  h
    rw [ej_] at h
    cases h; exact hf
  clear ej_
  rcases xif_o h with h | h
  · skip
    rcases xif_o h with h | h
    · skip
      exact hj1  h
    · skip
      obtain ⟨s6, e_, h⟩ := xlt_e h
      replace hf := xfm_uO hf (List.mem_of_getElem? (i := 0) rfl) e_
      clear e_
      cases h; exact hf
  · skip
    exact hj1  h
def W_X10_end : List (Int × Int) := [] ++ (W_X8_cut)
theorem fr_X10_end {a1 : Int} {s0 : xW} {q : Int × xW} (h : F_X10_end a1 s0 = some q) : xfm (W_X10_end ) s0 q.2 := by
  unfold F_X10_end at h
  have hf : xfm (W_X10_end ) s0 s0 := xfm_rf
  obtain ⟨r2, s3, e_, h⟩ := xbd_e h
  replace hf := xfm_c hf (fr_X8_cut e_) (fun q hq => List.mem_append_right _ (hq))
  clear e_
  replace h := (xgd_e h).2
  cases h; exact hf
def W_X10_findFoes : List (Int × Int) := [(107, -1)] ++ (W_X10_planToday)
theorem fr_X10_findFoes_6 {s0 : xW} {q : Int × xW} {k : Int → xW → Option (Int × xW)} (hk : ∀ (x0_ : Int) (x1_ : xW), xfm (W_X10_findFoes ) s0 x1_ → k x0_ x1_ = some q → xfm (W_X10_findFoes ) s0 q.2) : ∀ (f : Nat) (l1_3 : Int) (s4 : xW), xfm (W_X10_findFoes ) s0 s4 → F_X10_findFoes_6  f l1_3 s4 k = some q → xfm (W_X10_findFoes ) s0 q.2 := by
  intro f
  induction f with
  | zero => intro l1_3 s4 hf h; cases h
  | succ f ih =>
    intro l1_3 s4 hf h
    unfold F_X10_findFoes_6 at h
    rcases xif_o h with h | h
    · skip
      obtain ⟨r7, -, h⟩ := xbp_e h
      replace h := (xgd_e h).2
      obtain ⟨s9, e_, h⟩ := xlt_e h
      replace hf := xfm_uA hf (List.mem_append_left _ (List.mem_of_getElem? (i := 0) rfl)) e_
      clear e_
      exact ih (l1_3 + 1) s9 hf h
    · skip
      exact hk l1_3 s4 hf h
theorem fr_X10_findFoes {s0 : xW} {q : Int × xW} (h : F_X10_findFoes  s0 = some q) : xfm (W_X10_findFoes ) s0 q.2 := by
  unfold F_X10_findFoes at h
  have hf : xfm (W_X10_findFoes ) s0 s0 := xfm_rf
  obtain ⟨s2, e_, h⟩ := xbp_e h
  replace hf := xfm_c hf (fr_X10_planToday e_) (fun q hq => List.mem_append_right _ (hq))
  clear e_
  refine fr_X10_findFoes_6 (fun l1_13 s14 hf h => ?_) xN _ _ hf h
  cases h; exact hf
def W_X10_fewest : List (Int × Int) := [] ++ (W_X10_findFoes ++ (W_X6_tell))
theorem fr_X10_fewest_20 {s0 : xW} {l1_4 : Int} {s8 : xW} (hf : xfm (W_X10_fewest ) s0 s8) {q : Int × xW} {k : Int → Int → Int → Option (Int × xW)} (hk : ∀ (x0_ : Int) (x1_ : Int) (x2_ : Int), k x0_ x1_ x2_ = some q → xfm (W_X10_fewest ) s0 q.2) : ∀ (f : Nat) (l2_5 : Int) (l3_6 : Int) (l4_7 : Int), F_X10_fewest_20 l1_4 s8 f l2_5 l3_6 l4_7 k = some q → xfm (W_X10_fewest ) s0 q.2 := by
  intro f
  induction f with
  | zero => intro l2_5 l3_6 l4_7 h; cases h
  | succ f ih =>
    intro l2_5 l3_6 l4_7 h
    unfold F_X10_fewest_20 at h
    rcases xif_o h with h | h
    · skip
      obtain ⟨j12, ej_, h⟩ := xjn_e h
      have hj12 : ∀ (l2_10 : Int) (l3_11 : Int), j12 l2_10 l3_11 = some q → xfm (W_X10_fewest ) s0 q.2 := by
        intro l2_10 l3_11 h
        rw [ej_] at h
        exact ih l2_10 l3_11 (l4_7 + 1) h
      clear ej_
      rcases xif_o h with h | h
      · skip
        obtain ⟨r17, -, h⟩ := xbp_e h
        rcases xif_o h with h | h
        · skip
          exact hj12 (xbc l4_7) l4_7 h
        · skip
          exact hj12 l2_5 l3_6 h
      · skip
        exact hj12 l2_5 l3_6 h
    · skip
      exact hk l2_5 l3_6 l4_7 h
theorem fr_X10_fewest {s0 : xW} {q : Int × xW} (h : F_X10_fewest  s0 = some q) : xfm (W_X10_fewest ) s0 q.2 := by
  unfold F_X10_fewest at h
  have hf : xfm (W_X10_fewest ) s0 s0 := xfm_rf
  obtain ⟨r2, s3, e_, h⟩ := xbd_e h
  replace hf := xfm_c hf (fr_X10_findFoes e_) (fun q hq => List.mem_append_right _ (List.mem_append_left _ hq))
  clear e_
  refine fr_X10_fewest_20 hf (fun l2_22 l3_23 l4_24 h => ?_) xN _ _ _ h
  obtain ⟨s26, e_, h⟩ := xbp_e h
  replace hf := xfm_c hf (fr_X6_tell e_) (fun q hq => List.mem_append_right _ (List.mem_append_right _ (hq)))
  clear e_
  cases h; exact hf
def W_X10_findNear : List (Int × Int) := [(107, -1)]
theorem fr_X10_findNear_19 {s0 : xW} {l1_8 : Int} {l2_9 : Int} {q : Int × xW} {k : Int → xW → Option (Int × xW)} (hk : ∀ (x0_ : Int) (x1_ : xW), xfm (W_X10_findNear ) s0 x1_ → k x0_ x1_ = some q → xfm (W_X10_findNear ) s0 q.2) : ∀ (f : Nat) (l3_10 : Int) (s11 : xW), xfm (W_X10_findNear ) s0 s11 → F_X10_findNear_19 l1_8 l2_9 f l3_10 s11 k = some q → xfm (W_X10_findNear ) s0 q.2 := by
  intro f
  induction f with
  | zero => intro l3_10 s11 hf h; cases h
  | succ f ih =>
    intro l3_10 s11 hf h
    unfold F_X10_findNear_19 at h
    rcases xif_o h with h | h
    · skip
      replace h := (xgd_e h).2
      replace h := (xgd_e h).2
      replace h := (xgd_e h).2
      obtain ⟨r17, -, h⟩ := xbp_e h
      obtain ⟨v19, -, h⟩ := xlt_e h
      replace h := (xgd_e h).2
      obtain ⟨s23, e_, h⟩ := xlt_e h
      replace hf := xfm_uA hf (List.mem_of_getElem? (i := 0) rfl) e_
      clear e_
      exact ih (l3_10 + 1) s23 hf h
    · skip
      exact hk l3_10 s11 hf h
theorem fr_X10_findNear_2 {s0 : xW} {l1_1 : Int} {q : Int × xW} {k : Int → xW → Option (Int × xW)} (hk : ∀ (x0_ : Int) (x1_ : xW), xfm (W_X10_findNear ) s0 x1_ → k x0_ x1_ = some q → xfm (W_X10_findNear ) s0 q.2) : ∀ (f : Nat) (l2_2 : Int) (s3 : xW), xfm (W_X10_findNear ) s0 s3 → F_X10_findNear_2 l1_1 f l2_2 s3 k = some q → xfm (W_X10_findNear ) s0 q.2 := by
  intro f
  induction f with
  | zero => intro l2_2 s3 hf h; cases h
  | succ f ih =>
    intro l2_2 s3 hf h
    unfold F_X10_findNear_2 at h
    rcases xif_o h with h | h
    · skip
      replace h := (xgd_e h).2
      obtain ⟨s6, e_, h⟩ := xlt_e h
      replace hf := xfm_uA hf (List.mem_of_getElem? (i := 0) rfl) e_
      clear e_
      refine fr_X10_findNear_19 (fun l3_27 s28 hf h => ?_) xN _ _ hf h
      exact ih (l2_2 + 1) s28 hf h
    · skip
      exact hk l2_2 s3 hf h
theorem fr_X10_findNear {a1 : Int} {s0 : xW} {q : Int × xW} (h : F_X10_findNear a1 s0 = some q) : xfm (W_X10_findNear ) s0 q.2 := by
  unfold F_X10_findNear at h
  have hf : xfm (W_X10_findNear ) s0 s0 := xfm_rf
  refine fr_X10_findNear_2 (fun l2_31 s32 hf h => ?_) xN _ _ hf h
  cases h; exact hf
def W_X10_fireOnce : List (Int × Int) := [(108, -1)]
theorem fr_X10_fireOnce_17 {s0 : xW} {l2_3 : Int} {l3_4 : Int} {q : xW} {k : Int → xW → Option (xW)} (hk : ∀ (x0_ : Int) (x1_ : xW), xfm (W_X10_fireOnce ) s0 x1_ → k x0_ x1_ = some q → xfm (W_X10_fireOnce ) s0 q) : ∀ (f : Nat) (l5_5 : Int) (s6 : xW), xfm (W_X10_fireOnce ) s0 s6 → F_X10_fireOnce_17 l2_3 l3_4 f l5_5 s6 k = some q → xfm (W_X10_fireOnce ) s0 q := by
  intro f
  induction f with
  | zero => intro l5_5 s6 hf h; cases h
  | succ f ih =>
    intro l5_5 s6 hf h
    unfold F_X10_fireOnce_17 at h
    rcases xif_o h with h | h
    · skip
      replace h := (xgd_e h).2
      replace h := (xgd_e h).2
      obtain ⟨s10, e_, h⟩ := xlt_e h
      replace hf := xfm_uA hf (List.mem_of_getElem? (i := 0) rfl) e_
      clear e_
      exact ih (l5_5 + (-1)) s10 hf h
    · skip
      exact hk l5_5 s6 hf h
theorem fr_X10_fireOnce {a1 : Int} {a2 : Int} {s0 : xW} {q : xW} (h : F_X10_fireOnce a1 a2 s0 = some q) : xfm (W_X10_fireOnce ) s0 q := by
  unfold F_X10_fireOnce at h
  have hf : xfm (W_X10_fireOnce ) s0 s0 := xfm_rf
  obtain ⟨r2, -, h⟩ := xbp_e h
  refine fr_X10_fireOnce_17 (fun l5_14 s15 hf h => ?_) xN _ _ hf h
  obtain ⟨s16, e_, h⟩ := xlt_e h
  replace hf := xfm_uA hf (List.mem_of_getElem? (i := 0) rfl) e_
  clear e_
  cases h; exact hf
def W_X10_fits : List (Int × Int) := [] ++ (W_X10_findWeathers ++ (W_X6_clear ++ (W_X6_tell_)))
theorem fr_X10_fits {s0 : xW} {q : Int × xW} (h : F_X10_fits  s0 = some q) : xfm (W_X10_fits ) s0 q.2 := by
  unfold F_X10_fits at h
  have hf : xfm (W_X10_fits ) s0 s0 := xfm_rf
  obtain ⟨r2, s3, e_, h⟩ := xbd_e h
  replace hf := xfm_c hf (fr_X10_findWeathers e_) (fun q hq => List.mem_append_right _ (List.mem_append_left _ hq))
  clear e_
  obtain ⟨s5, e_, h⟩ := xbp_e h
  replace hf := xfm_c hf (fr_X6_clear e_) (fun q hq => List.mem_append_right _ (List.mem_append_right _ (List.mem_append_left _ hq)))
  clear e_
  obtain ⟨j7, ej_, h⟩ := xjn_e h
  have hj7 : ∀ (s6 : xW), xfm (W_X10_fits ) s0 s6 → j7 s6 = some q → xfm (W_X10_fits ) s0 q.2 := by
    intro s6 hf h
    rw [ej_] at h
    cases h; exact hf
  clear ej_
  rcases xif_o h with h | h
  · skip
    obtain ⟨s12, e_, h⟩ := xbp_e h
    replace hf := xfm_c hf (fr_X6_tell_ e_) (fun q hq => List.mem_append_right _ (List.mem_append_right _ (List.mem_append_right _ (hq))))
    clear e_
    exact hj7 s12 hf h
  · skip
    exact hj7 s5 hf h
def W_X10_fitsHouse : List (Int × Int) := [(18, -1), (19, -1)]
theorem fr_X10_fitsHouse {a1 : Int} {s0 : xW} {q : Int × xW} (h : F_X10_fitsHouse a1 s0 = some q) : xfm (W_X10_fitsHouse ) s0 q.2 := by
  unfold F_X10_fitsHouse at h
  have hf : xfm (W_X10_fitsHouse ) s0 s0 := xfm_rf
  obtain ⟨r2, -, h⟩ := xbp_e h
  rcases xif_o h with h | h
  · skip
    obtain ⟨r25, -, h⟩ := xbp_e h
    obtain ⟨v27, -, h⟩ := xlt_e h
    replace h := (xgd_e h).2
    cases h; exact hf
  · skip
    obtain ⟨j4, ej_, h⟩ := xjn_e h
    have hj4 : j4  = some q → xfm (W_X10_fitsHouse ) s0 q.2 := by
      intro  h
      rw [ej_] at h
      cases h; exact hf
    clear ej_
    rcases xif_o h with h | h
    · skip
      rcases xif_o h with h | h
      · skip
        exact hj4  h
      · skip
        obtain ⟨j10, ej_, h⟩ := xjn_e h
        have hj10 : ∀ (s9 : xW), xfm (W_X10_fitsHouse ) s0 s9 → j10 s9 = some q → xfm (W_X10_fitsHouse ) s0 q.2 := by
          intro s9 hf h
          rw [ej_] at h
          cases h; exact hf
        clear ej_
        rcases xif_o h with h | h
        · skip
          replace h := (xgd_e h).2
          obtain ⟨s19, e_, h⟩ := xlt_e h
          replace hf := xfm_uA hf (List.mem_of_getElem? (i := 0) rfl) e_
          clear e_
          replace h := (xgd_e h).2
          obtain ⟨s22, e_, h⟩ := xlt_e h
          replace hf := xfm_uA hf (List.mem_of_getElem? (i := 1) rfl) e_
          clear e_
          exact hj10 s22 hf h
        · skip
          replace h := (xgd_e h).2
          replace h := (xgd_e h).2
          obtain ⟨s16, e_, h⟩ := xlt_e h
          replace hf := xfm_uA hf (List.mem_of_getElem? (i := 0) rfl) e_
          clear e_
          exact hj10 s16 hf h
    · skip
      exact hj4  h
def W_X10_forget : List (Int × Int) := [(100, 2)]
theorem fr_X10_forget {s0 : xW} {q : Int × xW} (h : F_X10_forget  s0 = some q) : xfm (W_X10_forget ) s0 q.2 := by
  unfold F_X10_forget at h
  have hf : xfm (W_X10_forget ) s0 s0 := xfm_rf
  obtain ⟨s1, e_, h⟩ := xlt_e h
  replace hf := xfm_uO hf (List.mem_of_getElem? (i := 0) rfl) e_
  clear e_
  cases h; exact hf
def W_X2_findLosing : List (Int × Int) := [(106, -1)]
theorem fr_X2_findLosing_32 {s0 : xW} {l1_9 : Int} {l2_10 : Int} {l3_11 : Int} {q : xW} {k : Int → xW → Option (xW)} (hk : ∀ (x0_ : Int) (x1_ : xW), xfm (W_X2_findLosing ) s0 x1_ → k x0_ x1_ = some q → xfm (W_X2_findLosing ) s0 q) : ∀ (f : Nat) (l4_12 : Int) (s13 : xW), xfm (W_X2_findLosing ) s0 s13 → F_X2_findLosing_32 l1_9 l2_10 l3_11 f l4_12 s13 k = some q → xfm (W_X2_findLosing ) s0 q := by
  intro f
  induction f with
  | zero => intro l4_12 s13 hf h; cases h
  | succ f ih =>
    intro l4_12 s13 hf h
    unfold F_X2_findLosing_32 at h
    rcases xif_o h with h | h
    · skip
      replace h := (xgd_e h).2
      obtain ⟨v18, -, h⟩ := xlt_e h
      obtain ⟨j22, ej_, h⟩ := xjn_e h
      have hj22 : ∀ (s21 : xW), xfm (W_X2_findLosing ) s0 s21 → j22 s21 = some q → xfm (W_X2_findLosing ) s0 q := by
        intro s21 hf h
        rw [ej_] at h
        exact ih (l4_12 + 1) s21 hf h
      clear ej_
      rcases xif_o h with h | h
      · skip
        rcases xif_o h with h | h
        · skip
          replace h := (xgd_e h).2
          replace h := (xgd_e h).2
          obtain ⟨s29, e_, h⟩ := xlt_e h
          replace hf := xfm_uA hf (List.mem_of_getElem? (i := 0) rfl) e_
          clear e_
          exact hj22 s29 hf h
        · skip
          exact hj22 s13 hf h
      · skip
        exact hj22 s13 hf h
    · skip
      exact hk l4_12 s13 hf h
theorem fr_X2_findLosing_4 {s0 : xW} {q : xW} {k : Int → Int → xW → Option (xW)} (hk : ∀ (x0_ : Int) (x1_ : Int) (x2_ : xW), xfm (W_X2_findLosing ) s0 x2_ → k x0_ x1_ x2_ = some q → xfm (W_X2_findLosing ) s0 q) : ∀ (f : Nat) (l1_1 : Int) (l2_2 : Int) (s3 : xW), xfm (W_X2_findLosing ) s0 s3 → F_X2_findLosing_4  f l1_1 l2_2 s3 k = some q → xfm (W_X2_findLosing ) s0 q := by
  intro f
  induction f with
  | zero => intro l1_1 l2_2 s3 hf h; cases h
  | succ f ih =>
    intro l1_1 l2_2 s3 hf h
    unfold F_X2_findLosing_4 at h
    rcases xif_o h with h | h
    · skip
      obtain ⟨j6, ej_, h⟩ := xjn_e h
      have hj6 : ∀ (t5 : Int), j6 t5 = some q → xfm (W_X2_findLosing ) s0 q := by
        intro t5 h
        rw [ej_] at h
        refine fr_X2_findLosing_32 (fun l4_33 s34 hf h => ?_) xN _ _ hf h
        replace h := (xgd_e h).2
        exact ih (xor' l1_1 (s34 106 l2_2)) (l2_2 + 1) s34 hf h
      clear ej_
      rcases xif_o h with h | h
      · skip
        replace h := (xgd_e h).2
        exact hj6 (xshl (s3 106 (l2_2 - 1)) 1) h
      · skip
        exact hj6 0 h
    · skip
      exact hk l1_1 l2_2 s3 hf h
theorem fr_X2_findLosing {s0 : xW} {q : xW} (h : F_X2_findLosing  s0 = some q) : xfm (W_X2_findLosing ) s0 q := by
  unfold F_X2_findLosing at h
  have hf : xfm (W_X2_findLosing ) s0 s0 := xfm_rf
  refine fr_X2_findLosing_4 (fun l1_41 l2_42 s43 hf h => ?_) xN _ _ _ hf h
  cases h; exact hf
def W_X2_loses : List (Int × Int) := [(105, 1)] ++ (W_X2_findLosing)
theorem fr_X2_loses {a1 : Int} {a2 : Int} {s0 : xW} {q : Int × xW} (h : F_X2_loses a1 a2 s0 = some q) : xfm (W_X2_loses ) s0 q.2 := by
  unfold F_X2_loses at h
  have hf : xfm (W_X2_loses ) s0 s0 := xfm_rf
  obtain ⟨j2, ej_, h⟩ := xjn_e h
  have hj2 : ∀ (s1 : xW), xfm (W_X2_loses ) s0 s1 → j2 s1 = some q → xfm (W_X2_loses ) s0 q.2 := by
    intro s1 hf h
    rw [ej_] at h
    replace h := (xgd_e h).2
    obtain ⟨v7, -, h⟩ := xlt_e h
    replace h := (xgd_e h).2
    cases h; exact hf
  clear ej_
  rcases xif_o h with h | h
  · skip
    obtain ⟨s13, e_, h⟩ := xbp_e h
    replace hf := xfm_c hf (fr_X2_findLosing e_) (fun q hq => List.mem_append_right _ (hq))
    clear e_
    obtain ⟨s14, e_, h⟩ := xlt_e h
    replace hf := xfm_uO hf (List.mem_append_left _ (List.mem_of_getElem? (i := 0) rfl)) e_
    clear e_
    exact hj2 s14 hf h
  · skip
    exact hj2 s0 hf h
def W_X10_forts : List (Int × Int) := [] ++ (W_X6_clear ++ (W_X2_loses ++ (W_X6_tell_)))
theorem fr_X10_forts_50 {s0 : xW} {l1_18 : Int} {l2_19 : Int} {l3_20 : Int} {q : Int × xW} {k : Int → xW → Option (Int × xW)} (hk : ∀ (x0_ : Int) (x1_ : xW), xfm (W_X10_forts ) s0 x1_ → k x0_ x1_ = some q → xfm (W_X10_forts ) s0 q.2) : ∀ (f : Nat) (l4_21 : Int) (s22 : xW), xfm (W_X10_forts ) s0 s22 → F_X10_forts_50 l1_18 l2_19 l3_20 f l4_21 s22 k = some q → xfm (W_X10_forts ) s0 q.2 := by
  intro f
  induction f with
  | zero => intro l4_21 s22 hf h; cases h
  | succ f ih =>
    intro l4_21 s22 hf h
    unfold F_X10_forts_50 at h
    rcases xif_o h with h | h
    · skip
      obtain ⟨r25, -, h⟩ := xbp_e h
      obtain ⟨j27, ej_, h⟩ := xjn_e h
      have hj27 : ∀ (s26 : xW), xfm (W_X10_forts ) s0 s26 → j27 s26 = some q → xfm (W_X10_forts ) s0 q.2 := by
        intro s26 hf h
        rw [ej_] at h
        exact ih (l4_21 + 1) s26 hf h
      clear ej_
      rcases xif_o h with h | h
      · skip
        obtain ⟨r32, s33, e_, h⟩ := xbd_e h
        replace hf := xfm_c hf (fr_X2_loses e_) (fun q hq => List.mem_append_right _ (List.mem_append_right _ (List.mem_append_left _ hq)))
        clear e_
        rcases xif_o h with h | h
        · skip
          obtain ⟨s36, e_, h⟩ := xbp_e h
          replace hf := xfm_c hf (fr_X6_tell_ e_) (fun q hq => List.mem_append_right _ (List.mem_append_right _ (List.mem_append_right _ (hq))))
          clear e_
          cases h; exact hf
        · skip
          exact hj27 s33 hf h
      · skip
        exact hj27 s22 hf h
    · skip
      exact hk l4_21 s22 hf h
theorem fr_X10_forts_42 {s0 : xW} {l1_13 : Int} {l2_14 : Int} {q : Int × xW} {k : Int → xW → Option (Int × xW)} (hk : ∀ (x0_ : Int) (x1_ : xW), xfm (W_X10_forts ) s0 x1_ → k x0_ x1_ = some q → xfm (W_X10_forts ) s0 q.2) : ∀ (f : Nat) (l3_15 : Int) (s16 : xW), xfm (W_X10_forts ) s0 s16 → F_X10_forts_42 l1_13 l2_14 f l3_15 s16 k = some q → xfm (W_X10_forts ) s0 q.2 := by
  intro f
  induction f with
  | zero => intro l3_15 s16 hf h; cases h
  | succ f ih =>
    intro l3_15 s16 hf h
    unfold F_X10_forts_42 at h
    rcases xif_o h with h | h
    · skip
      refine fr_X10_forts_50 (fun l4_39 s40 hf h => ?_) xN _ _ hf h
      exact ih (l3_15 + 1) s40 hf h
    · skip
      exact hk l3_15 s16 hf h
theorem fr_X10_forts {a1 : Int} {a2 : Int} {s0 : xW} {q : Int × xW} (h : F_X10_forts a1 a2 s0 = some q) : xfm (W_X10_forts ) s0 q.2 := by
  unfold F_X10_forts at h
  have hf : xfm (W_X10_forts ) s0 s0 := xfm_rf
  obtain ⟨j1, ej_, h⟩ := xjn_e h
  have hj1 : j1  = some q → xfm (W_X10_forts ) s0 q.2 := by
    intro  h
    rw [ej_] at h
    cases h; exact hf
  clear ej_
  rcases xif_o h with h | h
  · skip
    rcases xif_o h with h | h
    · skip
      rcases xif_o h with h | h
      · skip
        rcases xif_o h with h | h
        · skip
          exact hj1  h
        · skip
          obtain ⟨j8, ej_, h⟩ := xjn_e h
          have hj8 : j8  = some q → xfm (W_X10_forts ) s0 q.2 := by
            intro  h
            rw [ej_] at h
            obtain ⟨s12, e_, h⟩ := xbp_e h
            replace hf := xfm_c hf (fr_X6_clear e_) (fun q hq => List.mem_append_right _ (List.mem_append_left _ hq))
            clear e_
            refine fr_X10_forts_42 (fun l3_43 s44 hf h => ?_) xN _ _ hf h
            cases h; exact hf
          clear ej_
          rcases xif_o h with h | h
          · skip
            rcases xif_o h with h | h
            · skip
              cases h; exact hf
            · skip
              exact hj8  h
          · skip
            exact hj8  h
      · skip
        exact hj1  h
    · skip
      exact hj1  h
  · skip
    exact hj1  h
def W_X4_sort : List (Int × Int) := [(97, -1)]
theorem fr_X4_sort_12 {s0 : xW} {l1_4 : Int} {q : xW} {k : Int → xW → Option (xW)} (hk : ∀ (x0_ : Int) (x1_ : xW), xfm (W_X4_sort ) s0 x1_ → k x0_ x1_ = some q → xfm (W_X4_sort ) s0 q) : ∀ (f : Nat) (l2_5 : Int) (s6 : xW), xfm (W_X4_sort ) s0 s6 → F_X4_sort_12 l1_4 f l2_5 s6 k = some q → xfm (W_X4_sort ) s0 q := by
  intro f
  induction f with
  | zero => intro l2_5 s6 hf h; cases h
  | succ f ih =>
    intro l2_5 s6 hf h
    unfold F_X4_sort_12 at h
    rcases xif_o h with h | h
    · skip
      replace h := (xgd_e h).2
      replace h := (xgd_e h).2
      replace h := (xgd_e h).2
      rcases xif_o h with h | h
      · skip
        replace h := (xgd_e h).2
        replace h := (xgd_e h).2
        obtain ⟨s14, e_, h⟩ := xlt_e h
        replace hf := xfm_uA hf (List.mem_of_getElem? (i := 0) rfl) e_
        clear e_
        exact ih (l2_5 + (-1)) s14 hf h
      · skip
        exact hk l2_5 s6 hf h
    · skip
      exact hk l2_5 s6 hf h
theorem fr_X4_sort_2 {s0 : xW} {q : xW} {k : Int → xW → Option (xW)} (hk : ∀ (x0_ : Int) (x1_ : xW), xfm (W_X4_sort ) s0 x1_ → k x0_ x1_ = some q → xfm (W_X4_sort ) s0 q) : ∀ (f : Nat) (l1_1 : Int) (s2 : xW), xfm (W_X4_sort ) s0 s2 → F_X4_sort_2  f l1_1 s2 k = some q → xfm (W_X4_sort ) s0 q := by
  intro f
  induction f with
  | zero => intro l1_1 s2 hf h; cases h
  | succ f ih =>
    intro l1_1 s2 hf h
    unfold F_X4_sort_2 at h
    rcases xif_o h with h | h
    · skip
      refine fr_X4_sort_12 (fun l2_18 s19 hf h => ?_) xN _ _ hf h
      replace h := (xgd_e h).2
      obtain ⟨s21, e_, h⟩ := xlt_e h
      replace hf := xfm_uA hf (List.mem_of_getElem? (i := 0) rfl) e_
      clear e_
      exact ih (l1_1 + 1) s21 hf h
    · skip
      exact hk l1_1 s2 hf h
theorem fr_X4_sort {s0 : xW} {q : xW} (h : F_X4_sort  s0 = some q) : xfm (W_X4_sort ) s0 q := by
  unfold F_X4_sort at h
  have hf : xfm (W_X4_sort ) s0 s0 := xfm_rf
  refine fr_X4_sort_2 (fun l1_25 s26 hf h => ?_) xN _ _ hf h
  cases h; exact hf
def W_X4_shareOut : List (Int × Int) := [(98, -1), (99, -1)]
theorem fr_X4_shareOut_22 {s0 : xW} {l1_6 : Int} {l2_7 : Int} {l3_8 : Int} {s10 : xW} (hf : xfm (W_X4_shareOut ) s0 s10) {q : Int × xW} {k : Int → Option (Int × xW)} (hk : ∀ (x0_ : Int), k x0_ = some q → xfm (W_X4_shareOut ) s0 q.2) : ∀ (f : Nat) (l4_9 : Int), F_X4_shareOut_22 l1_6 l2_7 l3_8 s10 f l4_9 k = some q → xfm (W_X4_shareOut ) s0 q.2 := by
  intro f
  induction f with
  | zero => intro l4_9 h; cases h
  | succ f ih =>
    intro l4_9 h
    unfold F_X4_shareOut_22 at h
    rcases xif_o h with h | h
    · skip
      replace h := (xgd_e h).2
      replace h := (xgd_e h).2
      rcases xif_o h with h | h
      · skip
        exact ih (l4_9 + 1) h
      · skip
        exact hk l4_9 h
    · skip
      exact hk l4_9 h
theorem fr_X4_shareOut_4 {s0 : xW} {q : Int × xW} {k : Int → Int → xW → Option (Int × xW)} (hk : ∀ (x0_ : Int) (x1_ : Int) (x2_ : xW), xfm (W_X4_shareOut ) s0 x2_ → k x0_ x1_ x2_ = some q → xfm (W_X4_shareOut ) s0 q.2) : ∀ (f : Nat) (l1_1 : Int) (l2_2 : Int) (s3 : xW), xfm (W_X4_shareOut ) s0 s3 → F_X4_shareOut_4  f l1_1 l2_2 s3 k = some q → xfm (W_X4_shareOut ) s0 q.2 := by
  intro f
  induction f with
  | zero => intro l1_1 l2_2 s3 hf h; cases h
  | succ f ih =>
    intro l1_1 l2_2 s3 hf h
    unfold F_X4_shareOut_4 at h
    rcases xif_o h with h | h
    · skip
      replace h := (xgd_e h).2
      refine fr_X4_shareOut_22 hf (fun l4_16 h => ?_) xN _ h
      replace h := (xgd_e h).2
      obtain ⟨s18, e_, h⟩ := xlt_e h
      replace hf := xfm_uA hf (List.mem_of_getElem? (i := 0) rfl) e_
      clear e_
      replace h := (xgd_e h).2
      replace h := (xgd_e h).2
      obtain ⟨s22, e_, h⟩ := xlt_e h
      replace hf := xfm_uA hf (List.mem_of_getElem? (i := 1) rfl) e_
      clear e_
      exact ih (max (xw l1_1) (xw (l4_16 + 1))) (l2_2 + 1) s22 hf h
    · skip
      exact hk l1_1 l2_2 s3 hf h
theorem fr_X4_shareOut {s0 : xW} {q : Int × xW} (h : F_X4_shareOut  s0 = some q) : xfm (W_X4_shareOut ) s0 q.2 := by
  unfold F_X4_shareOut at h
  have hf : xfm (W_X4_shareOut ) s0 s0 := xfm_rf
  refine fr_X4_shareOut_4 (fun l1_27 l2_28 s29 hf h => ?_) xN _ _ _ hf h
  cases h; exact hf
def W_X10_hands : List (Int × Int) := [] ++ (W_X10_planToday ++ (W_X4_sort ++ (W_X4_shareOut ++ (W_X6_clear ++ (W_X6_add)))))
theorem fr_X10_hands_28 {s0 : xW} {l1_10 : Int} {q : Int × xW} {k : Int → xW → Option (Int × xW)} (hk : ∀ (x0_ : Int) (x1_ : xW), xfm (W_X10_hands ) s0 x1_ → k x0_ x1_ = some q → xfm (W_X10_hands ) s0 q.2) : ∀ (f : Nat) (l2_11 : Int) (s12 : xW), xfm (W_X10_hands ) s0 s12 → F_X10_hands_28 l1_10 f l2_11 s12 k = some q → xfm (W_X10_hands ) s0 q.2 := by
  intro f
  induction f with
  | zero => intro l2_11 s12 hf h; cases h
  | succ f ih =>
    intro l2_11 s12 hf h
    unfold F_X10_hands_28 at h
    rcases xif_o h with h | h
    · skip
      replace h := (xgd_e h).2
      obtain ⟨s16, e_, h⟩ := xbp_e h
      replace hf := xfm_c hf (fr_X6_add e_) (fun q hq => List.mem_append_right _ (List.mem_append_right _ (List.mem_append_right _ (List.mem_append_right _ (List.mem_append_right _ (hq))))))
      clear e_
      exact ih (l2_11 + 1) s16 hf h
    · skip
      exact hk l2_11 s12 hf h
theorem fr_X10_hands {s0 : xW} {q : Int × xW} (h : F_X10_hands  s0 = some q) : xfm (W_X10_hands ) s0 q.2 := by
  unfold F_X10_hands at h
  have hf : xfm (W_X10_hands ) s0 s0 := xfm_rf
  obtain ⟨s2, e_, h⟩ := xbp_e h
  replace hf := xfm_c hf (fr_X10_planToday e_) (fun q hq => List.mem_append_right _ (List.mem_append_left _ hq))
  clear e_
  obtain ⟨s4, e_, h⟩ := xbp_e h
  replace hf := xfm_c hf (fr_X4_sort e_) (fun q hq => List.mem_append_right _ (List.mem_append_right _ (List.mem_append_left _ hq)))
  clear e_
  obtain ⟨r6, s7, e_, h⟩ := xbd_e h
  replace hf := xfm_c hf (fr_X4_shareOut e_) (fun q hq => List.mem_append_right _ (List.mem_append_right _ (List.mem_append_right _ (List.mem_append_left _ hq))))
  clear e_
  obtain ⟨s9, e_, h⟩ := xbp_e h
  replace hf := xfm_c hf (fr_X6_clear e_) (fun q hq => List.mem_append_right _ (List.mem_append_right _ (List.mem_append_right _ (List.mem_append_right _ (List.mem_append_left _ hq)))))
  clear e_
  refine fr_X10_hands_28 (fun l2_19 s20 hf h => ?_) xN _ _ hf h
  cases h; exact hf
def W_X5_add : List (Int × Int) := [(101, -1), (102, -1), (100, 2)]
theorem fr_X5_add {a1 : Int} {a2 : Int} {s0 : xW} {q : Int × xW} (h : F_X5_add a1 a2 s0 = some q) : xfm (W_X5_add ) s0 q.2 := by
  unfold F_X5_add at h
  have hf : xfm (W_X5_add ) s0 s0 := xfm_rf
  rcases xif_o h with h | h
  · skip
    cases h; exact hf
  · skip
    replace h := (xgd_e h).2
    obtain ⟨s3, e_, h⟩ := xlt_e h
    replace hf := xfm_uA hf (List.mem_of_getElem? (i := 0) rfl) e_
    clear e_
    replace h := (xgd_e h).2
    obtain ⟨s6, e_, h⟩ := xlt_e h
    replace hf := xfm_uA hf (List.mem_of_getElem? (i := 1) rfl) e_
    clear e_
    obtain ⟨s8, e_, h⟩ := xlt_e h
    replace hf := xfm_uO hf (List.mem_of_getElem? (i := 2) rfl) e_
    clear e_
    cases h; exact hf
def W_X10_heard : List (Int × Int) := [] ++ (W_X5_add)
theorem fr_X10_heard {a1 : Int} {a2 : Int} {s0 : xW} {q : Int × xW} (h : F_X10_heard a1 a2 s0 = some q) : xfm (W_X10_heard ) s0 q.2 := by
  unfold F_X10_heard at h
  have hf : xfm (W_X10_heard ) s0 s0 := xfm_rf
  obtain ⟨r2, -, h⟩ := xbp_e h
  obtain ⟨j4, ej_, h⟩ := xjn_e h
  have hj4 : ∀ (s3 : xW), xfm (W_X10_heard ) s0 s3 → j4 s3 = some q → xfm (W_X10_heard ) s0 q.2 := by
    intro s3 hf h
    rw [ej_] at h
    cases h; exact hf
  clear ej_
  rcases xif_o h with h | h
  · skip
    rcases xif_o h with h | h
    · skip
      rcases xif_o h with h | h
      · skip
        obtain ⟨r11, s12, e_, h⟩ := xbd_e h
        replace hf := xfm_c hf (fr_X5_add e_) (fun q hq => List.mem_append_right _ (hq))
        clear e_
        rcases xif_o h with h | h
        · skip
          exact hj4 s12 hf h
        · skip
          cases h; exact hf
      · skip
        exact hj4 s0 hf h
    · skip
      exact hj4 s0 hf h
  · skip
    exact hj4 s0 hf h
def W_X10_setHill : List (Int × Int) := [(17, 1)]
theorem fr_X10_setHill {a1 : Int} {a2 : Int} {s0 : xW} {q : Int × xW} (h : F_X10_setHill a1 a2 s0 = some q) : xfm (W_X10_setHill ) s0 q.2 := by
  unfold F_X10_setHill at h
  have hf : xfm (W_X10_setHill ) s0 s0 := xfm_rf
  obtain ⟨r2, -, h⟩ := xbp_e h
  rcases xif_o h with h | h
  · skip
    cases h; exact hf
  · skip
    obtain ⟨r5, -, h⟩ := xbp_e h
    obtain ⟨s6, e_, h⟩ := xlt_e h
    replace hf := xfm_uO hf (List.mem_of_getElem? (i := 0) rfl) e_
    clear e_
    cases h; exact hf
def W_X4_holdBack : List (Int × Int) := [(95, -1), (96, -1)]
theorem fr_X4_holdBack {a1 : Int} {s0 : xW} {q : xW} (h : F_X4_holdBack a1 s0 = some q) : xfm (W_X4_holdBack ) s0 q := by
  unfold F_X4_holdBack at h
  have hf : xfm (W_X4_holdBack ) s0 s0 := xfm_rf
  replace h := (xgd_e h).2
  replace h := (xgd_e h).2
  obtain ⟨s3, e_, h⟩ := xlt_e h
  replace hf := xfm_uA hf (List.mem_of_getElem? (i := 0) rfl) e_
  clear e_
  replace h := (xgd_e h).2
  replace h := (xgd_e h).2
  obtain ⟨s7, e_, h⟩ := xlt_e h
  replace hf := xfm_uA hf (List.mem_of_getElem? (i := 1) rfl) e_
  clear e_
  cases h; exact hf
def W_X10_holds : List (Int × Int) := [] ++ (W_X10_planToday ++ (W_X6_tell ++ (W_X4_holdBack)))
theorem fr_X10_holds_16 {s0 : xW} {l1_6 : Int} {q : Int × xW} {k : Int → xW → Option (Int × xW)} (hk : ∀ (x0_ : Int) (x1_ : xW), xfm (W_X10_holds ) s0 x1_ → k x0_ x1_ = some q → xfm (W_X10_holds ) s0 q.2) : ∀ (f : Nat) (l2_7 : Int) (s8 : xW), xfm (W_X10_holds ) s0 s8 → F_X10_holds_16 l1_6 f l2_7 s8 k = some q → xfm (W_X10_holds ) s0 q.2 := by
  intro f
  induction f with
  | zero => intro l2_7 s8 hf h; cases h
  | succ f ih =>
    intro l2_7 s8 hf h
    unfold F_X10_holds_16 at h
    rcases xif_o h with h | h
    · skip
      obtain ⟨r11, -, h⟩ := xbp_e h
      rcases xif_o h with h | h
      · skip
        replace h := (xgd_e h).2
        obtain ⟨s17, e_, h⟩ := xbp_e h
        replace hf := xfm_c hf (fr_X6_tell e_) (fun q hq => List.mem_append_right _ (List.mem_append_right _ (List.mem_append_left _ hq)))
        clear e_
        cases h; exact hf
      · skip
        obtain ⟨s14, e_, h⟩ := xbp_e h
        replace hf := xfm_c hf (fr_X4_holdBack e_) (fun q hq => List.mem_append_right _ (List.mem_append_right _ (List.mem_append_right _ (hq))))
        clear e_
        exact ih (l2_7 + 1) s14 hf h
    · skip
      exact hk l2_7 s8 hf h
theorem fr_X10_holds {a1 : Int} {s0 : xW} {q : Int × xW} (h : F_X10_holds a1 s0 = some q) : xfm (W_X10_holds ) s0 q.2 := by
  unfold F_X10_holds at h
  have hf : xfm (W_X10_holds ) s0 s0 := xfm_rf
  obtain ⟨r2, -, h⟩ := xbp_e h
  rcases xif_o h with h | h
  · skip
    cases h; exact hf
  · skip
    obtain ⟨s5, e_, h⟩ := xbp_e h
    replace hf := xfm_c hf (fr_X10_planToday e_) (fun q hq => List.mem_append_right _ (List.mem_append_left _ hq))
    clear e_
    refine fr_X10_holds_16 (fun l2_20 s21 hf h => ?_) xN _ _ hf h
    cases h; exact hf
def W_X10_minuteOfGun : List (Int × Int) := [] ++ (W_X0_on ++ (W_X0_minute))
theorem fr_X10_minuteOfGun {a1 : Int} {s0 : xW} {q : Int × xW} (h : F_X10_minuteOfGun a1 s0 = some q) : xfm (W_X10_minuteOfGun ) s0 q.2 := by
  unfold F_X10_minuteOfGun at h
  have hf : xfm (W_X10_minuteOfGun ) s0 s0 := xfm_rf
  replace h := (xgd_e h).2
  obtain ⟨r3, -, h⟩ := xbp_e h
  obtain ⟨r5, -, h⟩ := xbp_e h
  obtain ⟨s7, e_, h⟩ := xbp_e h
  replace hf := xfm_c hf (fr_X0_on e_) (fun q hq => List.mem_append_right _ (List.mem_append_left _ hq))
  clear e_
  obtain ⟨hm_0, h⟩ := xgd_e h
  obtain ⟨r10, -, h⟩ := xbp_e h
  obtain ⟨r12, s13, e_, h⟩ := xbd_e h
  replace hf := xfm_c hf (fr_X0_minute e_) (fun q hq => List.mem_append_right _ (List.mem_append_right _ (hq)))
  clear e_
  cases h; exact hf
def W_X10_house : List (Int × Int) := [] ++ (W_X10_minuteOfGun ++ (W_X10_minuteOfEcho))
theorem fr_X10_house {a1 : Int} {a2 : Int} {s0 : xW} {q : Int × xW} (h : F_X10_house a1 a2 s0 = some q) : xfm (W_X10_house ) s0 q.2 := by
  unfold F_X10_house at h
  have hf : xfm (W_X10_house ) s0 s0 := xfm_rf
  obtain ⟨r2, -, h⟩ := xbp_e h
  obtain ⟨j3, ej_, h⟩ := xjn_e h
  have hj3 : j3  = some q → xfm (W_X10_house ) s0 q.2 := by
    intro  h
    rw [ej_] at h
    cases h
  clear ej_
  rcases xif_o h with h | h
  · skip
    rcases xif_o h with h | h
    · skip
      rcases xif_o h with h | h
      · skip
        exact hj3  h
      · skip
        rcases xif_o h with h | h
        · skip
          replace h := (xgd_e h).2
          cases h; exact hf
        · skip
          rcases xif_o h with h | h
          · skip
            replace h := (xgd_e h).2
            cases h; exact hf
          · skip
            rcases xif_o h with h | h
            · skip
              replace h := (xgd_e h).2
              cases h; exact hf
            · skip
              rcases xif_o h with h | h
              · skip
                obtain ⟨r17, s18, e_, h⟩ := xbd_e h
                replace hf := xfm_c hf (fr_X10_minuteOfGun e_) (fun q hq => List.mem_append_right _ (List.mem_append_left _ hq))
                clear e_
                cases h; exact hf
              · skip
                rcases xif_o h with h | h
                · skip
                  obtain ⟨r21, s22, e_, h⟩ := xbd_e h
                  replace hf := xfm_c hf (fr_X10_minuteOfEcho e_) (fun q hq => List.mem_append_right _ (List.mem_append_right _ (hq)))
                  clear e_
                  cases h; exact hf
                · skip
                  obtain ⟨r24, -, h⟩ := xbp_e h
                  cases h; exact hf
    · skip
      exact hj3  h
  · skip
    exact hj3  h
def W_X10_readHouses : List (Int × Int) := [] ++ (W_X10_fitsHouse)
theorem fr_X10_readHouses_2 {s0 : xW} {q : Int × xW} {k : Int → xW → Option (Int × xW)} (hk : ∀ (x0_ : Int) (x1_ : xW), xfm (W_X10_readHouses ) s0 x1_ → k x0_ x1_ = some q → xfm (W_X10_readHouses ) s0 q.2) : ∀ (f : Nat) (l1_1 : Int) (s2 : xW), xfm (W_X10_readHouses ) s0 s2 → F_X10_readHouses_2  f l1_1 s2 k = some q → xfm (W_X10_readHouses ) s0 q.2 := by
  intro f
  induction f with
  | zero => intro l1_1 s2 hf h; cases h
  | succ f ih =>
    intro l1_1 s2 hf h
    unfold F_X10_readHouses_2 at h
    rcases xif_o h with h | h
    · skip
      obtain ⟨j5, ej_, h⟩ := xjn_e h
      have hj5 : ∀ (s4 : xW), xfm (W_X10_readHouses ) s0 s4 → j5 s4 = some q → xfm (W_X10_readHouses ) s0 q.2 := by
        intro s4 hf h
        rw [ej_] at h
        cases h; exact hf
      clear ej_
      rcases xif_o h with h | h
      · skip
        obtain ⟨r10, s11, e_, h⟩ := xbd_e h
        replace hf := xfm_c hf (fr_X10_fitsHouse e_) (fun q hq => List.mem_append_right _ (hq))
        clear e_
        rcases xif_o h with h | h
        · skip
          exact hj5 s11 hf h
        · skip
          exact ih (l1_1 + 1) s11 hf h
      · skip
        exact hj5 s2 hf h
    · skip
      exact hk l1_1 s2 hf h
theorem fr_X10_readHouses {s0 : xW} {q : Int × xW} (h : F_X10_readHouses  s0 = some q) : xfm (W_X10_readHouses ) s0 q.2 := by
  unfold F_X10_readHouses at h
  have hf : xfm (W_X10_readHouses ) s0 s0 := xfm_rf
  refine fr_X10_readHouses_2 (fun l1_15 s16 hf h => ?_) xN _ _ hf h
  obtain ⟨j18, ej_, h⟩ := xjn_e h
  have hj18 : ∀ (t17 : Int), j18 t17 = some q → xfm (W_X10_readHouses ) s0 q.2 := by
    intro t17 h
    rw [ej_] at h
    obtain ⟨j22, ej_, h⟩ := xjn_e h
    have hj22 : ∀ (t21 : Int), j22 t21 = some q → xfm (W_X10_readHouses ) s0 q.2 := by
      intro t21 h
      rw [ej_] at h
      cases h; exact hf
    clear ej_
    rcases xif_o h with h | h
    · skip
      exact hj22 (Int.tdiv (xw ((s16 1 1) + 1)) 3) h
    · skip
      exact hj22 ((-1) - (s16 1 1)) h
  clear ej_
  obtain ⟨j26, ej_, h⟩ := xjn_e h
  have hj26 : j26  = some q → xfm (W_X10_readHouses ) s0 q.2 := by
    intro  h
    rw [ej_] at h
    exact hj18 1 h
  clear ej_
  rcases xif_o h with h | h
  · skip
    rcases xif_o h with h | h
    · skip
      exact hj26  h
    · skip
      exact hj18 0 h
  · skip
    exact hj26  h
def W_X10_houses : List (Int × Int) := [(0, 14)] ++ (W_X10_readHouses ++ (W_X8_clear ++ (W_X10_forgetPast)))
theorem fr_X10_houses {s0 : xW} {q : Int × xW} (h : F_X10_houses  s0 = some q) : xfm (W_X10_houses ) s0 q.2 := by
  unfold F_X10_houses at h
  have hf : xfm (W_X10_houses ) s0 s0 := xfm_rf
  obtain ⟨r2, s3, e_, h⟩ := xbd_e h
  replace hf := xfm_c hf (fr_X10_readHouses e_) (fun q hq => List.mem_append_right _ (List.mem_append_left _ hq))
  clear e_
  obtain ⟨j5, ej_, h⟩ := xjn_e h
  have hj5 : ∀ (s4 : xW), xfm (W_X10_houses ) s0 s4 → j5 s4 = some q → xfm (W_X10_houses ) s0 q.2 := by
    intro s4 hf h
    rw [ej_] at h
    obtain ⟨s9, e_, h⟩ := xbp_e h
    replace hf := xfm_c hf (fr_X8_clear e_) (fun q hq => List.mem_append_right _ (List.mem_append_right _ (List.mem_append_left _ hq)))
    clear e_
    cases h; exact hf
  clear ej_
  rcases xif_o h with h | h
  · skip
    obtain ⟨s11, e_, h⟩ := xlt_e h
    replace hf := xfm_uO hf (List.mem_append_left _ (List.mem_of_getElem? (i := 0) rfl)) e_
    clear e_
    obtain ⟨s14, e_, h⟩ := xbp_e h
    replace hf := xfm_c hf (fr_X10_forgetPast e_) (fun q hq => List.mem_append_right _ (List.mem_append_right _ (List.mem_append_right _ (hq))))
    clear e_
    exact hj5 s14 hf h
  · skip
    exact hj5 s3 hf h
def W_X10_lane : List (Int × Int) := [] ++ (W_X10_planToday ++ (W_X6_tell_))
theorem fr_X10_lane_40 {s0 : xW} {l1_12 : Int} {l5_16 : Int} {s18 : xW} (hf : xfm (W_X10_lane ) s0 s18) {q : Int × xW} {k : Int → Int → Int → Int → Option (Int × xW)} (hk : ∀ (x0_ : Int) (x1_ : Int) (x2_ : Int) (x3_ : Int), k x0_ x1_ x2_ x3_ = some q → xfm (W_X10_lane ) s0 q.2) : ∀ (f : Nat) (l2_13 : Int) (l3_14 : Int) (l4_15 : Int) (l6_17 : Int), F_X10_lane_40 l1_12 l5_16 s18 f l2_13 l3_14 l4_15 l6_17 k = some q → xfm (W_X10_lane ) s0 q.2 := by
  intro f
  induction f with
  | zero => intro l2_13 l3_14 l4_15 l6_17 h; cases h
  | succ f ih =>
    intro l2_13 l3_14 l4_15 l6_17 h
    unfold F_X10_lane_40 at h
    rcases xif_o h with h | h
    · skip
      obtain ⟨r21, -, h⟩ := xbp_e h
      obtain ⟨v23, -, h⟩ := xlt_e h
      obtain ⟨j28, ej_, h⟩ := xjn_e h
      have hj28 : ∀ (l3_26 : Int) (l4_27 : Int), j28 l3_26 l4_27 = some q → xfm (W_X10_lane ) s0 q.2 := by
        intro l3_26 l4_27 h
        rw [ej_] at h
        exact ih (l2_13 + v23) l3_26 l4_27 (l6_17 + 1) h
      clear ej_
      rcases xif_o h with h | h
      · skip
        exact hj28 r21 l6_17 h
      · skip
        exact hj28 l3_14 l4_15 h
    · skip
      exact hk l2_13 l3_14 l4_15 l6_17 h
theorem fr_X10_lane {a1 : Int} {s0 : xW} {q : Int × xW} (h : F_X10_lane a1 s0 = some q) : xfm (W_X10_lane ) s0 q.2 := by
  unfold F_X10_lane at h
  have hf : xfm (W_X10_lane ) s0 s0 := xfm_rf
  obtain ⟨j1, ej_, h⟩ := xjn_e h
  have hj1 : j1  = some q → xfm (W_X10_lane ) s0 q.2 := by
    intro  h
    rw [ej_] at h
    cases h; exact hf
  clear ej_
  rcases xif_o h with h | h
  · skip
    rcases xif_o h with h | h
    · skip
      exact hj1  h
    · skip
      obtain ⟨s7, e_, h⟩ := xbp_e h
      replace hf := xfm_c hf (fr_X10_planToday e_) (fun q hq => List.mem_append_right _ (List.mem_append_left _ hq))
      clear e_
      obtain ⟨r9, -, h⟩ := xbp_e h
      obtain ⟨r11, -, h⟩ := xbp_e h
      refine fr_X10_lane_40 hf (fun l2_36 l3_37 l4_38 l6_39 h => ?_) xN _ _ _ _ h
      obtain ⟨s41, e_, h⟩ := xbp_e h
      replace hf := xfm_c hf (fr_X6_tell_ e_) (fun q hq => List.mem_append_right _ (List.mem_append_right _ (hq)))
      clear e_
      cases h; exact hf
  · skip
    exact hj1  h
def W_X10_lasts : List (Int × Int) := [] ++ (W_X6_tell ++ (W_X10_pairsOn))
theorem fr_X10_lasts_4 {s0 : xW} {q : Int × xW} {k : Int → Int → xW → Option (Int × xW)} (hk : ∀ (x0_ : Int) (x1_ : Int) (x2_ : xW), xfm (W_X10_lasts ) s0 x2_ → k x0_ x1_ x2_ = some q → xfm (W_X10_lasts ) s0 q.2) : ∀ (f : Nat) (l1_1 : Int) (l2_2 : Int) (s3 : xW), xfm (W_X10_lasts ) s0 s3 → F_X10_lasts_4  f l1_1 l2_2 s3 k = some q → xfm (W_X10_lasts ) s0 q.2 := by
  intro f
  induction f with
  | zero => intro l1_1 l2_2 s3 hf h; cases h
  | succ f ih =>
    intro l1_1 l2_2 s3 hf h
    unfold F_X10_lasts_4 at h
    rcases xif_o h with h | h
    · skip
      obtain ⟨r6, s7, e_, h⟩ := xbd_e h
      replace hf := xfm_c hf (fr_X10_pairsOn e_) (fun q hq => List.mem_append_right _ (List.mem_append_right _ (hq)))
      clear e_
      exact ih (l1_1 + r6) (l2_2 + 1) s7 hf h
    · skip
      exact hk l1_1 l2_2 s3 hf h
theorem fr_X10_lasts {s0 : xW} {q : Int × xW} (h : F_X10_lasts  s0 = some q) : xfm (W_X10_lasts ) s0 q.2 := by
  unfold F_X10_lasts at h
  have hf : xfm (W_X10_lasts ) s0 s0 := xfm_rf
  refine fr_X10_lasts_4 (fun l1_11 l2_12 s13 hf h => ?_) xN _ _ _ hf h
  obtain ⟨s15, e_, h⟩ := xbp_e h
  replace hf := xfm_c hf (fr_X6_tell e_) (fun q hq => List.mem_append_right _ (List.mem_append_left _ hq))
  clear e_
  cases h; exact hf
def W_X7_takeFirst (a0 : Int) : List (Int × Int) := [(a0 + 1, -1), (a0, 1)]
theorem fr_X7_takeFirst {a0 : Int} {s0 q : xW} (h : F_X7_takeFirst a0 s0 = some q) : xfm (W_X7_takeFirst a0) s0 q := by
  unfold F_X7_takeFirst at h
  replace h := (xgd_e h).2
  obtain ⟨s1, e1, h⟩ := xlt_e h
  obtain ⟨s2, e2, h⟩ := xlt_e h
  cases h
  exact xfm_uO (xfm_fi xfm_rf (List.mem_of_getElem? (i := 0) rfl) e1) (List.mem_of_getElem? (i := 1) rfl) e2
def W_X7_await (a0 : Int) : List (Int × Int) := [(a0 + 3, -1), (a0, 4)]
theorem fr_X7_await {a0 : Int} {a1 : Int} {s0 : xW} {q : xW} (h : F_X7_await a0 a1 s0 = some q) : xfm (W_X7_await a0) s0 q := by
  unfold F_X7_await at h
  have hf : xfm (W_X7_await a0) s0 s0 := xfm_rf
  obtain ⟨hm_0, h⟩ := xgd_e h
  obtain ⟨j2, ej_, h⟩ := xjn_e h
  have hj2 : ∀ (s1 : xW), xfm (W_X7_await a0) s0 s1 → j2 s1 = some q → xfm (W_X7_await a0) s0 q := by
    intro s1 hf h
    rw [ej_] at h
    cases h; exact hf
  clear ej_
  rcases xif_o h with h | h
  · skip
    replace h := (xgd_e h).2
    replace h := (xgd_e h).2
    obtain ⟨s8, e_, h⟩ := xlt_e h
    replace hf := xfm_uA hf (List.mem_of_getElem? (i := 0) rfl) e_
    clear e_
    obtain ⟨s10, e_, h⟩ := xlt_e h
    replace hf := xfm_uO hf (List.mem_of_getElem? (i := 1) rfl) e_
    clear e_
    exact hj2 s10 hf h
  · skip
    exact hj2 s0 hf h
def W_X7_step (a0 : Int) : List (Int × Int) := [(a0 + 1, -1), (a0, 1)]
theorem fr_X7_step {a0 : Int} {a1 : Int} {s0 : xW} {q : xW} (h : F_X7_step a0 a1 s0 = some q) : xfm (W_X7_step a0) s0 q := by
  unfold F_X7_step at h
  have hf : xfm (W_X7_step a0) s0 s0 := xfm_rf
  obtain ⟨hm_0, h⟩ := xgd_e h
  obtain ⟨j2, ej_, h⟩ := xjn_e h
  have hj2 : ∀ (s1 : xW), xfm (W_X7_step a0) s0 s1 → j2 s1 = some q → xfm (W_X7_step a0) s0 q := by
    intro s1 hf h
    rw [ej_] at h
    cases h; exact hf
  clear ej_
  rcases xif_o h with h | h
  · skip
    replace h := (xgd_e h).2
    obtain ⟨s7, e_, h⟩ := xlt_e h
    replace hf := xfm_uA hf (List.mem_of_getElem? (i := 0) rfl) e_
    clear e_
    obtain ⟨s9, e_, h⟩ := xlt_e h
    replace hf := xfm_uO hf (List.mem_of_getElem? (i := 1) rfl) e_
    clear e_
    exact hj2 s9 hf h
  · skip
    exact hj2 s0 hf h
def W_X7_beginsThing (a0 : Int) : List (Int × Int) := [(a0, 5), (a0, 6), (a0, 7)] ++ (W_X7_await a0 ++ (W_X7_step a0))
theorem fr_X7_beginsThing {a0 : Int} {a1 : Int} {s0 : xW} {q : Int × xW} (h : F_X7_beginsThing a0 a1 s0 = some q) : xfm (W_X7_beginsThing a0) s0 q.2 := by
  unfold F_X7_beginsThing at h
  have hf : xfm (W_X7_beginsThing a0) s0 s0 := xfm_rf
  obtain ⟨hm_0, h⟩ := xgd_e h
  rcases xif_o h with h | h
  · skip
    obtain ⟨s37, e_, h⟩ := xbp_e h
    replace hf := xfm_c hf (fr_X7_await e_) (fun q hq => List.mem_append_right _ (List.mem_append_left _ hq))
    clear e_
    cases h; exact hf
  · skip
    rcases xif_o h with h | h
    · skip
      obtain ⟨s27, e_, h⟩ := xlt_e h
      replace hf := xfm_uO hf (List.mem_append_left _ (List.mem_of_getElem? (i := 0) rfl)) e_
      clear e_
      obtain ⟨s30, e_, h⟩ := xbp_e h
      replace hf := xfm_c hf (fr_X7_await e_) (fun q hq => List.mem_append_right _ (List.mem_append_left _ hq))
      clear e_
      obtain ⟨v32, -, h⟩ := xlt_e h
      replace h := (xgd_e h).2
      cases h; exact hf
    · skip
      obtain ⟨v5, -, h⟩ := xlt_e h
      obtain ⟨j8, ej_, h⟩ := xjn_e h
      have hj8 : j8  = some q → xfm (W_X7_beginsThing a0) s0 q.2 := by
        intro  h
        rw [ej_] at h
        obtain ⟨v12, -, h⟩ := xlt_e h
        obtain ⟨s16, e_, h⟩ := xbp_e h
        replace hf := xfm_c hf (fr_X7_step e_) (fun q hq => List.mem_append_right _ (List.mem_append_right _ (hq)))
        clear e_
        obtain ⟨v18, -, h⟩ := xlt_e h
        obtain ⟨s21, e_, h⟩ := xlt_e h
        replace hf := xfm_uO hf (List.mem_append_left _ (List.mem_of_getElem? (i := 1) rfl)) e_
        clear e_
        obtain ⟨s23, e_, h⟩ := xlt_e h
        replace hf := xfm_uO hf (List.mem_append_left _ (List.mem_of_getElem? (i := 2) rfl)) e_
        clear e_
        cases h; exact hf
      clear ej_
      rcases xif_o h with h | h
      · skip
        rcases xif_o h with h | h
        · skip
          cases h; exact hf
        · skip
          exact hj8  h
      · skip
        exact hj8  h
def W_X7_goesOnNumber (a0 : Int) : List (Int × Int) := [(a0, 6), (a0 + 1, -1)]
theorem fr_X7_goesOnNumber {a0 : Int} {a1 : Int} {s0 : xW} {q : Int × xW} (h : F_X7_goesOnNumber a0 a1 s0 = some q) : xfm (W_X7_goesOnNumber a0) s0 q.2 := by
  unfold F_X7_goesOnNumber at h
  have hf : xfm (W_X7_goesOnNumber a0) s0 s0 := xfm_rf
  obtain ⟨hm_0, h⟩ := xgd_e h
  obtain ⟨j1, ej_, h⟩ := xjn_e h
  have hj1 : j1  = some q → xfm (W_X7_goesOnNumber a0) s0 q.2 := by
    intro  h
    rw [ej_] at h
    cases h; exact hf
  clear ej_
  rcases xif_o h with h | h
  · skip
    rcases xif_o h with h | h
    · skip
      exact hj1  h
    · skip
      obtain ⟨s6, e_, h⟩ := xlt_e h
      replace hf := xfm_uO hf (List.mem_of_getElem? (i := 0) rfl) e_
      clear e_
      replace h := (xgd_e h).2
      replace h := (xgd_e h).2
      obtain ⟨s10, e_, h⟩ := xlt_e h
      replace hf := xfm_uA hf (List.mem_of_getElem? (i := 1) rfl) e_
      clear e_
      cases h; exact hf
  · skip
    exact hj1  h
def W_X7_settle (a0 : Int) : List (Int × Int) := [(a0, 4)] ++ (W_X7_step a0)
theorem fr_X7_settle_2 {s0 : xW} {l0_1 : Int} {l1_3 : Int} (hm_l0_1 : l0_1 ∈ xRules) {q : xW} {k : Int → xW → Option (xW)} (hk : ∀ (x0_ : Int) (x1_ : xW), xfm (W_X7_settle l0_1) s0 x1_ → k x0_ x1_ = some q → xfm (W_X7_settle l0_1) s0 q) : ∀ (f : Nat) (l2_4 : Int) (s5 : xW), xfm (W_X7_settle l0_1) s0 s5 → F_X7_settle_2 l0_1 l1_3 f l2_4 s5 k = some q → xfm (W_X7_settle l0_1) s0 q := by
  intro f
  induction f with
  | zero => intro l2_4 s5 hf h; cases h
  | succ f ih =>
    intro l2_4 s5 hf h
    unfold F_X7_settle_2 at h
    rcases xif_o h with h | h
    · skip
      rcases xif_o h with h | h
      · skip
        obtain ⟨r9, -, h⟩ := xbp_e h
        obtain ⟨r11, -, h⟩ := xbp_e h
        rcases xif_o h with h | h
        · skip
          obtain ⟨r14, -, h⟩ := xbp_e h
          obtain ⟨s16, e_, h⟩ := xbp_e h
          replace hf := xfm_c hf (fr_X7_step e_) (fun q hq => List.mem_append_right _ (hq))
          clear e_
          obtain ⟨s17, e_, h⟩ := xlt_e h
          replace hf := xfm_uO hf (List.mem_append_left _ (List.mem_of_getElem? (i := 0) rfl)) e_
          clear e_
          exact ih (l2_4 + 1) s17 hf h
        · skip
          exact hk l2_4 s5 hf h
      · skip
        exact hk l2_4 s5 hf h
    · skip
      exact hk l2_4 s5 hf h
theorem fr_X7_settle {a0 : Int} {a1 : Int} {s0 : xW} {q : xW} (h : F_X7_settle a0 a1 s0 = some q) : xfm (W_X7_settle a0) s0 q := by
  unfold F_X7_settle at h
  have hf : xfm (W_X7_settle a0) s0 s0 := xfm_rf
  obtain ⟨hm_0, h⟩ := xgd_e h
  refine fr_X7_settle_2 (by assumption) (fun l2_21 s22 hf h => ?_) xN _ _ hf h
  cases h; exact hf
def W_X7_closes (a0 : Int) : List (Int × Int) := [(a0, 4), (a0, 5), (a0, 6)] ++ (W_X7_settle a0)
theorem fr_X7_closes {a0 : Int} {s0 : xW} {q : Int × xW} (h : F_X7_closes a0 s0 = some q) : xfm (W_X7_closes a0) s0 q.2 := by
  unfold F_X7_closes at h
  have hf : xfm (W_X7_closes a0) s0 s0 := xfm_rf
  obtain ⟨hm_0, h⟩ := xgd_e h
  obtain ⟨j1, ej_, h⟩ := xjn_e h
  have hj1 : j1  = some q → xfm (W_X7_closes a0) s0 q.2 := by
    intro  h
    rw [ej_] at h
    cases h; exact hf
  clear ej_
  rcases xif_o h with h | h
  · skip
    rcases xif_o h with h | h
    · skip
      exact hj1  h
    · skip
      obtain ⟨s7, e_, h⟩ := xbp_e h
      replace hf := xfm_c hf (fr_X7_settle e_) (fun q hq => List.mem_append_right _ (hq))
      clear e_
      obtain ⟨s8, e_, h⟩ := xlt_e h
      replace hf := xfm_uO hf (List.mem_append_left _ (List.mem_of_getElem? (i := 0) rfl)) e_
      clear e_
      obtain ⟨s10, e_, h⟩ := xlt_e h
      replace hf := xfm_uO hf (List.mem_append_left _ (List.mem_of_getElem? (i := 1) rfl)) e_
      clear e_
      obtain ⟨s12, e_, h⟩ := xlt_e h
      replace hf := xfm_uO hf (List.mem_append_left _ (List.mem_of_getElem? (i := 2) rfl)) e_
      clear e_
      cases h; exact hf
  · skip
    exact hj1  h
def W_X7_joins (a0 : Int) : List (Int × Int) := [(a0, 7)] ++ (W_X7_settle a0 ++ (W_X7_await a0))
theorem fr_X7_joins {a0 : Int} {a1 : Int} {s0 : xW} {q : Int × xW} (h : F_X7_joins a0 a1 s0 = some q) : xfm (W_X7_joins a0) s0 q.2 := by
  unfold F_X7_joins at h
  have hf : xfm (W_X7_joins a0) s0 s0 := xfm_rf
  obtain ⟨hm_0, h⟩ := xgd_e h
  obtain ⟨r2, -, h⟩ := xbp_e h
  obtain ⟨j3, ej_, h⟩ := xjn_e h
  have hj3 : j3  = some q → xfm (W_X7_joins a0) s0 q.2 := by
    intro  h
    rw [ej_] at h
    cases h; exact hf
  clear ej_
  rcases xif_o h with h | h
  · skip
    rcases xif_o h with h | h
    · skip
      exact hj3  h
    · skip
      obtain ⟨s9, e_, h⟩ := xbp_e h
      replace hf := xfm_c hf (fr_X7_settle e_) (fun q hq => List.mem_append_right _ (List.mem_append_left _ hq))
      clear e_
      obtain ⟨j11, ej_, h⟩ := xjn_e h
      have hj11 : ∀ (t10 : Int), j11 t10 = some q → xfm (W_X7_joins a0) s0 q.2 := by
        intro t10 h
        rw [ej_] at h
        obtain ⟨s15, e_, h⟩ := xbp_e h
        replace hf := xfm_c hf (fr_X7_await e_) (fun q hq => List.mem_append_right _ (List.mem_append_right _ (hq)))
        clear e_
        obtain ⟨s16, e_, h⟩ := xlt_e h
        replace hf := xfm_uO hf (List.mem_append_left _ (List.mem_of_getElem? (i := 0) rfl)) e_
        clear e_
        obtain ⟨v19, -, h⟩ := xlt_e h
        replace h := (xgd_e h).2
        cases h; exact hf
      clear ej_
      obtain ⟨j23, ej_, h⟩ := xjn_e h
      have hj23 : j23  = some q → xfm (W_X7_joins a0) s0 q.2 := by
        intro  h
        rw [ej_] at h
        exact hj11 0 h
      clear ej_
      rcases xif_o h with h | h
      · skip
        obtain ⟨r28, -, h⟩ := xbp_e h
        obtain ⟨r30, -, h⟩ := xbp_e h
        rcases xif_o h with h | h
        · skip
          exact hj11 1 h
        · skip
          exact hj23  h
      · skip
        exact hj23  h
  · skip
    exact hj3  h
def W_X7_accepts (a0 : Int) : List (Int × Int) := [] ++ (W_X7_beginsThing a0 ++ (W_X7_closes a0 ++ (W_X7_joins a0 ++ (W_X7_goesOnNumber a0))))
theorem fr_X7_accepts {a0 : Int} {a1 : Int} {s0 : xW} {q : Int × xW} (h : F_X7_accepts a0 a1 s0 = some q) : xfm (W_X7_accepts a0) s0 q.2 := by
  unfold F_X7_accepts at h
  have hf : xfm (W_X7_accepts a0) s0 s0 := xfm_rf
  obtain ⟨hm_0, h⟩ := xgd_e h
  rcases xif_o h with h | h
  · skip
    obtain ⟨r25, s26, e_, h⟩ := xbd_e h
    replace hf := xfm_c hf (fr_X7_beginsThing e_) (fun q hq => List.mem_append_right _ (List.mem_append_left _ hq))
    clear e_
    replace h := (xgd_e h).2
    cases h; exact hf
  · skip
    obtain ⟨j2, ej_, h⟩ := xjn_e h
    have hj2 : j2  = some q → xfm (W_X7_accepts a0) s0 q.2 := by
      intro  h
      rw [ej_] at h
      obtain ⟨j7, ej_, h⟩ := xjn_e h
      have hj7 : ∀ (t5 : Int) (s6 : xW), xfm (W_X7_accepts a0) s0 s6 → j7 t5 s6 = some q → xfm (W_X7_accepts a0) s0 q.2 := by
        intro t5 s6 hf h
        rw [ej_] at h
        replace h := (xgd_e h).2
        cases h; exact hf
      clear ej_
      rcases xif_o h with h | h
      · skip
        obtain ⟨r16, s17, e_, h⟩ := xbd_e h
        replace hf := xfm_c hf (fr_X7_closes e_) (fun q hq => List.mem_append_right _ (List.mem_append_right _ (List.mem_append_left _ hq)))
        clear e_
        exact hj7 r16 s17 hf h
      · skip
        obtain ⟨r13, s14, e_, h⟩ := xbd_e h
        replace hf := xfm_c hf (fr_X7_joins e_) (fun q hq => List.mem_append_right _ (List.mem_append_right _ (List.mem_append_right _ (List.mem_append_left _ hq))))
        clear e_
        exact hj7 r13 s14 hf h
    clear ej_
    rcases xif_o h with h | h
    · skip
      rcases xif_o h with h | h
      · skip
        obtain ⟨r21, s22, e_, h⟩ := xbd_e h
        replace hf := xfm_c hf (fr_X7_goesOnNumber e_) (fun q hq => List.mem_append_right _ (List.mem_append_right _ (List.mem_append_right _ (List.mem_append_right _ (hq)))))
        clear e_
        replace h := (xgd_e h).2
        cases h; exact hf
      · skip
        exact hj2  h
    · skip
      exact hj2  h
def W_X7_read (a0 : Int) : List (Int × Int) := [(a0, 1), (a0, 4), (a0, 5), (a0, 7)] ++ (W_X7_takeFirst a0 ++ (W_X7_settle a0 ++ (W_X7_accepts a0)))
theorem fr_X7_read_35 {s0 : xW} {l0_10 : Int} (hm_l0_10 : l0_10 ∈ xRules) {q : Int × xW} {k : Int → xW → Option (Int × xW)} (hk : ∀ (x0_ : Int) (x1_ : xW), xfm (W_X7_read l0_10) s0 x1_ → k x0_ x1_ = some q → xfm (W_X7_read l0_10) s0 q.2) : ∀ (f : Nat) (l2_12 : Int) (s13 : xW), xfm (W_X7_read l0_10) s0 s13 → F_X7_read_35 l0_10 f l2_12 s13 k = some q → xfm (W_X7_read l0_10) s0 q.2 := by
  intro f
  induction f with
  | zero => intro l2_12 s13 hf h; cases h
  | succ f ih =>
    intro l2_12 s13 hf h
    unfold F_X7_read_35 at h
    rcases xif_o h with h | h
    · skip
      obtain ⟨j16, ej_, h⟩ := xjn_e h
      have hj16 : ∀ (s15 : xW), xfm (W_X7_read l0_10) s0 s15 → j16 s15 = some q → xfm (W_X7_read l0_10) s0 q.2 := by
        intro s15 hf h
        rw [ej_] at h
        cases h; exact hf
      clear ej_
      rcases xif_o h with h | h
      · skip
        obtain ⟨r21, -, h⟩ := xbp_e h
        obtain ⟨r23, s24, e_, h⟩ := xbd_e h
        replace hf := xfm_c hf (fr_X7_accepts e_) (fun q hq => List.mem_append_right _ (List.mem_append_right _ (List.mem_append_right _ (hq))))
        clear e_
        rcases xif_o h with h | h
        · skip
          exact hj16 s24 hf h
        · skip
          exact ih (l2_12 + 1) s24 hf h
      · skip
        exact hj16 s13 hf h
    · skip
      exact hk l2_12 s13 hf h
theorem fr_X7_read {a0 : Int} {s0 : xW} {q : Int × xW} (h : F_X7_read a0 s0 = some q) : xfm (W_X7_read a0) s0 q.2 := by
  unfold F_X7_read at h
  have hf : xfm (W_X7_read a0) s0 s0 := xfm_rf
  obtain ⟨hm_0, h⟩ := xgd_e h
  rcases xif_o h with h | h
  · skip
    obtain ⟨s38, e_, h⟩ := xbp_e h
    replace hf := xfm_c hf (fr_X7_takeFirst e_) (fun q hq => List.mem_append_right _ (List.mem_append_left _ hq))
    clear e_
    cases h; exact hf
  · skip
    obtain ⟨s2, e_, h⟩ := xlt_e h
    replace hf := xfm_uO hf (List.mem_append_left _ (List.mem_of_getElem? (i := 0) rfl)) e_
    clear e_
    obtain ⟨s4, e_, h⟩ := xlt_e h
    replace hf := xfm_uO hf (List.mem_append_left _ (List.mem_of_getElem? (i := 1) rfl)) e_
    clear e_
    obtain ⟨s6, e_, h⟩ := xlt_e h
    replace hf := xfm_uO hf (List.mem_append_left _ (List.mem_of_getElem? (i := 2) rfl)) e_
    clear e_
    obtain ⟨s8, e_, h⟩ := xlt_e h
    replace hf := xfm_uO hf (List.mem_append_left _ (List.mem_of_getElem? (i := 3) rfl)) e_
    clear e_
    refine fr_X7_read_35 (by assumption) (fun l2_28 s29 hf h => ?_) xN _ _ hf h
    obtain ⟨j30, ej_, h⟩ := xjn_e h
    have hj30 : j30  = some q → xfm (W_X7_read a0) s0 q.2 := by
      intro  h
      rw [ej_] at h
      cases h; exact hf
    clear ej_
    rcases xif_o h with h | h
    · skip
      rcases xif_o h with h | h
      · skip
        exact hj30  h
      · skip
        obtain ⟨s36, e_, h⟩ := xbp_e h
        replace hf := xfm_c hf (fr_X7_settle e_) (fun q hq => List.mem_append_right _ (List.mem_append_right _ (List.mem_append_left _ hq)))
        clear e_
        cases h; exact hf
    · skip
      exact hj30  h
def W_X10_longest : List (Int × Int) := [] ++ (W_X10_findFoes ++ (W_X6_tell))
theorem fr_X10_longest_12 {s0 : xW} {l1_4 : Int} {s8 : xW} (hf : xfm (W_X10_longest ) s0 s8) {q : Int × xW} {k : Int → Int → Int → Option (Int × xW)} (hk : ∀ (x0_ : Int) (x1_ : Int) (x2_ : Int), k x0_ x1_ x2_ = some q → xfm (W_X10_longest ) s0 q.2) : ∀ (f : Nat) (l2_5 : Int) (l3_6 : Int) (l4_7 : Int), F_X10_longest_12 l1_4 s8 f l2_5 l3_6 l4_7 k = some q → xfm (W_X10_longest ) s0 q.2 := by
  intro f
  induction f with
  | zero => intro l2_5 l3_6 l4_7 h; cases h
  | succ f ih =>
    intro l2_5 l3_6 l4_7 h
    unfold F_X10_longest_12 at h
    rcases xif_o h with h | h
    · skip
      obtain ⟨r11, -, h⟩ := xbp_e h
      obtain ⟨j13, ej_, h⟩ := xjn_e h
      have hj13 : ∀ (t12 : Int), j13 t12 = some q → xfm (W_X10_longest ) s0 q.2 := by
        intro t12 h
        rw [ej_] at h
        obtain ⟨j18, ej_, h⟩ := xjn_e h
        have hj18 : ∀ (l2_16 : Int) (l3_17 : Int), j18 l2_16 l3_17 = some q → xfm (W_X10_longest ) s0 q.2 := by
          intro l2_16 l3_17 h
          rw [ej_] at h
          exact ih l2_16 l3_17 (l4_7 + 1) h
        clear ej_
        rcases xif_o h with h | h
        · skip
          obtain ⟨r23, -, h⟩ := xbp_e h
          rcases xif_o h with h | h
          · skip
            exact hj18 r11 l4_7 h
          · skip
            exact hj18 l2_5 l3_6 h
        · skip
          exact hj18 l2_5 l3_6 h
      clear ej_
      obtain ⟨j25, ej_, h⟩ := xjn_e h
      have hj25 : j25  = some q → xfm (W_X10_longest ) s0 q.2 := by
        intro  h
        rw [ej_] at h
        exact hj13 1 h
      clear ej_
      rcases xif_o h with h | h
      · skip
        obtain ⟨j29, ej_, h⟩ := xjn_e h
        have hj29 : j29  = some q → xfm (W_X10_longest ) s0 q.2 := by
          intro  h
          rw [ej_] at h
          exact hj13 0 h
        clear ej_
        rcases xif_o h with h | h
        · skip
          rcases xif_o h with h | h
          · skip
            exact hj25  h
          · skip
            exact hj29  h
        · skip
          exact hj29  h
      · skip
        exact hj25  h
    · skip
      exact hk l2_5 l3_6 l4_7 h
theorem fr_X10_longest {s0 : xW} {q : Int × xW} (h : F_X10_longest  s0 = some q) : xfm (W_X10_longest ) s0 q.2 := by
  unfold F_X10_longest at h
  have hf : xfm (W_X10_longest ) s0 s0 := xfm_rf
  obtain ⟨r2, s3, e_, h⟩ := xbd_e h
  replace hf := xfm_c hf (fr_X10_findFoes e_) (fun q hq => List.mem_append_right _ (List.mem_append_left _ hq))
  clear e_
  refine fr_X10_longest_12 hf (fun l2_37 l3_38 l4_39 h => ?_) xN _ _ _ h
  obtain ⟨s41, e_, h⟩ := xbp_e h
  replace hf := xfm_c hf (fr_X6_tell e_) (fun q hq => List.mem_append_right _ (List.mem_append_right _ (hq)))
  clear e_
  cases h; exact hf
def W_X10_menders : List (Int × Int) := [] ++ (W_X10_findNear ++ (W_X6_tell))
theorem fr_X10_menders_31 {s0 : xW} {l2_9 : Int} {s13 : xW} (hf : xfm (W_X10_menders ) s0 s13) {q : Int × xW} {k : Int → Int → Int → Option (Int × xW)} (hk : ∀ (x0_ : Int) (x1_ : Int) (x2_ : Int), k x0_ x1_ x2_ = some q → xfm (W_X10_menders ) s0 q.2) : ∀ (f : Nat) (l3_10 : Int) (l4_11 : Int) (l5_12 : Int), F_X10_menders_31 l2_9 s13 f l3_10 l4_11 l5_12 k = some q → xfm (W_X10_menders ) s0 q.2 := by
  intro f
  induction f with
  | zero => intro l3_10 l4_11 l5_12 h; cases h
  | succ f ih =>
    intro l3_10 l4_11 l5_12 h
    unfold F_X10_menders_31 at h
    rcases xif_o h with h | h
    · skip
      obtain ⟨j17, ej_, h⟩ := xjn_e h
      have hj17 : ∀ (l3_15 : Int) (l4_16 : Int), j17 l3_15 l4_16 = some q → xfm (W_X10_menders ) s0 q.2 := by
        intro l3_15 l4_16 h
        rw [ej_] at h
        exact ih l3_15 l4_16 (l5_12 + 1) h
      clear ej_
      rcases xif_o h with h | h
      · skip
        obtain ⟨r22, -, h⟩ := xbp_e h
        rcases xif_o h with h | h
        · skip
          exact hj17 (xbc l5_12) l5_12 h
        · skip
          exact hj17 l3_10 l4_11 h
      · skip
        exact hj17 l3_10 l4_11 h
    · skip
      exact hk l3_10 l4_11 l5_12 h
theorem fr_X10_menders {a1 : Int} {s0 : xW} {q : Int × xW} (h : F_X10_menders a1 s0 = some q) : xfm (W_X10_menders ) s0 q.2 := by
  unfold F_X10_menders at h
  have hf : xfm (W_X10_menders ) s0 s0 := xfm_rf
  obtain ⟨j1, ej_, h⟩ := xjn_e h
  have hj1 : j1  = some q → xfm (W_X10_menders ) s0 q.2 := by
    intro  h
    rw [ej_] at h
    cases h; exact hf
  clear ej_
  rcases xif_o h with h | h
  · skip
    rcases xif_o h with h | h
    · skip
      exact hj1  h
    · skip
      obtain ⟨r7, s8, e_, h⟩ := xbd_e h
      replace hf := xfm_c hf (fr_X10_findNear e_) (fun q hq => List.mem_append_right _ (List.mem_append_left _ hq))
      clear e_
      refine fr_X10_menders_31 hf (fun l3_27 l4_28 l5_29 h => ?_) xN _ _ _ h
      obtain ⟨s31, e_, h⟩ := xbp_e h
      replace hf := xfm_c hf (fr_X6_tell e_) (fun q hq => List.mem_append_right _ (List.mem_append_right _ (hq)))
      clear e_
      cases h; exact hf
  · skip
    exact hj1  h
def W_X10_middle : List (Int × Int) := [] ++ (W_X6_tell_ ++ (W_X10_planFor))
theorem fr_X10_middle_16 {s0 : xW} {q : Int × xW} {k : Int → Int → Int → xW → Option (Int × xW)} (hk : ∀ (x0_ : Int) (x1_ : Int) (x2_ : Int) (x3_ : xW), xfm (W_X10_middle ) s0 x3_ → k x0_ x1_ x2_ x3_ = some q → xfm (W_X10_middle ) s0 q.2) : ∀ (f : Nat) (l1_2 : Int) (l2_3 : Int) (l3_4 : Int) (s5 : xW), xfm (W_X10_middle ) s0 s5 → F_X10_middle_16  f l1_2 l2_3 l3_4 s5 k = some q → xfm (W_X10_middle ) s0 q.2 := by
  intro f
  induction f with
  | zero => intro l1_2 l2_3 l3_4 s5 hf h; cases h
  | succ f ih =>
    intro l1_2 l2_3 l3_4 s5 hf h
    unfold F_X10_middle_16 at h
    rcases xif_o h with h | h
    · skip
      obtain ⟨hm_0, h⟩ := xgd_e h
      obtain ⟨s9, e_, h⟩ := xbp_e h
      replace hf := xfm_c hf (fr_X10_planFor e_) (fun q hq => List.mem_append_right _ (List.mem_append_right _ (hq)))
      clear e_
      obtain ⟨r11, -, h⟩ := xbp_e h
      obtain ⟨j14, ej_, h⟩ := xjn_e h
      have hj14 : ∀ (l1_12 : Int) (l2_13 : Int), j14 l1_12 l2_13 = some q → xfm (W_X10_middle ) s0 q.2 := by
        intro l1_12 l2_13 h
        rw [ej_] at h
        exact ih l1_12 l2_13 (l3_4 + 1) s9 hf h
      clear ej_
      obtain ⟨j17, ej_, h⟩ := xjn_e h
      have hj17 : j17  = some q → xfm (W_X10_middle ) s0 q.2 := by
        intro  h
        rw [ej_] at h
        exact hj14 r11 l3_4 h
      clear ej_
      rcases xif_o h with h | h
      · skip
        rcases xif_o h with h | h
        · skip
          exact hj17  h
        · skip
          exact hj14 l1_2 l2_3 h
      · skip
        exact hj17  h
    · skip
      exact hk l1_2 l2_3 l3_4 s5 hf h
theorem fr_X10_middle {s0 : xW} {q : Int × xW} (h : F_X10_middle  s0 = some q) : xfm (W_X10_middle ) s0 q.2 := by
  unfold F_X10_middle at h
  have hf : xfm (W_X10_middle ) s0 s0 := xfm_rf
  rcases xif_o h with h | h
  · skip
    cases h; exact hf
  · skip
    refine fr_X10_middle_16 (fun l1_26 l2_27 l3_28 s29 hf h => ?_) xN _ _ _ _ hf h
    obtain ⟨s31, e_, h⟩ := xbp_e h
    replace hf := xfm_c hf (fr_X6_tell_ e_) (fun q hq => List.mem_append_right _ (List.mem_append_left _ hq))
    clear e_
    cases h; exact hf
def W_X10_tellFraction : List (Int × Int) := [] ++ (W_X6_tell_)
theorem fr_X10_tellFraction_9 {s0 : xW} {l1_1 : Int} {l3_2 : Int} {s6 : xW} (hf : xfm (W_X10_tellFraction ) s0 s6) {q : xW} {k : Int → Int → Int → Option (xW)} (hk : ∀ (x0_ : Int) (x1_ : Int) (x2_ : Int), k x0_ x1_ x2_ = some q → xfm (W_X10_tellFraction ) s0 q) : ∀ (f : Nat) (l5_3 : Int) (l7_4 : Int) (l9_5 : Int), F_X10_tellFraction_9 l1_1 l3_2 s6 f l5_3 l7_4 l9_5 k = some q → xfm (W_X10_tellFraction ) s0 q := by
  intro f
  induction f with
  | zero => intro l5_3 l7_4 l9_5 h; cases h
  | succ f ih =>
    intro l5_3 l7_4 l9_5 h
    unfold F_X10_tellFraction_9 at h
    rcases xif_o h with h | h
    · skip
      rcases xif_o h with h | h
      · skip
        replace h := (xgd_e h).2
        exact ih l7_4 (Int.tmod (xwl l5_3) (xwl l7_4)) (l9_5 + 1) h
      · skip
        exact hk l5_3 l7_4 l9_5 h
    · skip
      exact hk l5_3 l7_4 l9_5 h
theorem fr_X10_tellFraction {a1 : Int} {a3 : Int} {s0 : xW} {q : xW} (h : F_X10_tellFraction a1 a3 s0 = some q) : xfm (W_X10_tellFraction ) s0 q := by
  unfold F_X10_tellFraction at h
  have hf : xfm (W_X10_tellFraction ) s0 s0 := xfm_rf
  refine fr_X10_tellFraction_9 hf (fun l5_13 l7_14 l9_15 h => ?_) xN _ _ _ h
  rcases xif_o h with h | h
  · skip
    replace h := (xgd_e h).2
    replace h := (xgd_e h).2
    obtain ⟨s20, e_, h⟩ := xbp_e h
    replace hf := xfm_c hf (fr_X6_tell_ e_) (fun q hq => List.mem_append_right _ (hq))
    clear e_
    cases h; exact hf
  · skip
    cases h; exact hf
def W_X10_misfires : List (Int × Int) := [(108, -1)] ++ (W_X10_tellFraction ++ (W_X10_fireOnce))
theorem fr_X10_misfires_55 {s0 : xW} {l1_14 : Int} {l2_15 : Int} {l3_16 : Int} {q : Int × xW} {k : Int → Int → xW → Option (Int × xW)} (hk : ∀ (x0_ : Int) (x1_ : Int) (x2_ : xW), xfm (W_X10_misfires ) s0 x2_ → k x0_ x1_ x2_ = some q → xfm (W_X10_misfires ) s0 q.2) : ∀ (f : Nat) (l4_17 : Int) (l6_18 : Int) (s19 : xW), xfm (W_X10_misfires ) s0 s19 → F_X10_misfires_55 l1_14 l2_15 l3_16 f l4_17 l6_18 s19 k = some q → xfm (W_X10_misfires ) s0 q.2 := by
  intro f
  induction f with
  | zero => intro l4_17 l6_18 s19 hf h; cases h
  | succ f ih =>
    intro l4_17 l6_18 s19 hf h
    unfold F_X10_misfires_55 at h
    rcases xif_o h with h | h
    · skip
      obtain ⟨s22, e_, h⟩ := xbp_e h
      replace hf := xfm_c hf (fr_X10_fireOnce e_) (fun q hq => List.mem_append_right _ (List.mem_append_right _ (hq)))
      clear e_
      exact ih (l4_17 * 10) (l6_18 + 1) s22 hf h
    · skip
      exact hk l4_17 l6_18 s19 hf h
theorem fr_X10_misfires {a1 : Int} {a2 : Int} {a3 : Int} {s0 : xW} {q : Int × xW} (h : F_X10_misfires a1 a2 a3 s0 = some q) : xfm (W_X10_misfires ) s0 q.2 := by
  unfold F_X10_misfires at h
  have hf : xfm (W_X10_misfires ) s0 s0 := xfm_rf
  obtain ⟨j1, ej_, h⟩ := xjn_e h
  have hj1 : j1  = some q → xfm (W_X10_misfires ) s0 q.2 := by
    intro  h
    rw [ej_] at h
    cases h; exact hf
  clear ej_
  rcases xif_o h with h | h
  · skip
    rcases xif_o h with h | h
    · skip
      rcases xif_o h with h | h
      · skip
        rcases xif_o h with h | h
        · skip
          rcases xif_o h with h | h
          · skip
            rcases xif_o h with h | h
            · skip
              exact hj1  h
            · skip
              obtain ⟨s10, e_, h⟩ := xlt_e h
              replace hf := xfm_fl hf (List.mem_append_left _ (List.mem_of_getElem? (i := 0) rfl)) e_
              clear e_
              obtain ⟨s12, e_, h⟩ := xlt_e h
              replace hf := xfm_uA hf (List.mem_append_left _ (List.mem_of_getElem? (i := 0) rfl)) e_
              clear e_
              refine fr_X10_misfires_55 (fun l4_26 l6_27 s28 hf h => ?_) xN _ _ _ hf h
              obtain ⟨r30, -, h⟩ := xbp_e h
              obtain ⟨s32, e_, h⟩ := xbp_e h
              replace hf := xfm_c hf (fr_X10_tellFraction e_) (fun q hq => List.mem_append_right _ (List.mem_append_left _ hq))
              clear e_
              cases h; exact hf
          · skip
            exact hj1  h
        · skip
          exact hj1  h
      · skip
        exact hj1  h
    · skip
      exact hj1  h
  · skip
    exact hj1  h
def W_X10_order : List (Int × Int) := [] ++ (W_X10_planToday ++ (W_X4_sort ++ (W_X6_clear ++ (W_X6_add))))
theorem fr_X10_order_20 {s0 : xW} {q : Int × xW} {k : Int → xW → Option (Int × xW)} (hk : ∀ (x0_ : Int) (x1_ : xW), xfm (W_X10_order ) s0 x1_ → k x0_ x1_ = some q → xfm (W_X10_order ) s0 q.2) : ∀ (f : Nat) (l1_7 : Int) (s8 : xW), xfm (W_X10_order ) s0 s8 → F_X10_order_20  f l1_7 s8 k = some q → xfm (W_X10_order ) s0 q.2 := by
  intro f
  induction f with
  | zero => intro l1_7 s8 hf h; cases h
  | succ f ih =>
    intro l1_7 s8 hf h
    unfold F_X10_order_20 at h
    rcases xif_o h with h | h
    · skip
      replace h := (xgd_e h).2
      obtain ⟨s12, e_, h⟩ := xbp_e h
      replace hf := xfm_c hf (fr_X6_add e_) (fun q hq => List.mem_append_right _ (List.mem_append_right _ (List.mem_append_right _ (List.mem_append_right _ (hq)))))
      clear e_
      exact ih (l1_7 + 1) s12 hf h
    · skip
      exact hk l1_7 s8 hf h
theorem fr_X10_order {s0 : xW} {q : Int × xW} (h : F_X10_order  s0 = some q) : xfm (W_X10_order ) s0 q.2 := by
  unfold F_X10_order at h
  have hf : xfm (W_X10_order ) s0 s0 := xfm_rf
  obtain ⟨s2, e_, h⟩ := xbp_e h
  replace hf := xfm_c hf (fr_X10_planToday e_) (fun q hq => List.mem_append_right _ (List.mem_append_left _ hq))
  clear e_
  obtain ⟨s4, e_, h⟩ := xbp_e h
  replace hf := xfm_c hf (fr_X4_sort e_) (fun q hq => List.mem_append_right _ (List.mem_append_right _ (List.mem_append_left _ hq)))
  clear e_
  obtain ⟨s6, e_, h⟩ := xbp_e h
  replace hf := xfm_c hf (fr_X6_clear e_) (fun q hq => List.mem_append_right _ (List.mem_append_right _ (List.mem_append_right _ (List.mem_append_left _ hq))))
  clear e_
  refine fr_X10_order_20 (fun l1_15 s16 hf h => ?_) xN _ _ hf h
  cases h; exact hf
def W_X10_quiet : List (Int × Int) := [] ++ (W_X6_tell ++ (W_X10_pairsOn))
theorem fr_X10_quiet_7 {s0 : xW} {q : Int × xW} {k : Int → Int → Int → xW → Option (Int × xW)} (hk : ∀ (x0_ : Int) (x1_ : Int) (x2_ : Int) (x3_ : xW), xfm (W_X10_quiet ) s0 x3_ → k x0_ x1_ x2_ x3_ = some q → xfm (W_X10_quiet ) s0 q.2) : ∀ (f : Nat) (l1_1 : Int) (l2_2 : Int) (l3_3 : Int) (s4 : xW), xfm (W_X10_quiet ) s0 s4 → F_X10_quiet_7  f l1_1 l2_2 l3_3 s4 k = some q → xfm (W_X10_quiet ) s0 q.2 := by
  intro f
  induction f with
  | zero => intro l1_1 l2_2 l3_3 s4 hf h; cases h
  | succ f ih =>
    intro l1_1 l2_2 l3_3 s4 hf h
    unfold F_X10_quiet_7 at h
    rcases xif_o h with h | h
    · skip
      obtain ⟨r7, s8, e_, h⟩ := xbd_e h
      replace hf := xfm_c hf (fr_X10_pairsOn e_) (fun q hq => List.mem_append_right _ (List.mem_append_right _ (hq)))
      clear e_
      obtain ⟨j11, ej_, h⟩ := xjn_e h
      have hj11 : ∀ (l1_9 : Int) (l2_10 : Int), j11 l1_9 l2_10 = some q → xfm (W_X10_quiet ) s0 q.2 := by
        intro l1_9 l2_10 h
        rw [ej_] at h
        exact ih l1_9 l2_10 (l3_3 + 1) s8 hf h
      clear ej_
      rcases xif_o h with h | h
      · skip
        obtain ⟨v16, -, h⟩ := xlt_e h
        exact hj11 v16 (l2_2 + 1) h
      · skip
        exact hj11 l1_1 l2_2 h
    · skip
      exact hk l1_1 l2_2 l3_3 s4 hf h
theorem fr_X10_quiet {s0 : xW} {q : Int × xW} (h : F_X10_quiet  s0 = some q) : xfm (W_X10_quiet ) s0 q.2 := by
  unfold F_X10_quiet at h
  have hf : xfm (W_X10_quiet ) s0 s0 := xfm_rf
  refine fr_X10_quiet_7 (fun l1_23 l2_24 l3_25 s26 hf h => ?_) xN _ _ _ _ hf h
  obtain ⟨j28, ej_, h⟩ := xjn_e h
  have hj28 : ∀ (s27 : xW), xfm (W_X10_quiet ) s0 s27 → j28 s27 = some q → xfm (W_X10_quiet ) s0 q.2 := by
    intro s27 hf h
    rw [ej_] at h
    cases h; exact hf
  clear ej_
  rcases xif_o h with h | h
  · skip
    obtain ⟨s33, e_, h⟩ := xbp_e h
    replace hf := xfm_c hf (fr_X6_tell e_) (fun q hq => List.mem_append_right _ (List.mem_append_left _ hq))
    clear e_
    exact hj28 s33 hf h
  · skip
    exact hj28 s26 hf h
def W_X10_rests : List (Int × Int) := [] ++ (W_X6_clear ++ (W_X6_tell_))
theorem fr_X10_rests_32 {s0 : xW} {l1_13 : Int} {l3_15 : Int} {q : Int × xW} {k : Int → Int → xW → Option (Int × xW)} (hk : ∀ (x0_ : Int) (x1_ : Int) (x2_ : xW), xfm (W_X10_rests ) s0 x2_ → k x0_ x1_ x2_ = some q → xfm (W_X10_rests ) s0 q.2) : ∀ (f : Nat) (l2_14 : Int) (l4_16 : Int) (s17 : xW), xfm (W_X10_rests ) s0 s17 → F_X10_rests_32 l1_13 l3_15 f l2_14 l4_16 s17 k = some q → xfm (W_X10_rests ) s0 q.2 := by
  intro f
  induction f with
  | zero => intro l2_14 l4_16 s17 hf h; cases h
  | succ f ih =>
    intro l2_14 l4_16 s17 hf h
    unfold F_X10_rests_32 at h
    rcases xif_o h with h | h
    · skip
      obtain ⟨r20, -, h⟩ := xbp_e h
      obtain ⟨j23, ej_, h⟩ := xjn_e h
      have hj23 : ∀ (l2_21 : Int) (s22 : xW), xfm (W_X10_rests ) s0 s22 → j23 l2_21 s22 = some q → xfm (W_X10_rests ) s0 q.2 := by
        intro l2_21 s22 hf h
        rw [ej_] at h
        exact ih l2_21 (l4_16 + 1) s22 hf h
      clear ej_
      rcases xif_o h with h | h
      · skip
        obtain ⟨r28, -, h⟩ := xbp_e h
        rcases xif_o h with h | h
        · skip
          rcases xif_o h with h | h
          · skip
            obtain ⟨s32, e_, h⟩ := xbp_e h
            replace hf := xfm_c hf (fr_X6_tell_ e_) (fun q hq => List.mem_append_right _ (List.mem_append_right _ (hq)))
            clear e_
            exact hj23 (l2_14 + 1) s32 hf h
          · skip
            exact hj23 (l2_14 + 1) s17 hf h
        · skip
          exact hj23 l2_14 s17 hf h
      · skip
        exact hj23 l2_14 s17 hf h
    · skip
      exact hk l2_14 l4_16 s17 hf h
theorem fr_X10_rests_23 {s0 : xW} {l1_8 : Int} {q : Int × xW} {k : Int → Int → xW → Option (Int × xW)} (hk : ∀ (x0_ : Int) (x1_ : Int) (x2_ : xW), xfm (W_X10_rests ) s0 x2_ → k x0_ x1_ x2_ = some q → xfm (W_X10_rests ) s0 q.2) : ∀ (f : Nat) (l2_9 : Int) (l3_10 : Int) (s11 : xW), xfm (W_X10_rests ) s0 s11 → F_X10_rests_23 l1_8 f l2_9 l3_10 s11 k = some q → xfm (W_X10_rests ) s0 q.2 := by
  intro f
  induction f with
  | zero => intro l2_9 l3_10 s11 hf h; cases h
  | succ f ih =>
    intro l2_9 l3_10 s11 hf h
    unfold F_X10_rests_23 at h
    rcases xif_o h with h | h
    · skip
      refine fr_X10_rests_32 (fun l2_36 l4_37 s38 hf h => ?_) xN _ _ _ hf h
      exact ih l2_36 (l3_10 + 1) s38 hf h
    · skip
      exact hk l2_9 l3_10 s11 hf h
theorem fr_X10_rests {a1 : Int} {s0 : xW} {q : Int × xW} (h : F_X10_rests a1 s0 = some q) : xfm (W_X10_rests ) s0 q.2 := by
  unfold F_X10_rests at h
  have hf : xfm (W_X10_rests ) s0 s0 := xfm_rf
  obtain ⟨j1, ej_, h⟩ := xjn_e h
  have hj1 : j1  = some q → xfm (W_X10_rests ) s0 q.2 := by
    intro  h
    rw [ej_] at h
    cases h; exact hf
  clear ej_
  rcases xif_o h with h | h
  · skip
    rcases xif_o h with h | h
    · skip
      exact hj1  h
    · skip
      obtain ⟨s7, e_, h⟩ := xbp_e h
      replace hf := xfm_c hf (fr_X6_clear e_) (fun q hq => List.mem_append_right _ (List.mem_append_left _ hq))
      clear e_
      refine fr_X10_rests_23 (fun l2_42 l3_43 s44 hf h => ?_) xN _ _ _ hf h
      cases h; exact hf
  · skip
    exact hj1  h
def W_X10_sheet : List (Int × Int) := [(20, -1)]
theorem fr_X10_sheet_47 {s0 : xW} {l1_14 : Int} {l2_15 : Int} {l3_16 : Int} {l4_17 : Int} {l5_18 : Int} {q : Int × xW} {k : Int → Int → xW → Option (Int × xW)} (hk : ∀ (x0_ : Int) (x1_ : Int) (x2_ : xW), xfm (W_X10_sheet ) s0 x2_ → k x0_ x1_ x2_ = some q → xfm (W_X10_sheet ) s0 q.2) : ∀ (f : Nat) (l6_19 : Int) (l7_20 : Int) (s21 : xW), xfm (W_X10_sheet ) s0 s21 → F_X10_sheet_47 l1_14 l2_15 l3_16 l4_17 l5_18 f l6_19 l7_20 s21 k = some q → xfm (W_X10_sheet ) s0 q.2 := by
  intro f
  induction f with
  | zero => intro l6_19 l7_20 s21 hf h; cases h
  | succ f ih =>
    intro l6_19 l7_20 s21 hf h
    unfold F_X10_sheet_47 at h
    rcases xif_o h with h | h
    · skip
      obtain ⟨v25, -, h⟩ := xlt_e h
      obtain ⟨j29, ej_, h⟩ := xjn_e h
      have hj29 : ∀ (t28 : Int), j29 t28 = some q → xfm (W_X10_sheet ) s0 q.2 := by
        intro t28 h
        rw [ej_] at h
        replace h := (xgd_e h).2
        obtain ⟨s33, e_, h⟩ := xlt_e h
        replace hf := xfm_uA hf (List.mem_of_getElem? (i := 0) rfl) e_
        clear e_
        replace h := (xgd_e h).2
        exact ih (l6_19 + (s33 20 l7_20)) (l7_20 + 1) s33 hf h
      clear ej_
      rcases xif_o h with h | h
      · skip
        obtain ⟨r38, -, h⟩ := xbp_e h
        obtain ⟨r40, -, h⟩ := xbp_e h
        exact hj29 r40 h
      · skip
        exact hj29 1 h
    · skip
      exact hk l6_19 l7_20 s21 hf h
theorem fr_X10_sheet {a1 : Int} {a2 : Int} {a3 : Int} {a4 : Int} {s0 : xW} {q : Int × xW} (h : F_X10_sheet a1 a2 a3 a4 s0 = some q) : xfm (W_X10_sheet ) s0 q.2 := by
  unfold F_X10_sheet at h
  have hf : xfm (W_X10_sheet ) s0 s0 := xfm_rf
  obtain ⟨j1, ej_, h⟩ := xjn_e h
  have hj1 : j1  = some q → xfm (W_X10_sheet ) s0 q.2 := by
    intro  h
    rw [ej_] at h
    cases h; exact hf
  clear ej_
  rcases xif_o h with h | h
  · skip
    rcases xif_o h with h | h
    · skip
      rcases xif_o h with h | h
      · skip
        exact hj1  h
      · skip
        obtain ⟨v8, -, h⟩ := xlt_e h
        obtain ⟨j11, ej_, h⟩ := xjn_e h
        have hj11 : j11  = some q → xfm (W_X10_sheet ) s0 q.2 := by
          intro  h
          rw [ej_] at h
          refine fr_X10_sheet_47 (fun l6_44 l7_45 s46 hf h => ?_) xN _ _ _ hf h
          obtain ⟨v48, -, h⟩ := xlt_e h
          cases h; exact hf
        clear ej_
        rcases xif_o h with h | h
        · skip
          rcases xif_o h with h | h
          · skip
            cases h; exact hf
          · skip
            exact hj11  h
        · skip
          exact hj11  h
    · skip
      exact hj1  h
  · skip
    exact hj1  h
def W_X8_add : List (Int × Int) := [(2, -1), (1, 1)]
theorem fr_X8_add_16 {s0 : xW} {l1_2 : Int} {q : Int × xW} {k : Int → xW → Option (Int × xW)} (hk : ∀ (x0_ : Int) (x1_ : xW), xfm (W_X8_add ) s0 x1_ → k x0_ x1_ = some q → xfm (W_X8_add ) s0 q.2) : ∀ (f : Nat) (l2_3 : Int) (s4 : xW), xfm (W_X8_add ) s0 s4 → F_X8_add_16 l1_2 f l2_3 s4 k = some q → xfm (W_X8_add ) s0 q.2 := by
  intro f
  induction f with
  | zero => intro l2_3 s4 hf h; cases h
  | succ f ih =>
    intro l2_3 s4 hf h
    unfold F_X8_add_16 at h
    rcases xif_o h with h | h
    · skip
      replace h := (xgd_e h).2
      replace h := (xgd_e h).2
      obtain ⟨s8, e_, h⟩ := xlt_e h
      replace hf := xfm_uA hf (List.mem_of_getElem? (i := 0) rfl) e_
      clear e_
      obtain ⟨s10, e_, h⟩ := xlt_e h
      replace hf := xfm_uO hf (List.mem_of_getElem? (i := 1) rfl) e_
      clear e_
      exact ih (l2_3 + (-8)) s10 hf h
    · skip
      exact hk l2_3 s4 hf h
theorem fr_X8_add {a1 : Int} {s0 : xW} {q : Int × xW} (h : F_X8_add a1 s0 = some q) : xfm (W_X8_add ) s0 q.2 := by
  unfold F_X8_add at h
  have hf : xfm (W_X8_add ) s0 s0 := xfm_rf
  rcases xif_o h with h | h
  · skip
    cases h; exact hf
  · skip
    refine fr_X8_add_16 (fun l2_14 s15 hf h => ?_) xN _ _ hf h
    cases h; exact hf
def W_X10_sign : List (Int × Int) := [] ++ (W_X8_add)
theorem fr_X10_sign {a1 : Int} {s0 : xW} {q : Int × xW} (h : F_X10_sign a1 s0 = some q) : xfm (W_X10_sign ) s0 q.2 := by
  unfold F_X10_sign at h
  have hf : xfm (W_X10_sign ) s0 s0 := xfm_rf
  obtain ⟨r2, s3, e_, h⟩ := xbd_e h
  replace hf := xfm_c hf (fr_X8_add e_) (fun q hq => List.mem_append_right _ (hq))
  clear e_
  obtain ⟨v5, -, h⟩ := xlt_e h
  cases h; exact hf
def W_X10_span : List (Int × Int) := [] ++ (W_X10_planToday ++ (W_X6_tell__))
theorem fr_X10_span_38 {s0 : xW} {l1_8 : Int} {l2_9 : Int} {s12 : xW} (hf : xfm (W_X10_span ) s0 s12) {q : Int × xW} {k : Int → Int → Option (Int × xW)} (hk : ∀ (x0_ : Int) (x1_ : Int), k x0_ x1_ = some q → xfm (W_X10_span ) s0 q.2) : ∀ (f : Nat) (l3_10 : Int) (l4_11 : Int), F_X10_span_38 l1_8 l2_9 s12 f l3_10 l4_11 k = some q → xfm (W_X10_span ) s0 q.2 := by
  intro f
  induction f with
  | zero => intro l3_10 l4_11 h; cases h
  | succ f ih =>
    intro l3_10 l4_11 h
    unfold F_X10_span_38 at h
    rcases xif_o h with h | h
    · skip
      obtain ⟨r15, -, h⟩ := xbp_e h
      obtain ⟨j17, ej_, h⟩ := xjn_e h
      have hj17 : ∀ (l3_16 : Int), j17 l3_16 = some q → xfm (W_X10_span ) s0 q.2 := by
        intro l3_16 h
        rw [ej_] at h
        exact ih l3_16 (l4_11 + 1) h
      clear ej_
      rcases xif_o h with h | h
      · skip
        exact hj17 (l3_10 + 1) h
      · skip
        exact hj17 l3_10 h
    · skip
      exact hk l3_10 l4_11 h
theorem fr_X10_span {s0 : xW} {q : Int × xW} (h : F_X10_span  s0 = some q) : xfm (W_X10_span ) s0 q.2 := by
  unfold F_X10_span at h
  have hf : xfm (W_X10_span ) s0 s0 := xfm_rf
  rcases xif_o h with h | h
  · skip
    cases h; exact hf
  · skip
    obtain ⟨s3, e_, h⟩ := xbp_e h
    replace hf := xfm_c hf (fr_X10_planToday e_) (fun q hq => List.mem_append_right _ (List.mem_append_left _ hq))
    clear e_
    obtain ⟨r5, -, h⟩ := xbp_e h
    obtain ⟨r7, -, h⟩ := xbp_e h
    refine fr_X10_span_38 hf (fun l3_23 l4_24 h => ?_) xN _ _ h
    obtain ⟨s26, e_, h⟩ := xbp_e h
    replace hf := xfm_c hf (fr_X6_tell__ e_) (fun q hq => List.mem_append_right _ (List.mem_append_right _ (hq)))
    clear e_
    cases h; exact hf
def W_X10_together : List (Int × Int) := [] ++ (W_X10_planToday ++ (W_X6_tell))
theorem fr_X10_together_10 {s0 : xW} {s6 : xW} (hf : xfm (W_X10_together ) s0 s6) {q : Int × xW} {k : Int → Int → Int → Option (Int × xW)} (hk : ∀ (x0_ : Int) (x1_ : Int) (x2_ : Int), k x0_ x1_ x2_ = some q → xfm (W_X10_together ) s0 q.2) : ∀ (f : Nat) (l1_3 : Int) (l2_4 : Int) (l3_5 : Int), F_X10_together_10 s6 f l1_3 l2_4 l3_5 k = some q → xfm (W_X10_together ) s0 q.2 := by
  intro f
  induction f with
  | zero => intro l1_3 l2_4 l3_5 h; cases h
  | succ f ih =>
    intro l1_3 l2_4 l3_5 h
    unfold F_X10_together_10 at h
    rcases xif_o h with h | h
    · skip
      replace h := (xgd_e h).2
      obtain ⟨r10, -, h⟩ := xbp_e h
      obtain ⟨v12, -, h⟩ := xlt_e h
      obtain ⟨v16, -, h⟩ := xlt_e h
      exact ih (xor' l1_3 v12) (l2_4 + v16) (l3_5 + 1) h
    · skip
      exact hk l1_3 l2_4 l3_5 h
theorem fr_X10_together {s0 : xW} {q : Int × xW} (h : F_X10_together  s0 = some q) : xfm (W_X10_together ) s0 q.2 := by
  unfold F_X10_together at h
  have hf : xfm (W_X10_together ) s0 s0 := xfm_rf
  obtain ⟨s2, e_, h⟩ := xbp_e h
  replace hf := xfm_c hf (fr_X10_planToday e_) (fun q hq => List.mem_append_right _ (List.mem_append_left _ hq))
  clear e_
  refine fr_X10_together_10 hf (fun l1_22 l2_23 l3_24 h => ?_) xN _ _ _ h
  obtain ⟨s26, e_, h⟩ := xbp_e h
  replace hf := xfm_c hf (fr_X6_tell e_) (fun q hq => List.mem_append_right _ (List.mem_append_right _ (hq)))
  clear e_
  cases h; exact hf
def W_X3_takeBack : List (Int × Int) := [] ++ (W_X9_copy 17)
theorem fr_X3_takeBack {s0 : xW} {q : xW} (h : F_X3_takeBack  s0 = some q) : xfm (W_X3_takeBack ) s0 q := by
  unfold F_X3_takeBack at h
  have hf : xfm (W_X3_takeBack ) s0 s0 := xfm_rf
  replace h := (xgd_e h).2
  obtain ⟨hm_0, h⟩ := xgd_e h
  obtain ⟨s4, e_, h⟩ := xbp_e h
  replace hf := xfm_c hf (fr_X9_copy e_) (fun q hq => List.mem_append_right _ (hq))
  clear e_
  cases h; exact hf
def W_X3_bringBack : List (Int × Int) := [(21, 1), (21, 2)] ++ (W_X3_takeBack)
theorem fr_X3_bringBack {s0 : xW} {q : Int × xW} (h : F_X3_bringBack  s0 = some q) : xfm (W_X3_bringBack ) s0 q.2 := by
  unfold F_X3_bringBack at h
  have hf : xfm (W_X3_bringBack ) s0 s0 := xfm_rf
  rcases xif_o h with h | h
  · skip
    cases h; exact hf
  · skip
    obtain ⟨s2, e_, h⟩ := xlt_e h
    replace hf := xfm_uO hf (List.mem_append_left _ (List.mem_of_getElem? (i := 0) rfl)) e_
    clear e_
    obtain ⟨s4, e_, h⟩ := xlt_e h
    replace hf := xfm_uO hf (List.mem_append_left _ (List.mem_of_getElem? (i := 1) rfl)) e_
    clear e_
    obtain ⟨s7, e_, h⟩ := xbp_e h
    replace hf := xfm_c hf (fr_X3_takeBack e_) (fun q hq => List.mem_append_right _ (hq))
    clear e_
    cases h; exact hf
def W_X10_undo : List (Int × Int) := [] ++ (W_X3_bringBack)
theorem fr_X10_undo {s0 : xW} {q : Int × xW} (h : F_X10_undo  s0 = some q) : xfm (W_X10_undo ) s0 q.2 := by
  unfold F_X10_undo at h
  have hf : xfm (W_X10_undo ) s0 s0 := xfm_rf
  obtain ⟨r2, s3, e_, h⟩ := xbd_e h
  replace hf := xfm_c hf (fr_X3_bringBack e_) (fun q hq => List.mem_append_right _ (hq))
  clear e_
  obtain ⟨v5, -, h⟩ := xlt_e h
  cases h; exact hf
def W_X10_winds : List (Int × Int) := [] ++ (W_X10_readDigits 5)
theorem fr_X10_winds {s0 : xW} {q : Int × xW} (h : F_X10_winds  s0 = some q) : xfm (W_X10_winds ) s0 q.2 := by
  unfold F_X10_winds at h
  have hf : xfm (W_X10_winds ) s0 s0 := xfm_rf
  obtain ⟨r2, s3, e_, h⟩ := xbd_e h
  replace hf := xfm_c hf (fr_X10_readDigits e_) (fun q hq => List.mem_append_right _ (hq))
  clear e_
  cases h; exact hf
def W_X11_adds : List (Int × Int) := [(121, 28), (136, -1)]
theorem fr_X11_adds_21 {s0 : xW} {l1_8 : Int} {q : Int × xW} {k : Int → xW → Option (Int × xW)} (hk : ∀ (x0_ : Int) (x1_ : xW), xfm (W_X11_adds ) s0 x1_ → k x0_ x1_ = some q → xfm (W_X11_adds ) s0 q.2) : ∀ (f : Nat) (l2_9 : Int) (s10 : xW), xfm (W_X11_adds ) s0 s10 → F_X11_adds_21 l1_8 f l2_9 s10 k = some q → xfm (W_X11_adds ) s0 q.2 := by
  intro f
  induction f with
  | zero => intro l2_9 s10 hf h; cases h
  | succ f ih =>
    intro l2_9 s10 hf h
    unfold F_X11_adds_21 at h
    rcases xif_o h with h | h
    · skip
      replace h := (xgd_e h).2
      replace h := (xgd_e h).2
      obtain ⟨s14, e_, h⟩ := xlt_e h
      replace hf := xfm_uA hf (List.mem_of_getElem? (i := 1) rfl) e_
      clear e_
      exact ih (l2_9 + 1) s14 hf h
    · skip
      exact hk l2_9 s10 hf h
theorem fr_X11_adds {a1 : Int} {s0 : xW} {q : Int × xW} (h : F_X11_adds a1 s0 = some q) : xfm (W_X11_adds ) s0 q.2 := by
  unfold F_X11_adds at h
  have hf : xfm (W_X11_adds ) s0 s0 := xfm_rf
  obtain ⟨s1, e_, h⟩ := xlt_e h
  replace hf := xfm_uO hf (List.mem_of_getElem? (i := 0) rfl) e_
  clear e_
  obtain ⟨j4, ej_, h⟩ := xjn_e h
  have hj4 : ∀ (s3 : xW), xfm (W_X11_adds ) s0 s3 → j4 s3 = some q → xfm (W_X11_adds ) s0 q.2 := by
    intro s3 hf h
    rw [ej_] at h
    cases h; exact hf
  clear ej_
  rcases xif_o h with h | h
  · skip
    refine fr_X11_adds_21 (fun l2_18 s19 hf h => ?_) xN _ _ hf h
    obtain ⟨s20, e_, h⟩ := xlt_e h
    replace hf := xfm_uO hf (List.mem_of_getElem? (i := 0) rfl) e_
    clear e_
    exact hj4 s20 hf h
  · skip
    exact hj4 s1 hf h
def W_X11_again : List (Int × Int) := [(121, 0), (121, 28), (127, -1)]
theorem fr_X11_again_43 {s0 : xW} {l1_13 : Int} {q : Int × xW} {k : Int → xW → Option (Int × xW)} (hk : ∀ (x0_ : Int) (x1_ : xW), xfm (W_X11_again ) s0 x1_ → k x0_ x1_ = some q → xfm (W_X11_again ) s0 q.2) : ∀ (f : Nat) (l2_14 : Int) (s15 : xW), xfm (W_X11_again ) s0 s15 → F_X11_again_43 l1_13 f l2_14 s15 k = some q → xfm (W_X11_again ) s0 q.2 := by
  intro f
  induction f with
  | zero => intro l2_14 s15 hf h; cases h
  | succ f ih =>
    intro l2_14 s15 hf h
    unfold F_X11_again_43 at h
    rcases xif_o h with h | h
    · skip
      replace h := (xgd_e h).2
      replace h := (xgd_e h).2
      obtain ⟨s19, e_, h⟩ := xlt_e h
      replace hf := xfm_uA hf (List.mem_of_getElem? (i := 2) rfl) e_
      clear e_
      exact ih (l2_14 + 1) s19 hf h
    · skip
      exact hk l2_14 s15 hf h
theorem fr_X11_again {a1 : Int} {s0 : xW} {q : Int × xW} (h : F_X11_again a1 s0 = some q) : xfm (W_X11_again ) s0 q.2 := by
  unfold F_X11_again at h
  have hf : xfm (W_X11_again ) s0 s0 := xfm_rf
  obtain ⟨s1, e_, h⟩ := xlt_e h
  replace hf := xfm_uO hf (List.mem_of_getElem? (i := 0) rfl) e_
  clear e_
  obtain ⟨r4, -, h⟩ := xbp_e h
  obtain ⟨j5, ej_, h⟩ := xjn_e h
  have hj5 : j5  = some q → xfm (W_X11_again ) s0 q.2 := by
    intro  h
    rw [ej_] at h
    cases h; exact hf
  clear ej_
  rcases xif_o h with h | h
  · skip
    replace h := (xgd_e h).2
    rcases xif_o h with h | h
    · skip
      replace h := (xgd_e h).2
      rcases xif_o h with h | h
      · skip
        exact hj5  h
      · skip
        refine fr_X11_again_43 (fun l2_23 s24 hf h => ?_) xN _ _ hf h
        obtain ⟨s25, e_, h⟩ := xlt_e h
        replace hf := xfm_uO hf (List.mem_of_getElem? (i := 1) rfl) e_
        clear e_
        cases h; exact hf
    · skip
      exact hj5  h
  · skip
    exact hj5  h
def W_X11_copies : List (Int × Int) := [(128, -1)]
theorem fr_X11_copies_2 {s0 : xW} {q : xW} {k : Int → xW → Option (xW)} (hk : ∀ (x0_ : Int) (x1_ : xW), xfm (W_X11_copies ) s0 x1_ → k x0_ x1_ = some q → xfm (W_X11_copies ) s0 q) : ∀ (f : Nat) (l1_1 : Int) (s2 : xW), xfm (W_X11_copies ) s0 s2 → F_X11_copies_2  f l1_1 s2 k = some q → xfm (W_X11_copies ) s0 q := by
  intro f
  induction f with
  | zero => intro l1_1 s2 hf h; cases h
  | succ f ih =>
    intro l1_1 s2 hf h
    unfold F_X11_copies_2 at h
    rcases xif_o h with h | h
    · skip
      replace h := (xgd_e h).2
      replace h := (xgd_e h).2
      obtain ⟨s6, e_, h⟩ := xlt_e h
      replace hf := xfm_uA hf (List.mem_of_getElem? (i := 0) rfl) e_
      clear e_
      exact ih (l1_1 + 1) s6 hf h
    · skip
      exact hk l1_1 s2 hf h
theorem fr_X11_copies {s0 : xW} {q : xW} (h : F_X11_copies  s0 = some q) : xfm (W_X11_copies ) s0 q := by
  unfold F_X11_copies at h
  have hf : xfm (W_X11_copies ) s0 s0 := xfm_rf
  refine fr_X11_copies_2 (fun l1_10 s11 hf h => ?_) xN _ _ hf h
  cases h; exact hf
def W_X11_enters : List (Int × Int) := [(122, -1), (121, 1)]
theorem fr_X11_enters {a1 : Int} {s0 : xW} {q : xW} (h : F_X11_enters a1 s0 = some q) : xfm (W_X11_enters ) s0 q := by
  unfold F_X11_enters at h
  have hf : xfm (W_X11_enters ) s0 s0 := xfm_rf
  replace h := (xgd_e h).2
  obtain ⟨s2, e_, h⟩ := xlt_e h
  replace hf := xfm_uA hf (List.mem_of_getElem? (i := 0) rfl) e_
  clear e_
  obtain ⟨s4, e_, h⟩ := xlt_e h
  replace hf := xfm_uO hf (List.mem_of_getElem? (i := 1) rfl) e_
  clear e_
  cases h; exact hf
def W_X11_ruled : List (Int × Int) := [(133, -1)]
theorem fr_X11_ruled_4 {s0 : xW} {q : Int × xW} {k : Int → Int → xW → Option (Int × xW)} (hk : ∀ (x0_ : Int) (x1_ : Int) (x2_ : xW), xfm (W_X11_ruled ) s0 x2_ → k x0_ x1_ x2_ = some q → xfm (W_X11_ruled ) s0 q.2) : ∀ (f : Nat) (l1_1 : Int) (l2_2 : Int) (s3 : xW), xfm (W_X11_ruled ) s0 s3 → F_X11_ruled_4  f l1_1 l2_2 s3 k = some q → xfm (W_X11_ruled ) s0 q.2 := by
  intro f
  induction f with
  | zero => intro l1_1 l2_2 s3 hf h; cases h
  | succ f ih =>
    intro l1_1 l2_2 s3 hf h
    unfold F_X11_ruled_4 at h
    rcases xif_o h with h | h
    · skip
      replace h := (xgd_e h).2
      obtain ⟨j8, ej_, h⟩ := xjn_e h
      have hj8 : ∀ (l1_6 : Int) (s7 : xW), xfm (W_X11_ruled ) s0 s7 → j8 l1_6 s7 = some q → xfm (W_X11_ruled ) s0 q.2 := by
        intro l1_6 s7 hf h
        rw [ej_] at h
        exact ih l1_6 (l2_2 + 1) s7 hf h
      clear ej_
      rcases xif_o h with h | h
      · skip
        replace h := (xgd_e h).2
        replace h := (xgd_e h).2
        obtain ⟨s31, e_, h⟩ := xlt_e h
        replace hf := xfm_uA hf (List.mem_of_getElem? (i := 0) rfl) e_
        clear e_
        exact hj8 l1_1 s31 hf h
      · skip
        rcases xif_o h with h | h
        · skip
          replace h := (xgd_e h).2
          replace h := (xgd_e h).2
          obtain ⟨r25, -, h⟩ := xbp_e h
          replace h := (xgd_e h).2
          obtain ⟨s27, e_, h⟩ := xlt_e h
          replace hf := xfm_uA hf (List.mem_of_getElem? (i := 0) rfl) e_
          clear e_
          exact hj8 (l1_1 + (-1)) s27 hf h
        · skip
          obtain ⟨j14, ej_, h⟩ := xjn_e h
          have hj14 : ∀ (t13 : Int), j14 t13 = some q → xfm (W_X11_ruled ) s0 q.2 := by
            intro t13 h
            rw [ej_] at h
            replace h := (xgd_e h).2
            obtain ⟨s18, e_, h⟩ := xlt_e h
            replace hf := xfm_uA hf (List.mem_of_getElem? (i := 0) rfl) e_
            clear e_
            exact hj8 (l1_1 + 1) s18 hf h
          clear ej_
          rcases xif_o h with h | h
          · skip
            replace h := (xgd_e h).2
            exact hj14 (s3 134 ((s3 131 l2_2) - 1000)) h
          · skip
            exact hj14 (s3 131 l2_2) h
    · skip
      exact hk l1_1 l2_2 s3 hf h
theorem fr_X11_ruled {s0 : xW} {q : Int × xW} (h : F_X11_ruled  s0 = some q) : xfm (W_X11_ruled ) s0 q.2 := by
  unfold F_X11_ruled at h
  have hf : xfm (W_X11_ruled ) s0 s0 := xfm_rf
  refine fr_X11_ruled_4 (fun l1_36 l2_37 s38 hf h => ?_) xN _ _ _ hf h
  obtain ⟨j40, ej_, h⟩ := xjn_e h
  have hj40 : ∀ (t39 : Int), j40 t39 = some q → xfm (W_X11_ruled ) s0 q.2 := by
    intro t39 h
    rw [ej_] at h
    cases h; exact hf
  clear ej_
  rcases xif_o h with h | h
  · skip
    exact hj40 ((2 * (s38 134 0)) - (Int.tdiv (xw (s38 134 1)) 2)) h
  · skip
    exact hj40 (s38 133 0) h
def W_X11_hearsBy (a1 : Int) : List (Int × Int) := [(134, -1)] ++ (W_X11_ruled)
theorem fr_X11_hearsBy {a1 : Int} {a2 : Int} {a3 : Int} {a4 : Int} {a5 : Int} {s0 : xW} {q : Int × xW} (h : F_X11_hearsBy a1 a2 a3 a4 a5 s0 = some q) : xfm (W_X11_hearsBy a1) s0 q.2 := by
  unfold F_X11_hearsBy at h
  have hf : xfm (W_X11_hearsBy a1) s0 s0 := xfm_rf
  obtain ⟨hm_0, h⟩ := xgd_e h
  replace h := (xgd_e h).2
  replace h := (xgd_e h).2
  obtain ⟨r4, -, h⟩ := xbp_e h
  obtain ⟨r6, -, h⟩ := xbp_e h
  obtain ⟨r8, -, h⟩ := xbp_e h
  obtain ⟨v10, -, h⟩ := xlt_e h
  obtain ⟨s13, e_, h⟩ := xlt_e h
  replace hf := xfm_uA hf (List.mem_append_left _ (List.mem_of_getElem? (i := 0) rfl)) e_
  clear e_
  obtain ⟨s15, e_, h⟩ := xlt_e h
  replace hf := xfm_uA hf (List.mem_append_left _ (List.mem_of_getElem? (i := 0) rfl)) e_
  clear e_
  obtain ⟨s17, e_, h⟩ := xlt_e h
  replace hf := xfm_uA hf (List.mem_append_left _ (List.mem_of_getElem? (i := 0) rfl)) e_
  clear e_
  obtain ⟨s19, e_, h⟩ := xlt_e h
  replace hf := xfm_uA hf (List.mem_append_left _ (List.mem_of_getElem? (i := 0) rfl)) e_
  clear e_
  obtain ⟨s21, e_, h⟩ := xlt_e h
  replace hf := xfm_uA hf (List.mem_append_left _ (List.mem_of_getElem? (i := 0) rfl)) e_
  clear e_
  obtain ⟨s23, e_, h⟩ := xlt_e h
  replace hf := xfm_uA hf (List.mem_append_left _ (List.mem_of_getElem? (i := 0) rfl)) e_
  clear e_
  obtain ⟨r26, -, h⟩ := xbp_e h
  obtain ⟨s27, e_, h⟩ := xlt_e h
  replace hf := xfm_uA hf (List.mem_append_left _ (List.mem_of_getElem? (i := 0) rfl)) e_
  clear e_
  obtain ⟨r30, s31, e_, h⟩ := xbd_e h
  replace hf := xfm_c hf (fr_X11_ruled e_) (fun q hq => List.mem_append_right _ (hq))
  clear e_
  cases h; exact hf
def W_X11_hears (a1 : Int) : List (Int × Int) := [] ++ (W_X11_hearsBy a1)
theorem fr_X11_hears {a1 : Int} {a2 : Int} {s0 : xW} {q : Int × xW} (h : F_X11_hears a1 a2 s0 = some q) : xfm (W_X11_hears a1) s0 q.2 := by
  unfold F_X11_hears at h
  have hf : xfm (W_X11_hears a1) s0 s0 := xfm_rf
  obtain ⟨hm_0, h⟩ := xgd_e h
  obtain ⟨r2, -, h⟩ := xbp_e h
  obtain ⟨r4, -, h⟩ := xbp_e h
  obtain ⟨r6, s7, e_, h⟩ := xbd_e h
  replace hf := xfm_c hf (fr_X11_hearsBy e_) (fun q hq => List.mem_append_right _ (hq))
  clear e_
  cases h; exact hf
def W_X11_laysBegins (a1 : Int) : List (Int × Int) := [(135, -1)] ++ (W_X11_hears a1)
theorem fr_X11_laysBegins_2 {s0 : xW} {l1_1 : Int} (hm_l1_1 : l1_1 ∈ xNows) {q : xW} {k : Int → xW → Option (xW)} (hk : ∀ (x0_ : Int) (x1_ : xW), xfm (W_X11_laysBegins l1_1) s0 x1_ → k x0_ x1_ = some q → xfm (W_X11_laysBegins l1_1) s0 q) : ∀ (f : Nat) (l2_3 : Int) (s4 : xW), xfm (W_X11_laysBegins l1_1) s0 s4 → F_X11_laysBegins_2 l1_1 f l2_3 s4 k = some q → xfm (W_X11_laysBegins l1_1) s0 q := by
  intro f
  induction f with
  | zero => intro l2_3 s4 hf h; cases h
  | succ f ih =>
    intro l2_3 s4 hf h
    unfold F_X11_laysBegins_2 at h
    rcases xif_o h with h | h
    · skip
      replace h := (xgd_e h).2
      obtain ⟨r8, s9, e_, h⟩ := xbd_e h
      replace hf := xfm_c hf (fr_X11_hears e_) (fun q hq => List.mem_append_right _ (hq))
      clear e_
      replace h := (xgd_e h).2
      obtain ⟨s11, e_, h⟩ := xlt_e h
      replace hf := xfm_uA hf (List.mem_append_left _ (List.mem_of_getElem? (i := 0) rfl)) e_
      clear e_
      exact ih (l2_3 + 1) s11 hf h
    · skip
      exact hk l2_3 s4 hf h
theorem fr_X11_laysBegins {a1 : Int} {s0 : xW} {q : xW} (h : F_X11_laysBegins a1 s0 = some q) : xfm (W_X11_laysBegins a1) s0 q := by
  unfold F_X11_laysBegins at h
  have hf : xfm (W_X11_laysBegins a1) s0 s0 := xfm_rf
  obtain ⟨hm_0, h⟩ := xgd_e h
  refine fr_X11_laysBegins_2 (by assumption) (fun l2_15 s16 hf h => ?_) xN _ _ hf h
  cases h; exact hf
def W_X11_clashesOn (a1 : Int) : List (Int × Int) := [] ++ (W_X11_laysBegins a1)
theorem fr_X11_clashesOn_9 {s0 : xW} {l1_3 : Int} {s7 : xW} (hf : xfm (W_X11_clashesOn l1_3) s0 s7) (hm_l1_3 : l1_3 ∈ xNows) {q : Int × xW} {k : Int → Int → Option (Int × xW)} (hk : ∀ (x0_ : Int) (x1_ : Int), k x0_ x1_ = some q → xfm (W_X11_clashesOn l1_3) s0 q.2) : ∀ (f : Nat) (l2_5 : Int) (l3_6 : Int), F_X11_clashesOn_9 l1_3 s7 f l2_5 l3_6 k = some q → xfm (W_X11_clashesOn l1_3) s0 q.2 := by
  intro f
  induction f with
  | zero => intro l2_5 l3_6 h; cases h
  | succ f ih =>
    intro l2_5 l3_6 h
    unfold F_X11_clashesOn_9 at h
    rcases xif_o h with h | h
    · skip
      obtain ⟨r10, -, h⟩ := xbp_e h
      exact ih (l2_5 + (xbc r10)) (l3_6 + 1) h
    · skip
      exact hk l2_5 l3_6 h
theorem fr_X11_clashesOn {a1 : Int} {s0 : xW} {q : Int × xW} (h : F_X11_clashesOn a1 s0 = some q) : xfm (W_X11_clashesOn a1) s0 q.2 := by
  unfold F_X11_clashesOn at h
  have hf : xfm (W_X11_clashesOn a1) s0 s0 := xfm_rf
  obtain ⟨hm_0, h⟩ := xgd_e h
  obtain ⟨s2, e_, h⟩ := xbp_e h
  replace hf := xfm_c hf (fr_X11_laysBegins e_) (fun q hq => List.mem_append_right _ (hq))
  clear e_
  refine fr_X11_clashesOn_9 hf (by assumption) (fun l2_13 l3_14 h => ?_) xN _ _ h
  cases h; exact hf
def W_X11_ahead : List (Int × Int) := [(121, 0), (128, -1), (121, 1)] ++ (W_X11_copies ++ (W_X11_enters ++ (W_X11_clashesOn 128)))
theorem fr_X11_ahead {a1 : Int} {s0 : xW} {q : Int × xW} (h : F_X11_ahead a1 s0 = some q) : xfm (W_X11_ahead ) s0 q.2 := by
  unfold F_X11_ahead at h
  have hf : xfm (W_X11_ahead ) s0 s0 := xfm_rf
  obtain ⟨s1, e_, h⟩ := xlt_e h
  replace hf := xfm_uO hf (List.mem_append_left _ (List.mem_of_getElem? (i := 0) rfl)) e_
  clear e_
  obtain ⟨r4, -, h⟩ := xbp_e h
  rcases xif_o h with h | h
  · skip
    cases h; exact hf
  · skip
    obtain ⟨s7, e_, h⟩ := xbp_e h
    replace hf := xfm_c hf (fr_X11_copies e_) (fun q hq => List.mem_append_right _ (List.mem_append_left _ hq))
    clear e_
    obtain ⟨s8, e_, h⟩ := xlt_e h
    replace hf := xfm_uA hf (List.mem_append_left _ (List.mem_of_getElem? (i := 1) rfl)) e_
    clear e_
    obtain ⟨s10, e_, h⟩ := xlt_e h
    replace hf := xfm_uO hf (List.mem_append_left _ (List.mem_of_getElem? (i := 2) rfl)) e_
    clear e_
    obtain ⟨r13, -, h⟩ := xbp_e h
    obtain ⟨s15, e_, h⟩ := xbp_e h
    replace hf := xfm_c hf (fr_X11_enters e_) (fun q hq => List.mem_append_right _ (List.mem_append_right _ (List.mem_append_left _ hq)))
    clear e_
    obtain ⟨r17, -, h⟩ := xbp_e h
    obtain ⟨s19, e_, h⟩ := xbp_e h
    replace hf := xfm_c hf (fr_X11_enters e_) (fun q hq => List.mem_append_right _ (List.mem_append_right _ (List.mem_append_left _ hq)))
    clear e_
    obtain ⟨r21, s22, e_, h⟩ := xbd_e h
    replace hf := xfm_c hf (fr_X11_clashesOn e_) (fun q hq => List.mem_append_right _ (List.mem_append_right _ (List.mem_append_right _ (hq))))
    clear e_
    cases h; exact hf
def W_X11_apart : List (Int × Int) := [(121, 0), (121, 1)] ++ (W_X11_enters)
theorem fr_X11_apart_29 {s0 : xW} {l4_12 : Int} {s14 : xW} (hf : xfm (W_X11_apart ) s0 s14) {q : Int × xW} {k : Int → Int → Int → Int → Option (Int × xW)} (hk : ∀ (x0_ : Int) (x1_ : Int) (x2_ : Int) (x3_ : Int), k x0_ x1_ x2_ x3_ = some q → xfm (W_X11_apart ) s0 q.2) : ∀ (f : Nat) (l1_9 : Int) (l2_10 : Int) (l3_11 : Int) (l5_13 : Int), F_X11_apart_29 l4_12 s14 f l1_9 l2_10 l3_11 l5_13 k = some q → xfm (W_X11_apart ) s0 q.2 := by
  intro f
  induction f with
  | zero => intro l1_9 l2_10 l3_11 l5_13 h; cases h
  | succ f ih =>
    intro l1_9 l2_10 l3_11 l5_13 h
    unfold F_X11_apart_29 at h
    rcases xif_o h with h | h
    · skip
      replace h := (xgd_e h).2
      replace h := (xgd_e h).2
      obtain ⟨j21, ej_, h⟩ := xjn_e h
      have hj21 : ∀ (l1_18 : Int) (l2_19 : Int) (l3_20 : Int), j21 l1_18 l2_19 l3_20 = some q → xfm (W_X11_apart ) s0 q.2 := by
        intro l1_18 l2_19 l3_20 h
        rw [ej_] at h
        exact ih l1_18 l2_19 l3_20 (l5_13 + 1) h
      clear ej_
      rcases xif_o h with h | h
      · skip
        exact hj21 l4_12 l5_13 (xab (xw ((s14 127 (16 + l4_12)) - (s14 127 (16 + l5_13))))) h
      · skip
        exact hj21 l1_9 l2_10 l3_11 h
    · skip
      exact hk l1_9 l2_10 l3_11 l5_13 h
theorem fr_X11_apart_14 {s0 : xW} {s7 : xW} (hf : xfm (W_X11_apart ) s0 s7) {q : Int × xW} {k : Int → Int → Int → Int → Option (Int × xW)} (hk : ∀ (x0_ : Int) (x1_ : Int) (x2_ : Int) (x3_ : Int), k x0_ x1_ x2_ x3_ = some q → xfm (W_X11_apart ) s0 q.2) : ∀ (f : Nat) (l1_3 : Int) (l2_4 : Int) (l3_5 : Int) (l4_6 : Int), F_X11_apart_14 s7 f l1_3 l2_4 l3_5 l4_6 k = some q → xfm (W_X11_apart ) s0 q.2 := by
  intro f
  induction f with
  | zero => intro l1_3 l2_4 l3_5 l4_6 h; cases h
  | succ f ih =>
    intro l1_3 l2_4 l3_5 l4_6 h
    unfold F_X11_apart_14 at h
    rcases xif_o h with h | h
    · skip
      refine fr_X11_apart_29 hf (fun l1_29 l2_30 l3_31 l5_32 h => ?_) xN _ _ _ _ h
      exact ih l1_29 l2_30 l3_31 (l4_6 + 1) h
    · skip
      exact hk l1_3 l2_4 l3_5 l4_6 h
theorem fr_X11_apart {s0 : xW} {q : Int × xW} (h : F_X11_apart  s0 = some q) : xfm (W_X11_apart ) s0 q.2 := by
  unfold F_X11_apart at h
  have hf : xfm (W_X11_apart ) s0 s0 := xfm_rf
  obtain ⟨s1, e_, h⟩ := xlt_e h
  replace hf := xfm_uO hf (List.mem_append_left _ (List.mem_of_getElem? (i := 0) rfl)) e_
  clear e_
  refine fr_X11_apart_14 hf (fun l1_37 l2_38 l3_39 l4_40 h => ?_) xN _ _ _ _ h
  rcases xif_o h with h | h
  · skip
    cases h; exact hf
  · skip
    obtain ⟨s42, e_, h⟩ := xlt_e h
    replace hf := xfm_uO hf (List.mem_append_left _ (List.mem_of_getElem? (i := 1) rfl)) e_
    clear e_
    obtain ⟨s45, e_, h⟩ := xbp_e h
    replace hf := xfm_c hf (fr_X11_enters e_) (fun q hq => List.mem_append_right _ (hq))
    clear e_
    obtain ⟨s47, e_, h⟩ := xbp_e h
    replace hf := xfm_c hf (fr_X11_enters e_) (fun q hq => List.mem_append_right _ (hq))
    clear e_
    cases h; exact hf
def W_X11_isSo : List (Int × Int) := [] ++ (W_X11_hearsBy 127)
theorem fr_X11_isSo_4 {s0 : xW} {l1_1 : Int} {q : Int × xW} {k : Int → Int → xW → Option (Int × xW)} (hk : ∀ (x0_ : Int) (x1_ : Int) (x2_ : xW), xfm (W_X11_isSo ) s0 x2_ → k x0_ x1_ x2_ = some q → xfm (W_X11_isSo ) s0 q.2) : ∀ (f : Nat) (l2_2 : Int) (l3_3 : Int) (s4 : xW), xfm (W_X11_isSo ) s0 s4 → F_X11_isSo_4 l1_1 f l2_2 l3_3 s4 k = some q → xfm (W_X11_isSo ) s0 q.2 := by
  intro f
  induction f with
  | zero => intro l2_2 l3_3 s4 hf h; cases h
  | succ f ih =>
    intro l2_2 l3_3 s4 hf h
    unfold F_X11_isSo_4 at h
    rcases xif_o h with h | h
    · skip
      obtain ⟨j8, ej_, h⟩ := xjn_e h
      have hj8 : ∀ (t6 : Int) (s7 : xW), xfm (W_X11_isSo ) s0 s7 → j8 t6 s7 = some q → xfm (W_X11_isSo ) s0 q.2 := by
        intro t6 s7 hf h
        rw [ej_] at h
        exact ih t6 (l3_3 + 1) s7 hf h
      clear ej_
      obtain ⟨j12, ej_, h⟩ := xjn_e h
      have hj12 : ∀ (s11 : xW), xfm (W_X11_isSo ) s0 s11 → j12 s11 = some q → xfm (W_X11_isSo ) s0 q.2 := by
        intro s11 hf h
        rw [ej_] at h
        exact hj8 0 s11 hf h
      clear ej_
      rcases xif_o h with h | h
      · skip
        replace h := (xgd_e h).2
        obtain ⟨r18, s19, e_, h⟩ := xbd_e h
        replace hf := xfm_c hf (fr_X11_hearsBy e_) (fun q hq => List.mem_append_right _ (hq))
        clear e_
        replace h := (xgd_e h).2
        rcases xif_o h with h | h
        · skip
          exact hj8 1 s19 hf h
        · skip
          exact hj12 s19 hf h
      · skip
        exact hj12 s4 hf h
    · skip
      exact hk l2_2 l3_3 s4 hf h
theorem fr_X11_isSo {a1 : Int} {s0 : xW} {q : Int × xW} (h : F_X11_isSo a1 s0 = some q) : xfm (W_X11_isSo ) s0 q.2 := by
  unfold F_X11_isSo at h
  have hf : xfm (W_X11_isSo ) s0 s0 := xfm_rf
  refine fr_X11_isSo_4 (fun l2_25 l3_26 s27 hf h => ?_) xN _ _ _ hf h
  replace h := (xgd_e h).2
  cases h; exact hf
def W_X11_asks : List (Int × Int) := [(121, 0), (121, 1), (142, -1)] ++ (W_X11_enters ++ (W_X11_isSo ++ (W_X11_hearsBy 127)))
theorem fr_X11_asks_28 {s0 : xW} {l1_8 : Int} {l2_9 : Int} {l3_10 : Int} {l4_11 : Int} {q : Int × xW} {k : Int → xW → Option (Int × xW)} (hk : ∀ (x0_ : Int) (x1_ : xW), xfm (W_X11_asks ) s0 x1_ → k x0_ x1_ = some q → xfm (W_X11_asks ) s0 q.2) : ∀ (f : Nat) (l5_12 : Int) (s13 : xW), xfm (W_X11_asks ) s0 s13 → F_X11_asks_28 l1_8 l2_9 l3_10 l4_11 f l5_12 s13 k = some q → xfm (W_X11_asks ) s0 q.2 := by
  intro f
  induction f with
  | zero => intro l5_12 s13 hf h; cases h
  | succ f ih =>
    intro l5_12 s13 hf h
    unfold F_X11_asks_28 at h
    rcases xif_o h with h | h
    · skip
      replace h := (xgd_e h).2
      obtain ⟨s16, e_, h⟩ := xlt_e h
      replace hf := xfm_uA hf (List.mem_append_left _ (List.mem_of_getElem? (i := 2) rfl)) e_
      clear e_
      exact ih (l5_12 + 1) s16 hf h
    · skip
      exact hk l5_12 s13 hf h
theorem fr_X11_asks_53 {s0 : xW} {l1_22 : Int} {l2_23 : Int} {l3_24 : Int} {q : Int × xW} {k : Int → Int → xW → Option (Int × xW)} (hk : ∀ (x0_ : Int) (x1_ : Int) (x2_ : xW), xfm (W_X11_asks ) s0 x2_ → k x0_ x1_ x2_ = some q → xfm (W_X11_asks ) s0 q.2) : ∀ (f : Nat) (l4_25 : Int) (l5_26 : Int) (s27 : xW), xfm (W_X11_asks ) s0 s27 → F_X11_asks_53 l1_22 l2_23 l3_24 f l4_25 l5_26 s27 k = some q → xfm (W_X11_asks ) s0 q.2 := by
  intro f
  induction f with
  | zero => intro l4_25 l5_26 s27 hf h; cases h
  | succ f ih =>
    intro l4_25 l5_26 s27 hf h
    unfold F_X11_asks_53 at h
    rcases xif_o h with h | h
    · skip
      obtain ⟨r30, s31, e_, h⟩ := xbd_e h
      replace hf := xfm_c hf (fr_X11_isSo e_) (fun q hq => List.mem_append_right _ (List.mem_append_right _ (List.mem_append_left _ hq)))
      clear e_
      obtain ⟨j34, ej_, h⟩ := xjn_e h
      have hj34 : ∀ (l4_32 : Int) (s33 : xW), xfm (W_X11_asks ) s0 s33 → j34 l4_32 s33 = some q → xfm (W_X11_asks ) s0 q.2 := by
        intro l4_32 s33 hf h
        rw [ej_] at h
        exact ih l4_32 (l5_26 + 1) s33 hf h
      clear ej_
      rcases xif_o h with h | h
      · skip
        obtain ⟨r39, s40, e_, h⟩ := xbd_e h
        replace hf := xfm_c hf (fr_X11_hearsBy e_) (fun q hq => List.mem_append_right _ (List.mem_append_right _ (List.mem_append_right _ (hq))))
        clear e_
        replace h := (xgd_e h).2
        replace h := (xgd_e h).2
        obtain ⟨s43, e_, h⟩ := xlt_e h
        replace hf := xfm_uA hf (List.mem_append_left _ (List.mem_of_getElem? (i := 2) rfl)) e_
        clear e_
        replace h := (xgd_e h).2
        exact hj34 (max (xw l4_25) (xw (s43 142 r39))) s43 hf h
      · skip
        exact hj34 l4_25 s31 hf h
    · skip
      exact hk l4_25 l5_26 s27 hf h
theorem fr_X11_asks_14 {s0 : xW} {q : Int × xW} {k : Int → Int → Int → xW → Option (Int × xW)} (hk : ∀ (x0_ : Int) (x1_ : Int) (x2_ : Int) (x3_ : xW), xfm (W_X11_asks ) s0 x3_ → k x0_ x1_ x2_ x3_ = some q → xfm (W_X11_asks ) s0 q.2) : ∀ (f : Nat) (l1_3 : Int) (l2_4 : Int) (l3_5 : Int) (s6 : xW), xfm (W_X11_asks ) s0 s6 → F_X11_asks_14  f l1_3 l2_4 l3_5 s6 k = some q → xfm (W_X11_asks ) s0 q.2 := by
  intro f
  induction f with
  | zero => intro l1_3 l2_4 l3_5 s6 hf h; cases h
  | succ f ih =>
    intro l1_3 l2_4 l3_5 s6 hf h
    unfold F_X11_asks_14 at h
    rcases xif_o h with h | h
    · skip
      refine fr_X11_asks_28 (fun l5_20 s21 hf h => ?_) xN _ _ hf h
      refine fr_X11_asks_53 (fun l4_49 l5_50 s51 hf h => ?_) xN _ _ _ hf h
      obtain ⟨v54, -, h⟩ := xlt_e h
      obtain ⟨j58, ej_, h⟩ := xjn_e h
      have hj58 : ∀ (t57 : Int), j58 t57 = some q → xfm (W_X11_asks ) s0 q.2 := by
        intro t57 h
        rw [ej_] at h
        exact ih v54 t57 (l3_5 + 1) s51 hf h
      clear ej_
      rcases xif_o h with h | h
      · skip
        exact hj58 (min (xw l2_4) (xw l4_49)) h
      · skip
        exact hj58 l2_4 h
    · skip
      exact hk l1_3 l2_4 l3_5 s6 hf h
theorem fr_X11_asks {s0 : xW} {q : Int × xW} (h : F_X11_asks  s0 = some q) : xfm (W_X11_asks ) s0 q.2 := by
  unfold F_X11_asks at h
  have hf : xfm (W_X11_asks ) s0 s0 := xfm_rf
  obtain ⟨s1, e_, h⟩ := xlt_e h
  replace hf := xfm_uO hf (List.mem_append_left _ (List.mem_of_getElem? (i := 0) rfl)) e_
  clear e_
  refine fr_X11_asks_14 (fun l1_66 l2_67 l3_68 s69 hf h => ?_) xN _ _ _ _ hf h
  obtain ⟨j71, ej_, h⟩ := xjn_e h
  have hj71 : ∀ (s70 : xW), xfm (W_X11_asks ) s0 s70 → j71 s70 = some q → xfm (W_X11_asks ) s0 q.2 := by
    intro s70 hf h
    rw [ej_] at h
    cases h; exact hf
  clear ej_
  rcases xif_o h with h | h
  · skip
    obtain ⟨s75, e_, h⟩ := xlt_e h
    replace hf := xfm_uO hf (List.mem_append_left _ (List.mem_of_getElem? (i := 1) rfl)) e_
    clear e_
    obtain ⟨s78, e_, h⟩ := xbp_e h
    replace hf := xfm_c hf (fr_X11_enters e_) (fun q hq => List.mem_append_right _ (List.mem_append_left _ hq))
    clear e_
    exact hj71 s78 hf h
  · skip
    exact hj71 s69 hf h
def W_X11_begins : List (Int × Int) := [(121, 15), (121, 16), (121, 18), (121, 17)]
theorem fr_X11_begins {a1 : Int} {s0 : xW} {q : Int × xW} (h : F_X11_begins a1 s0 = some q) : xfm (W_X11_begins ) s0 q.2 := by
  unfold F_X11_begins at h
  have hf : xfm (W_X11_begins ) s0 s0 := xfm_rf
  obtain ⟨s1, e_, h⟩ := xlt_e h
  replace hf := xfm_uO hf (List.mem_of_getElem? (i := 0) rfl) e_
  clear e_
  obtain ⟨s3, e_, h⟩ := xlt_e h
  replace hf := xfm_uO hf (List.mem_of_getElem? (i := 1) rfl) e_
  clear e_
  obtain ⟨s5, e_, h⟩ := xlt_e h
  replace hf := xfm_uO hf (List.mem_of_getElem? (i := 2) rfl) e_
  clear e_
  obtain ⟨s7, e_, h⟩ := xlt_e h
  replace hf := xfm_uO hf (List.mem_of_getElem? (i := 3) rfl) e_
  clear e_
  cases h; exact hf
def W_X11_best : List (Int × Int) := [(121, 0), (121, 1), (128, -1)] ++ (W_X11_clashesOn 127 ++ (W_X11_copies ++ (W_X11_enters ++ (W_X11_clashesOn 128))))
theorem fr_X11_best_27 {s0 : xW} {l1_8 : Int} {q : Int × xW} {k : Int → Int → Int → xW → Option (Int × xW)} (hk : ∀ (x0_ : Int) (x1_ : Int) (x2_ : Int) (x3_ : xW), xfm (W_X11_best ) s0 x3_ → k x0_ x1_ x2_ x3_ = some q → xfm (W_X11_best ) s0 q.2) : ∀ (f : Nat) (l2_9 : Int) (l3_10 : Int) (l4_11 : Int) (s12 : xW), xfm (W_X11_best ) s0 s12 → F_X11_best_27 l1_8 f l2_9 l3_10 l4_11 s12 k = some q → xfm (W_X11_best ) s0 q.2 := by
  intro f
  induction f with
  | zero => intro l2_9 l3_10 l4_11 s12 hf h; cases h
  | succ f ih =>
    intro l2_9 l3_10 l4_11 s12 hf h
    unfold F_X11_best_27 at h
    rcases xif_o h with h | h
    · skip
      obtain ⟨s14, e_, h⟩ := xlt_e h
      replace hf := xfm_uA hf (List.mem_append_left _ (List.mem_of_getElem? (i := 2) rfl)) e_
      clear e_
      obtain ⟨s16, e_, h⟩ := xlt_e h
      replace hf := xfm_uA hf (List.mem_append_left _ (List.mem_of_getElem? (i := 2) rfl)) e_
      clear e_
      obtain ⟨r19, s20, e_, h⟩ := xbd_e h
      replace hf := xfm_c hf (fr_X11_clashesOn e_) (fun q hq => List.mem_append_right _ (List.mem_append_right _ (List.mem_append_right _ (List.mem_append_right _ (hq)))))
      clear e_
      obtain ⟨v22, -, h⟩ := xlt_e h
      exact ih v22 (min (xw l3_10) (xw r19)) (l4_11 + 1) s20 hf h
    · skip
      exact hk l2_9 l3_10 l4_11 s12 hf h
theorem fr_X11_best {s0 : xW} {q : Int × xW} (h : F_X11_best  s0 = some q) : xfm (W_X11_best ) s0 q.2 := by
  unfold F_X11_best at h
  have hf : xfm (W_X11_best ) s0 s0 := xfm_rf
  obtain ⟨s1, e_, h⟩ := xlt_e h
  replace hf := xfm_uO hf (List.mem_append_left _ (List.mem_of_getElem? (i := 0) rfl)) e_
  clear e_
  obtain ⟨r4, s5, e_, h⟩ := xbd_e h
  replace hf := xfm_c hf (fr_X11_clashesOn e_) (fun q hq => List.mem_append_right _ (List.mem_append_left _ hq))
  clear e_
  obtain ⟨s7, e_, h⟩ := xbp_e h
  replace hf := xfm_c hf (fr_X11_copies e_) (fun q hq => List.mem_append_right _ (List.mem_append_right _ (List.mem_append_left _ hq)))
  clear e_
  refine fr_X11_best_27 (fun l2_29 l3_30 l4_31 s32 hf h => ?_) xN _ _ _ _ hf h
  obtain ⟨s33, e_, h⟩ := xlt_e h
  replace hf := xfm_uO hf (List.mem_append_left _ (List.mem_of_getElem? (i := 1) rfl)) e_
  clear e_
  obtain ⟨s36, e_, h⟩ := xbp_e h
  replace hf := xfm_c hf (fr_X11_enters e_) (fun q hq => List.mem_append_right _ (List.mem_append_right _ (List.mem_append_right _ (List.mem_append_left _ hq))))
  clear e_
  obtain ⟨s38, e_, h⟩ := xbp_e h
  replace hf := xfm_c hf (fr_X11_enters e_) (fun q hq => List.mem_append_right _ (List.mem_append_right _ (List.mem_append_right _ (List.mem_append_left _ hq))))
  clear e_
  obtain ⟨s40, e_, h⟩ := xbp_e h
  replace hf := xfm_c hf (fr_X11_enters e_) (fun q hq => List.mem_append_right _ (List.mem_append_right _ (List.mem_append_right _ (List.mem_append_left _ hq))))
  clear e_
  cases h; exact hf
def W_X11_putsBy : List (Int × Int) := [(136, -1)]
theorem fr_X11_putsBy_2 {s0 : xW} {q : xW} {k : Int → xW → Option (xW)} (hk : ∀ (x0_ : Int) (x1_ : xW), xfm (W_X11_putsBy ) s0 x1_ → k x0_ x1_ = some q → xfm (W_X11_putsBy ) s0 q) : ∀ (f : Nat) (l1_1 : Int) (s2 : xW), xfm (W_X11_putsBy ) s0 s2 → F_X11_putsBy_2  f l1_1 s2 k = some q → xfm (W_X11_putsBy ) s0 q := by
  intro f
  induction f with
  | zero => intro l1_1 s2 hf h; cases h
  | succ f ih =>
    intro l1_1 s2 hf h
    unfold F_X11_putsBy_2 at h
    rcases xif_o h with h | h
    · skip
      replace h := (xgd_e h).2
      replace h := (xgd_e h).2
      obtain ⟨s6, e_, h⟩ := xlt_e h
      replace hf := xfm_uA hf (List.mem_of_getElem? (i := 0) rfl) e_
      clear e_
      exact ih (l1_1 + 1) s6 hf h
    · skip
      exact hk l1_1 s2 hf h
theorem fr_X11_putsBy {s0 : xW} {q : xW} (h : F_X11_putsBy  s0 = some q) : xfm (W_X11_putsBy ) s0 q := by
  unfold F_X11_putsBy at h
  have hf : xfm (W_X11_putsBy ) s0 s0 := xfm_rf
  refine fr_X11_putsBy_2 (fun l1_10 s11 hf h => ?_) xN _ _ hf h
  cases h; exact hf
def W_X11_buysSome : List (Int × Int) := [(127, -1)]
theorem fr_X11_buysSome {a1 : Int} {s0 : xW} {q : Int × xW} (h : F_X11_buysSome a1 s0 = some q) : xfm (W_X11_buysSome ) s0 q.2 := by
  unfold F_X11_buysSome at h
  have hf : xfm (W_X11_buysSome ) s0 s0 := xfm_rf
  obtain ⟨r2, -, h⟩ := xbp_e h
  rcases xif_o h with h | h
  · skip
    cases h; exact hf
  · skip
    rcases xif_o h with h | h
    · skip
      cases h; exact hf
    · skip
      obtain ⟨s5, e_, h⟩ := xlt_e h
      replace hf := xfm_uA hf (List.mem_of_getElem? (i := 0) rfl) e_
      clear e_
      cases h; exact hf
def W_X11_counted : List (Int × Int) := [] ++ (W_X11_adds)
theorem fr_X11_counted {a1 : Int} {s0 : xW} {q : Int × xW} (h : F_X11_counted a1 s0 = some q) : xfm (W_X11_counted ) s0 q.2 := by
  unfold F_X11_counted at h
  have hf : xfm (W_X11_counted ) s0 s0 := xfm_rf
  obtain ⟨j3, ej_, h⟩ := xjn_e h
  have hj3 : ∀ (t1 : Int) (s2 : xW), xfm (W_X11_counted ) s0 s2 → j3 t1 s2 = some q → xfm (W_X11_counted ) s0 q.2 := by
    intro t1 s2 hf h
    rw [ej_] at h
    cases h; exact hf
  clear ej_
  rcases xif_o h with h | h
  · skip
    exact hj3 a1 s0 hf h
  · skip
    obtain ⟨r8, s9, e_, h⟩ := xbd_e h
    replace hf := xfm_c hf (fr_X11_adds e_) (fun q hq => List.mem_append_right _ (hq))
    clear e_
    exact hj3 r8 s9 hf h
def W_X11_buys : List (Int × Int) := [(121, 0)] ++ (W_X11_putsBy ++ (W_X11_buysSome ++ (W_X11_counted)))
theorem fr_X11_buys {a1 : Int} {s0 : xW} {q : Int × xW} (h : F_X11_buys a1 s0 = some q) : xfm (W_X11_buys ) s0 q.2 := by
  unfold F_X11_buys at h
  have hf : xfm (W_X11_buys ) s0 s0 := xfm_rf
  obtain ⟨s1, e_, h⟩ := xlt_e h
  replace hf := xfm_uO hf (List.mem_append_left _ (List.mem_of_getElem? (i := 0) rfl)) e_
  clear e_
  obtain ⟨s4, e_, h⟩ := xbp_e h
  replace hf := xfm_c hf (fr_X11_putsBy e_) (fun q hq => List.mem_append_right _ (List.mem_append_left _ hq))
  clear e_
  obtain ⟨r6, s7, e_, h⟩ := xbd_e h
  replace hf := xfm_c hf (fr_X11_buysSome e_) (fun q hq => List.mem_append_right _ (List.mem_append_right _ (List.mem_append_left _ hq)))
  clear e_
  obtain ⟨r9, s10, e_, h⟩ := xbd_e h
  replace hf := xfm_c hf (fr_X11_counted e_) (fun q hq => List.mem_append_right _ (List.mem_append_right _ (List.mem_append_right _ (hq))))
  clear e_
  cases h; exact hf
def W_X11_clashes : List (Int × Int) := [(121, 0), (121, 1)] ++ (W_X11_clashesOn 127 ++ (W_X11_enters))
theorem fr_X11_clashes_33 {s0 : xW} {l1_12 : Int} {l2_13 : Int} {q : Int × xW} {k : Int → xW → Option (Int × xW)} (hk : ∀ (x0_ : Int) (x1_ : xW), xfm (W_X11_clashes ) s0 x1_ → k x0_ x1_ = some q → xfm (W_X11_clashes ) s0 q.2) : ∀ (f : Nat) (l3_14 : Int) (s15 : xW), xfm (W_X11_clashes ) s0 s15 → F_X11_clashes_33 l1_12 l2_13 f l3_14 s15 k = some q → xfm (W_X11_clashes ) s0 q.2 := by
  intro f
  induction f with
  | zero => intro l3_14 s15 hf h; cases h
  | succ f ih =>
    intro l3_14 s15 hf h
    unfold F_X11_clashes_33 at h
    rcases xif_o h with h | h
    · skip
      obtain ⟨j18, ej_, h⟩ := xjn_e h
      have hj18 : ∀ (s17 : xW), xfm (W_X11_clashes ) s0 s17 → j18 s17 = some q → xfm (W_X11_clashes ) s0 q.2 := by
        intro s17 hf h
        rw [ej_] at h
        exact ih (l3_14 + 1) s17 hf h
      clear ej_
      rcases xif_o h with h | h
      · skip
        obtain ⟨r23, -, h⟩ := xbp_e h
        rcases xif_o h with h | h
        · skip
          obtain ⟨s26, e_, h⟩ := xbp_e h
          replace hf := xfm_c hf (fr_X11_enters e_) (fun q hq => List.mem_append_right _ (List.mem_append_right _ (hq)))
          clear e_
          obtain ⟨s28, e_, h⟩ := xbp_e h
          replace hf := xfm_c hf (fr_X11_enters e_) (fun q hq => List.mem_append_right _ (List.mem_append_right _ (hq)))
          clear e_
          exact hj18 s28 hf h
        · skip
          exact hj18 s15 hf h
      · skip
        exact hj18 s15 hf h
    · skip
      exact hk l3_14 s15 hf h
theorem fr_X11_clashes_21 {s0 : xW} {l1_8 : Int} {q : Int × xW} {k : Int → xW → Option (Int × xW)} (hk : ∀ (x0_ : Int) (x1_ : xW), xfm (W_X11_clashes ) s0 x1_ → k x0_ x1_ = some q → xfm (W_X11_clashes ) s0 q.2) : ∀ (f : Nat) (l2_9 : Int) (s10 : xW), xfm (W_X11_clashes ) s0 s10 → F_X11_clashes_21 l1_8 f l2_9 s10 k = some q → xfm (W_X11_clashes ) s0 q.2 := by
  intro f
  induction f with
  | zero => intro l2_9 s10 hf h; cases h
  | succ f ih =>
    intro l2_9 s10 hf h
    unfold F_X11_clashes_21 at h
    rcases xif_o h with h | h
    · skip
      refine fr_X11_clashes_33 (fun l3_31 s32 hf h => ?_) xN _ _ hf h
      exact ih (l2_9 + 1) s32 hf h
    · skip
      exact hk l2_9 s10 hf h
theorem fr_X11_clashes {s0 : xW} {q : Int × xW} (h : F_X11_clashes  s0 = some q) : xfm (W_X11_clashes ) s0 q.2 := by
  unfold F_X11_clashes at h
  have hf : xfm (W_X11_clashes ) s0 s0 := xfm_rf
  obtain ⟨s1, e_, h⟩ := xlt_e h
  replace hf := xfm_uO hf (List.mem_append_left _ (List.mem_of_getElem? (i := 0) rfl)) e_
  clear e_
  obtain ⟨r4, s5, e_, h⟩ := xbd_e h
  replace hf := xfm_c hf (fr_X11_clashesOn e_) (fun q hq => List.mem_append_right _ (List.mem_append_left _ hq))
  clear e_
  obtain ⟨s6, e_, h⟩ := xlt_e h
  replace hf := xfm_uO hf (List.mem_append_left _ (List.mem_of_getElem? (i := 1) rfl)) e_
  clear e_
  refine fr_X11_clashes_21 (fun l2_35 s36 hf h => ?_) xN _ _ hf h
  cases h; exact hf
def W_X11_codes : List (Int × Int) := [(132, -1), (121, 24)]
theorem fr_X11_codes {a1 : Int} {s0 : xW} {q : xW} (h : F_X11_codes a1 s0 = some q) : xfm (W_X11_codes ) s0 q := by
  unfold F_X11_codes at h
  have hf : xfm (W_X11_codes ) s0 s0 := xfm_rf
  replace h := (xgd_e h).2
  obtain ⟨s2, e_, h⟩ := xlt_e h
  replace hf := xfm_uA hf (List.mem_of_getElem? (i := 0) rfl) e_
  clear e_
  obtain ⟨s4, e_, h⟩ := xlt_e h
  replace hf := xfm_uO hf (List.mem_of_getElem? (i := 1) rfl) e_
  clear e_
  cases h; exact hf
def W_X11_count : List (Int × Int) := [(121, 0)]
theorem fr_X11_count {a1 : Int} {s0 : xW} {q : Int × xW} (h : F_X11_count a1 s0 = some q) : xfm (W_X11_count ) s0 q.2 := by
  unfold F_X11_count at h
  have hf : xfm (W_X11_count ) s0 s0 := xfm_rf
  obtain ⟨s1, e_, h⟩ := xlt_e h
  replace hf := xfm_uO hf (List.mem_of_getElem? (i := 0) rfl) e_
  clear e_
  rcases xif_o h with h | h
  · skip
    cases h; exact hf
  · skip
    rcases xif_o h with h | h
    · skip
      cases h; exact hf
    · skip
      rcases xif_o h with h | h
      · skip
        cases h; exact hf
      · skip
        rcases xif_o h with h | h
        · skip
          cases h; exact hf
        · skip
          rcases xif_o h with h | h
          · skip
            cases h; exact hf
          · skip
            rcases xif_o h with h | h
            · skip
              cases h; exact hf
            · skip
              rcases xif_o h with h | h
              · skip
                cases h; exact hf
              · skip
                rcases xif_o h with h | h
                · skip
                  cases h; exact hf
                · skip
                  rcases xif_o h with h | h
                  · skip
                    obtain ⟨r13, -, h⟩ := xbp_e h
                    cases h; exact hf
                  · skip
                    rcases xif_o h with h | h
                    · skip
                      obtain ⟨r16, -, h⟩ := xbp_e h
                      cases h; exact hf
                    · skip
                      rcases xif_o h with h | h
                      · skip
                        cases h; exact hf
                      · skip
                        rcases xif_o h with h | h
                        · skip
                          cases h; exact hf
                        · skip
                          rcases xif_o h with h | h
                          · skip
                            cases h; exact hf
                          · skip
                            rcases xif_o h with h | h
                            · skip
                              cases h; exact hf
                            · skip
                              cases h; exact hf
def W_X11_number : List (Int × Int) := [(121, 16)]
theorem fr_X11_number_13 {s0 : xW} {l1_4 : Int} {q : Int × xW} {k : Int → Int → xW → Option (Int × xW)} (hk : ∀ (x0_ : Int) (x1_ : Int) (x2_ : xW), xfm (W_X11_number ) s0 x2_ → k x0_ x1_ x2_ = some q → xfm (W_X11_number ) s0 q.2) : ∀ (f : Nat) (l2_5 : Int) (l3_6 : Int) (s7 : xW), xfm (W_X11_number ) s0 s7 → F_X11_number_13 l1_4 f l2_5 l3_6 s7 k = some q → xfm (W_X11_number ) s0 q.2 := by
  intro f
  induction f with
  | zero => intro l2_5 l3_6 s7 hf h; cases h
  | succ f ih =>
    intro l2_5 l3_6 s7 hf h
    unfold F_X11_number_13 at h
    rcases xif_o h with h | h
    · skip
      obtain ⟨r10, -, h⟩ := xbp_e h
      rcases xif_o h with h | h
      · skip
        replace h := (xgd_e h).2
        obtain ⟨s13, e_, h⟩ := xlt_e h
        replace hf := xfm_uO hf (List.mem_of_getElem? (i := 0) rfl) e_
        clear e_
        exact ih (((10 * l2_5) + (s7 129 (s7 121 16))) - 48) (l3_6 + 1) s13 hf h
      · skip
        exact hk l2_5 l3_6 s7 hf h
    · skip
      exact hk l2_5 l3_6 s7 hf h
theorem fr_X11_number {a1 : Int} {s0 : xW} {q : Int × xW} (h : F_X11_number a1 s0 = some q) : xfm (W_X11_number ) s0 q.2 := by
  unfold F_X11_number at h
  have hf : xfm (W_X11_number ) s0 s0 := xfm_rf
  obtain ⟨r2, -, h⟩ := xbp_e h
  rcases xif_o h with h | h
  · skip
    cases h; exact hf
  · skip
    refine fr_X11_number_13 (fun l2_18 l3_19 s20 hf h => ?_) xN _ _ _ hf h
    cases h; exact hf
def W_X11_readsDigits : List (Int × Int) := [(130, -1)] ++ (W_X11_begins ++ (W_X11_number))
theorem fr_X11_readsDigits_9 {s0 : xW} {q : Int × xW} {k : Int → xW → Option (Int × xW)} (hk : ∀ (x0_ : Int) (x1_ : xW), xfm (W_X11_readsDigits ) s0 x1_ → k x0_ x1_ = some q → xfm (W_X11_readsDigits ) s0 q.2) : ∀ (f : Nat) (l1_4 : Int) (s5 : xW), xfm (W_X11_readsDigits ) s0 s5 → F_X11_readsDigits_9  f l1_4 s5 k = some q → xfm (W_X11_readsDigits ) s0 q.2 := by
  intro f
  induction f with
  | zero => intro l1_4 s5 hf h; cases h
  | succ f ih =>
    intro l1_4 s5 hf h
    unfold F_X11_readsDigits_9 at h
    rcases xif_o h with h | h
    · skip
      obtain ⟨r8, -, h⟩ := xbp_e h
      rcases xif_o h with h | h
      · skip
        obtain ⟨r11, s12, e_, h⟩ := xbd_e h
        replace hf := xfm_c hf (fr_X11_number e_) (fun q hq => List.mem_append_right _ (List.mem_append_right _ (hq)))
        clear e_
        replace h := (xgd_e h).2
        obtain ⟨s14, e_, h⟩ := xlt_e h
        replace hf := xfm_uA hf (List.mem_append_left _ (List.mem_of_getElem? (i := 0) rfl)) e_
        clear e_
        exact ih (l1_4 + 1) s14 hf h
      · skip
        exact hk l1_4 s5 hf h
    · skip
      exact hk l1_4 s5 hf h
theorem fr_X11_readsDigits {s0 : xW} {q : Int × xW} (h : F_X11_readsDigits  s0 = some q) : xfm (W_X11_readsDigits ) s0 q.2 := by
  unfold F_X11_readsDigits at h
  have hf : xfm (W_X11_readsDigits ) s0 s0 := xfm_rf
  obtain ⟨r2, s3, e_, h⟩ := xbd_e h
  replace hf := xfm_c hf (fr_X11_begins e_) (fun q hq => List.mem_append_right _ (List.mem_append_left _ hq))
  clear e_
  refine fr_X11_readsDigits_9 (fun l1_18 s19 hf h => ?_) xN _ _ hf h
  obtain ⟨v22, -, h⟩ := xlt_e h
  cases h; exact hf
def W_X11_damps : List (Int × Int) := [(121, 0), (121, 7), (124, -1)] ++ (W_X11_readsDigits)
theorem fr_X11_damps_23 {s0 : xW} {l1_9 : Int} {q : Int × xW} {k : Int → xW → Option (Int × xW)} (hk : ∀ (x0_ : Int) (x1_ : xW), xfm (W_X11_damps ) s0 x1_ → k x0_ x1_ = some q → xfm (W_X11_damps ) s0 q.2) : ∀ (f : Nat) (l2_10 : Int) (s11 : xW), xfm (W_X11_damps ) s0 s11 → F_X11_damps_23 l1_9 f l2_10 s11 k = some q → xfm (W_X11_damps ) s0 q.2 := by
  intro f
  induction f with
  | zero => intro l2_10 s11 hf h; cases h
  | succ f ih =>
    intro l2_10 s11 hf h
    unfold F_X11_damps_23 at h
    rcases xif_o h with h | h
    · skip
      replace h := (xgd_e h).2
      replace h := (xgd_e h).2
      obtain ⟨s15, e_, h⟩ := xlt_e h
      replace hf := xfm_uA hf (List.mem_append_left _ (List.mem_of_getElem? (i := 2) rfl)) e_
      clear e_
      exact ih (l2_10 + 1) s15 hf h
    · skip
      exact hk l2_10 s11 hf h
theorem fr_X11_damps {s0 : xW} {q : Int × xW} (h : F_X11_damps  s0 = some q) : xfm (W_X11_damps ) s0 q.2 := by
  unfold F_X11_damps at h
  have hf : xfm (W_X11_damps ) s0 s0 := xfm_rf
  obtain ⟨s1, e_, h⟩ := xlt_e h
  replace hf := xfm_uO hf (List.mem_append_left _ (List.mem_of_getElem? (i := 0) rfl)) e_
  clear e_
  obtain ⟨r4, s5, e_, h⟩ := xbd_e h
  replace hf := xfm_c hf (fr_X11_readsDigits e_) (fun q hq => List.mem_append_right _ (hq))
  clear e_
  rcases xif_o h with h | h
  · skip
    cases h; exact hf
  · skip
    obtain ⟨s7, e_, h⟩ := xlt_e h
    replace hf := xfm_uO hf (List.mem_append_left _ (List.mem_of_getElem? (i := 1) rfl)) e_
    clear e_
    refine fr_X11_damps_23 (fun l2_19 s20 hf h => ?_) xN _ _ hf h
    cases h; exact hf
def W_X11_dayGoes (a1 : Int) : List (Int × Int) := [(a1, -1), (121, 30), (121, 31)] ++ (W_X11_clashesOn a1 ++ (W_X11_hears a1))
theorem fr_X11_dayGoes_49 {s0 : xW} {l1_21 : Int} (hm_l1_21 : l1_21 ∈ xNows) {q : xW} {k : Int → xW → Option (xW)} (hk : ∀ (x0_ : Int) (x1_ : xW), xfm (W_X11_dayGoes l1_21) s0 x1_ → k x0_ x1_ = some q → xfm (W_X11_dayGoes l1_21) s0 q) : ∀ (f : Nat) (l3_23 : Int) (s24 : xW), xfm (W_X11_dayGoes l1_21) s0 s24 → F_X11_dayGoes_49 l1_21 f l3_23 s24 k = some q → xfm (W_X11_dayGoes l1_21) s0 q := by
  intro f
  induction f with
  | zero => intro l3_23 s24 hf h; cases h
  | succ f ih =>
    intro l3_23 s24 hf h
    unfold F_X11_dayGoes_49 at h
    rcases xif_o h with h | h
    · skip
      obtain ⟨r27, s28, e_, h⟩ := xbd_e h
      replace hf := xfm_c hf (fr_X11_hears e_) (fun q hq => List.mem_append_right _ (List.mem_append_right _ (hq)))
      clear e_
      replace h := (xgd_e h).2
      obtain ⟨s30, e_, h⟩ := xlt_e h
      replace hf := xfm_uA hf (List.mem_append_left _ (List.mem_of_getElem? (i := 0) rfl)) e_
      clear e_
      exact ih (l3_23 + 1) s30 hf h
    · skip
      exact hk l3_23 s24 hf h
theorem fr_X11_dayGoes {a1 : Int} {s0 : xW} {q : xW} (h : F_X11_dayGoes a1 s0 = some q) : xfm (W_X11_dayGoes a1) s0 q := by
  unfold F_X11_dayGoes at h
  have hf : xfm (W_X11_dayGoes a1) s0 s0 := xfm_rf
  obtain ⟨hm_0, h⟩ := xgd_e h
  obtain ⟨j2, ej_, h⟩ := xjn_e h
  have hj2 : ∀ (s1 : xW), xfm (W_X11_dayGoes a1) s0 s1 → j2 s1 = some q → xfm (W_X11_dayGoes a1) s0 q := by
    intro s1 hf h
    rw [ej_] at h
    obtain ⟨s5, e_, h⟩ := xlt_e h
    replace hf := xfm_uA hf (List.mem_append_left _ (List.mem_of_getElem? (i := 0) rfl)) e_
    clear e_
    cases h; exact hf
  clear ej_
  rcases xif_o h with h | h
  · skip
    obtain ⟨r13, s14, e_, h⟩ := xbd_e h
    replace hf := xfm_c hf (fr_X11_clashesOn e_) (fun q hq => List.mem_append_right _ (List.mem_append_left _ hq))
    clear e_
    obtain ⟨s15, e_, h⟩ := xlt_e h
    replace hf := xfm_uA hf (List.mem_append_left _ (List.mem_of_getElem? (i := 0) rfl)) e_
    clear e_
    obtain ⟨s17, e_, h⟩ := xlt_e h
    replace hf := xfm_uA hf (List.mem_append_left _ (List.mem_of_getElem? (i := 0) rfl)) e_
    clear e_
    obtain ⟨s19, e_, h⟩ := xlt_e h
    replace hf := xfm_uO hf (List.mem_append_left _ (List.mem_of_getElem? (i := 1) rfl)) e_
    clear e_
    refine fr_X11_dayGoes_49 (by assumption) (fun l3_34 s35 hf h => ?_) xN _ _ hf h
    exact hj2 s35 hf h
  · skip
    obtain ⟨s8, e_, h⟩ := xlt_e h
    replace hf := xfm_uA hf (List.mem_append_left _ (List.mem_of_getElem? (i := 0) rfl)) e_
    clear e_
    obtain ⟨s10, e_, h⟩ := xlt_e h
    replace hf := xfm_uO hf (List.mem_append_left _ (List.mem_of_getElem? (i := 2) rfl)) e_
    clear e_
    exact hj2 s10 hf h
def W_X11_goesOn (a1 : Int) : List (Int × Int) := [(121, 30), (121, 31)] ++ (W_X11_dayGoes a1)
theorem fr_X11_goesOn_12 {s0 : xW} {l1_5 : Int} {l2_7 : Int} (hm_l1_5 : l1_5 ∈ xNows) {q : xW} {k : Int → xW → Option (xW)} (hk : ∀ (x0_ : Int) (x1_ : xW), xfm (W_X11_goesOn l1_5) s0 x1_ → k x0_ x1_ = some q → xfm (W_X11_goesOn l1_5) s0 q) : ∀ (f : Nat) (l3_8 : Int) (s9 : xW), xfm (W_X11_goesOn l1_5) s0 s9 → F_X11_goesOn_12 l1_5 l2_7 f l3_8 s9 k = some q → xfm (W_X11_goesOn l1_5) s0 q := by
  intro f
  induction f with
  | zero => intro l3_8 s9 hf h; cases h
  | succ f ih =>
    intro l3_8 s9 hf h
    unfold F_X11_goesOn_12 at h
    rcases xif_o h with h | h
    · skip
      obtain ⟨s12, e_, h⟩ := xbp_e h
      replace hf := xfm_c hf (fr_X11_dayGoes e_) (fun q hq => List.mem_append_right _ (hq))
      clear e_
      exact ih (l3_8 + 1) s12 hf h
    · skip
      exact hk l3_8 s9 hf h
theorem fr_X11_goesOn {a1 : Int} {a2 : Int} {s0 : xW} {q : xW} (h : F_X11_goesOn a1 a2 s0 = some q) : xfm (W_X11_goesOn a1) s0 q := by
  unfold F_X11_goesOn at h
  have hf : xfm (W_X11_goesOn a1) s0 s0 := xfm_rf
  obtain ⟨hm_0, h⟩ := xgd_e h
  obtain ⟨s1, e_, h⟩ := xlt_e h
  replace hf := xfm_uO hf (List.mem_append_left _ (List.mem_of_getElem? (i := 0) rfl)) e_
  clear e_
  obtain ⟨s3, e_, h⟩ := xlt_e h
  replace hf := xfm_uO hf (List.mem_append_left _ (List.mem_of_getElem? (i := 1) rfl)) e_
  clear e_
  refine fr_X11_goesOn_12 (by assumption) (fun l3_15 s16 hf h => ?_) xN _ _ hf h
  cases h; exact hf
def W_X11_days : List (Int × Int) := [(121, 0), (121, 1)] ++ (W_X11_putsBy ++ (W_X11_goesOn 127 ++ (W_X11_enters ++ (W_X11_adds))))
theorem fr_X11_days {a1 : Int} {s0 : xW} {q : Int × xW} (h : F_X11_days a1 s0 = some q) : xfm (W_X11_days ) s0 q.2 := by
  unfold F_X11_days at h
  have hf : xfm (W_X11_days ) s0 s0 := xfm_rf
  obtain ⟨s1, e_, h⟩ := xlt_e h
  replace hf := xfm_uO hf (List.mem_append_left _ (List.mem_of_getElem? (i := 0) rfl)) e_
  clear e_
  obtain ⟨r4, -, h⟩ := xbp_e h
  rcases xif_o h with h | h
  · skip
    cases h; exact hf
  · skip
    obtain ⟨s7, e_, h⟩ := xbp_e h
    replace hf := xfm_c hf (fr_X11_putsBy e_) (fun q hq => List.mem_append_right _ (List.mem_append_left _ hq))
    clear e_
    obtain ⟨s9, e_, h⟩ := xbp_e h
    replace hf := xfm_c hf (fr_X11_goesOn e_) (fun q hq => List.mem_append_right _ (List.mem_append_right _ (List.mem_append_left _ hq)))
    clear e_
    obtain ⟨s10, e_, h⟩ := xlt_e h
    replace hf := xfm_uO hf (List.mem_append_left _ (List.mem_of_getElem? (i := 1) rfl)) e_
    clear e_
    obtain ⟨s13, e_, h⟩ := xbp_e h
    replace hf := xfm_c hf (fr_X11_enters e_) (fun q hq => List.mem_append_right _ (List.mem_append_right _ (List.mem_append_right _ (List.mem_append_left _ hq))))
    clear e_
    obtain ⟨s15, e_, h⟩ := xbp_e h
    replace hf := xfm_c hf (fr_X11_enters e_) (fun q hq => List.mem_append_right _ (List.mem_append_right _ (List.mem_append_right _ (List.mem_append_left _ hq))))
    clear e_
    obtain ⟨r17, s18, e_, h⟩ := xbd_e h
    replace hf := xfm_c hf (fr_X11_adds e_) (fun q hq => List.mem_append_right _ (List.mem_append_right _ (List.mem_append_right _ (List.mem_append_right _ (hq)))))
    clear e_
    cases h; exact hf
def W_X11_refuse : List (Int × Int) := [(121, 0)]
theorem fr_X11_refuse {s0 : xW} {q : Int × xW} (h : F_X11_refuse  s0 = some q) : xfm (W_X11_refuse ) s0 q.2 := by
  unfold F_X11_refuse at h
  have hf : xfm (W_X11_refuse ) s0 s0 := xfm_rf
  obtain ⟨s1, e_, h⟩ := xlt_e h
  replace hf := xfm_uO hf (List.mem_of_getElem? (i := 0) rfl) e_
  clear e_
  cases h; exact hf
def W_X11_deed : List (Int × Int) := [(121, 0)] ++ (W_X11_refuse ++ (W_X11_laysBegins 127))
theorem fr_X11_deed {a1 : Int} {a2 : Int} {s0 : xW} {q : Int × xW} (h : F_X11_deed a1 a2 s0 = some q) : xfm (W_X11_deed ) s0 q.2 := by
  unfold F_X11_deed at h
  have hf : xfm (W_X11_deed ) s0 s0 := xfm_rf
  obtain ⟨s1, e_, h⟩ := xlt_e h
  replace hf := xfm_uO hf (List.mem_append_left _ (List.mem_of_getElem? (i := 0) rfl)) e_
  clear e_
  obtain ⟨r4, -, h⟩ := xbp_e h
  obtain ⟨j5, ej_, h⟩ := xjn_e h
  have hj5 : j5  = some q → xfm (W_X11_deed ) s0 q.2 := by
    intro  h
    rw [ej_] at h
    obtain ⟨r9, s10, e_, h⟩ := xbd_e h
    replace hf := xfm_c hf (fr_X11_refuse e_) (fun q hq => List.mem_append_right _ (List.mem_append_left _ hq))
    clear e_
    cases h; exact hf
  clear ej_
  rcases xif_o h with h | h
  · skip
    obtain ⟨r13, -, h⟩ := xbp_e h
    rcases xif_o h with h | h
    · skip
      exact hj5  h
    · skip
      obtain ⟨s16, e_, h⟩ := xbp_e h
      replace hf := xfm_c hf (fr_X11_laysBegins e_) (fun q hq => List.mem_append_right _ (List.mem_append_right _ (hq)))
      clear e_
      rcases xif_o h with h | h
      · skip
        replace h := (xgd_e h).2
        cases h; exact hf
      · skip
        rcases xif_o h with h | h
        · skip
          replace h := (xgd_e h).2
          cases h; exact hf
        · skip
          rcases xif_o h with h | h
          · skip
            replace h := (xgd_e h).2
            cases h; exact hf
          · skip
            rcases xif_o h with h | h
            · skip
              replace h := (xgd_e h).2
              cases h; exact hf
            · skip
              obtain ⟨r26, -, h⟩ := xbp_e h
              cases h; exact hf
  · skip
    exact hj5  h
def W_X11_readsHouse : List (Int × Int) := [(130, -1), (121, 20)] ++ (W_X11_number)
theorem fr_X11_readsHouse {s0 : xW} {q : Int × xW} (h : F_X11_readsHouse  s0 = some q) : xfm (W_X11_readsHouse ) s0 q.2 := by
  unfold F_X11_readsHouse at h
  have hf : xfm (W_X11_readsHouse ) s0 s0 := xfm_rf
  rcases xif_o h with h | h
  · skip
    cases h; exact hf
  · skip
    obtain ⟨r3, s4, e_, h⟩ := xbd_e h
    replace hf := xfm_c hf (fr_X11_number e_) (fun q hq => List.mem_append_right _ (hq))
    clear e_
    replace h := (xgd_e h).2
    obtain ⟨s6, e_, h⟩ := xlt_e h
    replace hf := xfm_uA hf (List.mem_append_left _ (List.mem_of_getElem? (i := 0) rfl)) e_
    clear e_
    replace h := (xgd_e h).2
    obtain ⟨j11, ej_, h⟩ := xjn_e h
    have hj11 : ∀ (t9 : Int) (s10 : xW), xfm (W_X11_readsHouse ) s0 s10 → j11 t9 s10 = some q → xfm (W_X11_readsHouse ) s0 q.2 := by
      intro t9 s10 hf h
      rw [ej_] at h
      replace h := (xgd_e h).2
      obtain ⟨s15, e_, h⟩ := xlt_e h
      replace hf := xfm_uA hf (List.mem_append_left _ (List.mem_of_getElem? (i := 0) rfl)) e_
      clear e_
      obtain ⟨s17, e_, h⟩ := xlt_e h
      replace hf := xfm_uO hf (List.mem_append_left _ (List.mem_of_getElem? (i := 1) rfl)) e_
      clear e_
      replace h := (xgd_e h).2
      obtain ⟨v21, -, h⟩ := xlt_e h
      replace h := (xgd_e h).2
      cases h; exact hf
    clear ej_
    rcases xif_o h with h | h
    · skip
      exact hj11 (-1) s6 hf h
    · skip
      obtain ⟨r27, s28, e_, h⟩ := xbd_e h
      replace hf := xfm_c hf (fr_X11_number e_) (fun q hq => List.mem_append_right _ (hq))
      clear e_
      exact hj11 r27 s28 hf h
def W_X11_digitIn : List (Int × Int) := [(121, 16)]
theorem fr_X11_digitIn {a1 : Int} {a2 : Int} {s0 : xW} {q : Int × xW} (h : F_X11_digitIn a1 a2 s0 = some q) : xfm (W_X11_digitIn ) s0 q.2 := by
  unfold F_X11_digitIn at h
  have hf : xfm (W_X11_digitIn ) s0 s0 := xfm_rf
  obtain ⟨j1, ej_, h⟩ := xjn_e h
  have hj1 : j1  = some q → xfm (W_X11_digitIn ) s0 q.2 := by
    intro  h
    rw [ej_] at h
    cases h; exact hf
  clear ej_
  rcases xif_o h with h | h
  · skip
    replace h := (xgd_e h).2
    obtain ⟨r7, -, h⟩ := xbp_e h
    rcases xif_o h with h | h
    · skip
      exact hj1  h
    · skip
      obtain ⟨s9, e_, h⟩ := xlt_e h
      replace hf := xfm_uO hf (List.mem_of_getElem? (i := 0) rfl) e_
      clear e_
      replace h := (xgd_e h).2
      cases h; exact hf
  · skip
    exact hj1  h
def W_X11_takesOf : List (Int × Int) := [(121, 16)]
theorem fr_X11_takesOf_2 {s0 : xW} {l1_1 : List Int} {q : Int × xW} {k : Int → xW → Option (Int × xW)} (hk : ∀ (x0_ : Int) (x1_ : xW), xfm (W_X11_takesOf ) s0 x1_ → k x0_ x1_ = some q → xfm (W_X11_takesOf ) s0 q.2) : ∀ (f : Nat) (l2_2 : Int) (s3 : xW), xfm (W_X11_takesOf ) s0 s3 → F_X11_takesOf_2 l1_1 f l2_2 s3 k = some q → xfm (W_X11_takesOf ) s0 q.2 := by
  intro f
  induction f with
  | zero => intro l2_2 s3 hf h; cases h
  | succ f ih =>
    intro l2_2 s3 hf h
    unfold F_X11_takesOf_2 at h
    rcases xif_o h with h | h
    · skip
      rcases xif_o h with h | h
      · skip
        replace h := (xgd_e h).2
        replace h := (xgd_e h).2
        rcases xif_o h with h | h
        · skip
          obtain ⟨s9, e_, h⟩ := xlt_e h
          replace hf := xfm_uO hf (List.mem_of_getElem? (i := 0) rfl) e_
          clear e_
          cases h; exact hf
        · skip
          exact ih (l2_2 + 1) s3 hf h
      · skip
        exact hk l2_2 s3 hf h
    · skip
      exact hk l2_2 s3 hf h
theorem fr_X11_takesOf {w : List Int} {s0 : xW} {q : Int × xW} (h : F_X11_takesOf w s0 = some q) : xfm (W_X11_takesOf ) s0 q.2 := by
  unfold F_X11_takesOf at h
  have hf : xfm (W_X11_takesOf ) s0 s0 := xfm_rf
  refine fr_X11_takesOf_2 (fun l2_13 s14 hf h => ?_) xN _ _ hf h
  cases h; exact hf
def W_X11_readsDeed : List (Int × Int) := [(130, -1), (121, 20)] ++ (W_X11_digitIn ++ (W_X11_takesOf))
theorem fr_X11_readsDeed_96 {s0 : xW} {l1_25 : Int} {q : Int × xW} {k : Int → Int → xW → Option (Int × xW)} (hk : ∀ (x0_ : Int) (x1_ : Int) (x2_ : xW), xfm (W_X11_readsDeed ) s0 x2_ → k x0_ x1_ x2_ = some q → xfm (W_X11_readsDeed ) s0 q.2) : ∀ (f : Nat) (l2_26 : Int) (l3_27 : Int) (s28 : xW), xfm (W_X11_readsDeed ) s0 s28 → F_X11_readsDeed_96 l1_25 f l2_26 l3_27 s28 k = some q → xfm (W_X11_readsDeed ) s0 q.2 := by
  intro f
  induction f with
  | zero => intro l2_26 l3_27 s28 hf h; cases h
  | succ f ih =>
    intro l2_26 l3_27 s28 hf h
    unfold F_X11_readsDeed_96 at h
    rcases xif_o h with h | h
    · skip
      replace h := (xgd_e h).2
      obtain ⟨r32, s33, e_, h⟩ := xbd_e h
      replace hf := xfm_c hf (fr_X11_takesOf e_) (fun q hq => List.mem_append_right _ (List.mem_append_right _ (hq)))
      clear e_
      obtain ⟨v35, -, h⟩ := xlt_e h
      obtain ⟨v39, -, h⟩ := xlt_e h
      replace h := (xgd_e h).2
      obtain ⟨v44, -, h⟩ := xlt_e h
      replace h := (xgd_e h).2
      obtain ⟨s48, e_, h⟩ := xlt_e h
      replace hf := xfm_uA hf (List.mem_append_left _ (List.mem_of_getElem? (i := 0) rfl)) e_
      clear e_
      exact ih v39 v35 s48 hf h
    · skip
      exact hk l2_26 l3_27 s28 hf h
theorem fr_X11_readsDeed {s0 : xW} {q : Int × xW} (h : F_X11_readsDeed  s0 = some q) : xfm (W_X11_readsDeed ) s0 q.2 := by
  unfold F_X11_readsDeed at h
  have hf : xfm (W_X11_readsDeed ) s0 s0 := xfm_rf
  rcases xif_o h with h | h
  · skip
    cases h; exact hf
  · skip
    obtain ⟨r3, s4, e_, h⟩ := xbd_e h
    replace hf := xfm_c hf (fr_X11_digitIn e_) (fun q hq => List.mem_append_right _ (List.mem_append_left _ hq))
    clear e_
    replace h := (xgd_e h).2
    obtain ⟨s6, e_, h⟩ := xlt_e h
    replace hf := xfm_uA hf (List.mem_append_left _ (List.mem_of_getElem? (i := 0) rfl)) e_
    clear e_
    replace h := (xgd_e h).2
    obtain ⟨j11, ej_, h⟩ := xjn_e h
    have hj11 : ∀ (t9 : Int) (s10 : xW), xfm (W_X11_readsDeed ) s0 s10 → j11 t9 s10 = some q → xfm (W_X11_readsDeed ) s0 q.2 := by
      intro t9 s10 hf h
      rw [ej_] at h
      replace h := (xgd_e h).2
      obtain ⟨s15, e_, h⟩ := xlt_e h
      replace hf := xfm_uA hf (List.mem_append_left _ (List.mem_of_getElem? (i := 0) rfl)) e_
      clear e_
      replace h := (xgd_e h).2
      obtain ⟨s18, e_, h⟩ := xlt_e h
      replace hf := xfm_uA hf (List.mem_append_left _ (List.mem_of_getElem? (i := 0) rfl)) e_
      clear e_
      replace h := (xgd_e h).2
      obtain ⟨v22, -, h⟩ := xlt_e h
      refine fr_X11_readsDeed_96 (fun l2_53 l3_54 s55 hf h => ?_) xN _ _ _ hf h
      obtain ⟨s56, e_, h⟩ := xlt_e h
      replace hf := xfm_uO hf (List.mem_append_left _ (List.mem_of_getElem? (i := 1) rfl)) e_
      clear e_
      replace h := (xgd_e h).2
      obtain ⟨v60, -, h⟩ := xlt_e h
      replace h := (xgd_e h).2
      cases h; exact hf
    clear ej_
    rcases xif_o h with h | h
    · skip
      exact hj11 (-1) s6 hf h
    · skip
      obtain ⟨r66, s67, e_, h⟩ := xbd_e h
      replace hf := xfm_c hf (fr_X11_digitIn e_) (fun q hq => List.mem_append_right _ (List.mem_append_left _ hq))
      clear e_
      exact hj11 r66 s67 hf h
def W_X11_takesSign : List (Int × Int) := [(121, 16)]
theorem fr_X11_takesSign {a1 : Int} {s0 : xW} {q : Int × xW} (h : F_X11_takesSign a1 s0 = some q) : xfm (W_X11_takesSign ) s0 q.2 := by
  unfold F_X11_takesSign at h
  have hf : xfm (W_X11_takesSign ) s0 s0 := xfm_rf
  obtain ⟨j2, ej_, h⟩ := xjn_e h
  have hj2 : ∀ (t1 : Int), j2 t1 = some q → xfm (W_X11_takesSign ) s0 q.2 := by
    intro t1 h
    rw [ej_] at h
    obtain ⟨r6, -, h⟩ := xbp_e h
    obtain ⟨s7, e_, h⟩ := xlt_e h
    replace hf := xfm_uO hf (List.mem_of_getElem? (i := 0) rfl) e_
    clear e_
    replace h := (xgd_e h).2
    cases h; exact hf
  clear ej_
  obtain ⟨j10, ej_, h⟩ := xjn_e h
  have hj10 : j10  = some q → xfm (W_X11_takesSign ) s0 q.2 := by
    intro  h
    rw [ej_] at h
    exact hj2 0 h
  clear ej_
  rcases xif_o h with h | h
  · skip
    replace h := (xgd_e h).2
    rcases xif_o h with h | h
    · skip
      exact hj2 1 h
    · skip
      exact hj10  h
  · skip
    exact hj10  h
def W_X11_readsLines : List (Int × Int) := [(121, 20)] ++ (W_X11_begins ++ (W_X11_takesSign ++ (W_X11_readsHouse ++ (W_X11_readsDeed))))
theorem fr_X11_readsLines_25 {s0 : xW} {l1_10 : Int} {l2_11 : Int} {l3_12 : Int} {q : Int × xW} {k : Int → Int → xW → Option (Int × xW)} (hk : ∀ (x0_ : Int) (x1_ : Int) (x2_ : xW), xfm (W_X11_readsLines ) s0 x2_ → k x0_ x1_ x2_ = some q → xfm (W_X11_readsLines ) s0 q.2) : ∀ (f : Nat) (l4_13 : Int) (l5_14 : Int) (s15 : xW), xfm (W_X11_readsLines ) s0 s15 → F_X11_readsLines_25 l1_10 l2_11 l3_12 f l4_13 l5_14 s15 k = some q → xfm (W_X11_readsLines ) s0 q.2 := by
  intro f
  induction f with
  | zero => intro l4_13 l5_14 s15 hf h; cases h
  | succ f ih =>
    intro l4_13 l5_14 s15 hf h
    unfold F_X11_readsLines_25 at h
    rcases xif_o h with h | h
    · skip
      obtain ⟨j19, ej_, h⟩ := xjn_e h
      have hj19 : ∀ (t17 : Int) (s18 : xW), xfm (W_X11_readsLines ) s0 s18 → j19 t17 s18 = some q → xfm (W_X11_readsLines ) s0 q.2 := by
        intro t17 s18 hf h
        rw [ej_] at h
        obtain ⟨j24, ej_, h⟩ := xjn_e h
        have hj24 : ∀ (t22 : Int) (s23 : xW), xfm (W_X11_readsLines ) s0 s23 → j24 t22 s23 = some q → xfm (W_X11_readsLines ) s0 q.2 := by
          intro t22 s23 hf h
          rw [ej_] at h
          exact ih t17 t22 s23 hf h
        clear ej_
        obtain ⟨j28, ej_, h⟩ := xjn_e h
        have hj28 : ∀ (s27 : xW), xfm (W_X11_readsLines ) s0 s27 → j28 s27 = some q → xfm (W_X11_readsLines ) s0 q.2 := by
          intro s27 hf h
          rw [ej_] at h
          exact hj24 0 s27 hf h
        clear ej_
        rcases xif_o h with h | h
        · skip
          obtain ⟨r33, s34, e_, h⟩ := xbd_e h
          replace hf := xfm_c hf (fr_X11_takesSign e_) (fun q hq => List.mem_append_right _ (List.mem_append_right _ (List.mem_append_left _ hq)))
          clear e_
          rcases xif_o h with h | h
          · skip
            exact hj24 1 s34 hf h
          · skip
            exact hj28 s34 hf h
        · skip
          exact hj28 s18 hf h
      clear ej_
      rcases xif_o h with h | h
      · skip
        obtain ⟨r41, s42, e_, h⟩ := xbd_e h
        replace hf := xfm_c hf (fr_X11_readsHouse e_) (fun q hq => List.mem_append_right _ (List.mem_append_right _ (List.mem_append_right _ (List.mem_append_left _ hq))))
        clear e_
        exact hj19 r41 s42 hf h
      · skip
        obtain ⟨r38, s39, e_, h⟩ := xbd_e h
        replace hf := xfm_c hf (fr_X11_readsDeed e_) (fun q hq => List.mem_append_right _ (List.mem_append_right _ (List.mem_append_right _ (List.mem_append_right _ (hq)))))
        clear e_
        exact hj19 r38 s39 hf h
    · skip
      exact hk l4_13 l5_14 s15 hf h
theorem fr_X11_readsLines {a1 : Int} {a2 : Int} {s0 : xW} {q : Int × xW} (h : F_X11_readsLines a1 a2 s0 = some q) : xfm (W_X11_readsLines ) s0 q.2 := by
  unfold F_X11_readsLines at h
  have hf : xfm (W_X11_readsLines ) s0 s0 := xfm_rf
  obtain ⟨r2, s3, e_, h⟩ := xbd_e h
  replace hf := xfm_c hf (fr_X11_begins e_) (fun q hq => List.mem_append_right _ (List.mem_append_left _ hq))
  clear e_
  obtain ⟨s4, e_, h⟩ := xlt_e h
  replace hf := xfm_uO hf (List.mem_append_left _ (List.mem_of_getElem? (i := 0) rfl)) e_
  clear e_
  obtain ⟨v7, -, h⟩ := xlt_e h
  refine fr_X11_readsLines_25 (fun l4_46 l5_47 s48 hf h => ?_) xN _ _ _ hf h
  obtain ⟨r50, -, h⟩ := xbp_e h
  cases h; exact hf
def W_X11_isNew : List (Int × Int) := [(121, 28), (121, 5)]
theorem fr_X11_isNew {s0 : xW} {q : Int × xW} (h : F_X11_isNew  s0 = some q) : xfm (W_X11_isNew ) s0 q.2 := by
  unfold F_X11_isNew at h
  have hf : xfm (W_X11_isNew ) s0 s0 := xfm_rf
  obtain ⟨v2, -, h⟩ := xlt_e h
  obtain ⟨s5, e_, h⟩ := xlt_e h
  replace hf := xfm_uO hf (List.mem_of_getElem? (i := 0) rfl) e_
  clear e_
  obtain ⟨v8, -, h⟩ := xlt_e h
  obtain ⟨r12, -, h⟩ := xbp_e h
  obtain ⟨s13, e_, h⟩ := xlt_e h
  replace hf := xfm_uO hf (List.mem_of_getElem? (i := 1) rfl) e_
  clear e_
  cases h; exact hf
def W_X11_deeds : List (Int × Int) := [(121, 0), (125, -1), (127, -1), (126, -1), (121, 4)] ++ (W_X11_readsLines ++ (W_X11_isNew))
theorem fr_X11_deeds_21 {s0 : xW} {q : Int × xW} {k : Int → xW → Option (Int × xW)} (hk : ∀ (x0_ : Int) (x1_ : xW), xfm (W_X11_deeds ) s0 x1_ → k x0_ x1_ = some q → xfm (W_X11_deeds ) s0 q.2) : ∀ (f : Nat) (l2_7 : Int) (s8 : xW), xfm (W_X11_deeds ) s0 s8 → F_X11_deeds_21  f l2_7 s8 k = some q → xfm (W_X11_deeds ) s0 q.2 := by
  intro f
  induction f with
  | zero => intro l2_7 s8 hf h; cases h
  | succ f ih =>
    intro l2_7 s8 hf h
    unfold F_X11_deeds_21 at h
    rcases xif_o h with h | h
    · skip
      replace h := (xgd_e h).2
      replace h := (xgd_e h).2
      obtain ⟨s12, e_, h⟩ := xlt_e h
      replace hf := xfm_uA hf (List.mem_append_left _ (List.mem_of_getElem? (i := 1) rfl)) e_
      clear e_
      replace h := (xgd_e h).2
      replace h := (xgd_e h).2
      obtain ⟨s16, e_, h⟩ := xlt_e h
      replace hf := xfm_uA hf (List.mem_append_left _ (List.mem_of_getElem? (i := 2) rfl)) e_
      clear e_
      replace h := (xgd_e h).2
      replace h := (xgd_e h).2
      obtain ⟨s20, e_, h⟩ := xlt_e h
      replace hf := xfm_uA hf (List.mem_append_left _ (List.mem_of_getElem? (i := 3) rfl)) e_
      clear e_
      obtain ⟨s22, e_, h⟩ := xlt_e h
      replace hf := xfm_uO hf (List.mem_append_left _ (List.mem_of_getElem? (i := 4) rfl)) e_
      clear e_
      exact ih (l2_7 + 1) s22 hf h
    · skip
      exact hk l2_7 s8 hf h
theorem fr_X11_deeds {s0 : xW} {q : Int × xW} (h : F_X11_deeds  s0 = some q) : xfm (W_X11_deeds ) s0 q.2 := by
  unfold F_X11_deeds at h
  have hf : xfm (W_X11_deeds ) s0 s0 := xfm_rf
  obtain ⟨s1, e_, h⟩ := xlt_e h
  replace hf := xfm_uO hf (List.mem_append_left _ (List.mem_of_getElem? (i := 0) rfl)) e_
  clear e_
  obtain ⟨r4, s5, e_, h⟩ := xbd_e h
  replace hf := xfm_c hf (fr_X11_readsLines e_) (fun q hq => List.mem_append_right _ (List.mem_append_left _ hq))
  clear e_
  rcases xif_o h with h | h
  · skip
    cases h; exact hf
  · skip
    refine fr_X11_deeds_21 (fun l2_26 s27 hf h => ?_) xN _ _ hf h
    obtain ⟨r29, s30, e_, h⟩ := xbd_e h
    replace hf := xfm_c hf (fr_X11_isNew e_) (fun q hq => List.mem_append_right _ (List.mem_append_right _ (hq)))
    clear e_
    cases h; exact hf
def W_X11_puts (a0 : Int) : List (Int × Int) := [(a0, -1)]
theorem fr_X11_puts {a0 : Int} {a1 : Int} {a2 : Int} {a3 : Int} {a4 : Int} {s0 : xW} {q : Int × xW} (h : F_X11_puts a0 a1 a2 a3 a4 s0 = some q) : xfm (W_X11_puts a0) s0 q.2 := by
  unfold F_X11_puts at h
  have hf : xfm (W_X11_puts a0) s0 s0 := xfm_rf
  obtain ⟨hm_0, h⟩ := xgd_e h
  replace h := (xgd_e h).2
  replace h := (xgd_e h).2
  obtain ⟨r4, -, h⟩ := xbp_e h
  replace h := (xgd_e h).2
  obtain ⟨s6, e_, h⟩ := xlt_e h
  replace hf := xfm_uA hf (List.mem_of_getElem? (i := 0) rfl) e_
  clear e_
  replace h := (xgd_e h).2
  obtain ⟨s9, e_, h⟩ := xlt_e h
  replace hf := xfm_uA hf (List.mem_of_getElem? (i := 0) rfl) e_
  clear e_
  cases h; exact hf
def W_X11_haulsTo (a0 : Int) : List (Int × Int) := [] ++ (W_X11_puts a0)
theorem fr_X11_haulsTo {a0 : Int} {a1 : Int} {a2 : Int} {s0 : xW} {q : Int × xW} (h : F_X11_haulsTo a0 a1 a2 s0 = some q) : xfm (W_X11_haulsTo a0) s0 q.2 := by
  unfold F_X11_haulsTo at h
  have hf : xfm (W_X11_haulsTo a0) s0 s0 := xfm_rf
  obtain ⟨hm_0, h⟩ := xgd_e h
  obtain ⟨r2, -, h⟩ := xbp_e h
  obtain ⟨j5, ej_, h⟩ := xjn_e h
  have hj5 : ∀ (t3 : Int) (s4 : xW), xfm (W_X11_haulsTo a0) s0 s4 → j5 t3 s4 = some q → xfm (W_X11_haulsTo a0) s0 q.2 := by
    intro t3 s4 hf h
    rw [ej_] at h
    obtain ⟨v9, -, h⟩ := xlt_e h
    cases h; exact hf
  clear ej_
  rcases xif_o h with h | h
  · skip
    obtain ⟨r14, s15, e_, h⟩ := xbd_e h
    replace hf := xfm_c hf (fr_X11_puts e_) (fun q hq => List.mem_append_right _ (hq))
    clear e_
    exact hj5 r14 s15 hf h
  · skip
    exact hj5 (-1) s0 hf h
def W_X11_takesSome : List (Int × Int) := [(127, -1)]
theorem fr_X11_takesSome {a1 : Int} {a2 : Int} {s0 : xW} {q : Int × xW} (h : F_X11_takesSome a1 a2 s0 = some q) : xfm (W_X11_takesSome ) s0 q.2 := by
  unfold F_X11_takesSome at h
  have hf : xfm (W_X11_takesSome ) s0 s0 := xfm_rf
  obtain ⟨r2, -, h⟩ := xbp_e h
  obtain ⟨j3, ej_, h⟩ := xjn_e h
  have hj3 : j3  = some q → xfm (W_X11_takesSome ) s0 q.2 := by
    intro  h
    rw [ej_] at h
    cases h; exact hf
  clear ej_
  rcases xif_o h with h | h
  · skip
    obtain ⟨r8, -, h⟩ := xbp_e h
    rcases xif_o h with h | h
    · skip
      exact hj3  h
    · skip
      replace h := (xgd_e h).2
      replace h := (xgd_e h).2
      obtain ⟨s12, e_, h⟩ := xlt_e h
      replace hf := xfm_uA hf (List.mem_of_getElem? (i := 0) rfl) e_
      clear e_
      obtain ⟨v15, -, h⟩ := xlt_e h
      cases h; exact hf
  · skip
    exact hj3  h
def W_X11_movesTo (a1 : Int) : List (Int × Int) := [] ++ (W_X11_puts a1)
theorem fr_X11_movesTo {a1 : Int} {a2 : Int} {a3 : Int} {a4 : Int} {s0 : xW} {q : Int × xW} (h : F_X11_movesTo a1 a2 a3 a4 s0 = some q) : xfm (W_X11_movesTo a1) s0 q.2 := by
  unfold F_X11_movesTo at h
  have hf : xfm (W_X11_movesTo a1) s0 s0 := xfm_rf
  obtain ⟨hm_0, h⟩ := xgd_e h
  obtain ⟨r2, -, h⟩ := xbp_e h
  obtain ⟨j5, ej_, h⟩ := xjn_e h
  have hj5 : ∀ (t3 : Int) (s4 : xW), xfm (W_X11_movesTo a1) s0 s4 → j5 t3 s4 = some q → xfm (W_X11_movesTo a1) s0 q.2 := by
    intro t3 s4 hf h
    rw [ej_] at h
    obtain ⟨v9, -, h⟩ := xlt_e h
    cases h; exact hf
  clear ej_
  obtain ⟨j12, ej_, h⟩ := xjn_e h
  have hj12 : j12  = some q → xfm (W_X11_movesTo a1) s0 q.2 := by
    intro  h
    rw [ej_] at h
    exact hj5 (-1) s0 hf h
  clear ej_
  rcases xif_o h with h | h
  · skip
    obtain ⟨r17, -, h⟩ := xbp_e h
    rcases xif_o h with h | h
    · skip
      obtain ⟨r20, s21, e_, h⟩ := xbd_e h
      replace hf := xfm_c hf (fr_X11_puts e_) (fun q hq => List.mem_append_right _ (hq))
      clear e_
      exact hj5 r20 s21 hf h
    · skip
      exact hj12  h
  · skip
    exact hj12  h
def W_X11_does : List (Int × Int) := [] ++ (W_X11_buysSome ++ (W_X11_haulsTo 127 ++ (W_X11_takesSome ++ (W_X11_movesTo 127 ++ (W_X11_dayGoes 127)))))
theorem fr_X11_does_46 {s0 : xW} {l2_4 : Int} {q : Int × xW} {k : Int → xW → Option (Int × xW)} (hk : ∀ (x0_ : Int) (x1_ : xW), xfm (W_X11_does ) s0 x1_ → k x0_ x1_ = some q → xfm (W_X11_does ) s0 q.2) : ∀ (f : Nat) (l3_5 : Int) (s6 : xW), xfm (W_X11_does ) s0 s6 → F_X11_does_46 l2_4 f l3_5 s6 k = some q → xfm (W_X11_does ) s0 q.2 := by
  intro f
  induction f with
  | zero => intro l3_5 s6 hf h; cases h
  | succ f ih =>
    intro l3_5 s6 hf h
    unfold F_X11_does_46 at h
    rcases xif_o h with h | h
    · skip
      obtain ⟨s9, e_, h⟩ := xbp_e h
      replace hf := xfm_c hf (fr_X11_dayGoes e_) (fun q hq => List.mem_append_right _ (List.mem_append_right _ (List.mem_append_right _ (List.mem_append_right _ (List.mem_append_right _ (hq))))))
      clear e_
      exact ih (l3_5 + 1) s9 hf h
    · skip
      exact hk l3_5 s6 hf h
theorem fr_X11_does {a1 : Int} {s0 : xW} {q : Int × xW} (h : F_X11_does a1 s0 = some q) : xfm (W_X11_does ) s0 q.2 := by
  unfold F_X11_does at h
  have hf : xfm (W_X11_does ) s0 s0 := xfm_rf
  replace h := (xgd_e h).2
  replace h := (xgd_e h).2
  rcases xif_o h with h | h
  · skip
    refine fr_X11_does_46 (fun l3_12 s13 hf h => ?_) xN _ _ hf h
    cases h; exact hf
  · skip
    rcases xif_o h with h | h
    · skip
      obtain ⟨r16, s17, e_, h⟩ := xbd_e h
      replace hf := xfm_c hf (fr_X11_buysSome e_) (fun q hq => List.mem_append_right _ (List.mem_append_left _ hq))
      clear e_
      obtain ⟨v19, -, h⟩ := xlt_e h
      replace h := (xgd_e h).2
      cases h; exact hf
    · skip
      rcases xif_o h with h | h
      · skip
        replace h := (xgd_e h).2
        obtain ⟨r26, s27, e_, h⟩ := xbd_e h
        replace hf := xfm_c hf (fr_X11_haulsTo e_) (fun q hq => List.mem_append_right _ (List.mem_append_right _ (List.mem_append_left _ hq)))
        clear e_
        obtain ⟨v29, -, h⟩ := xlt_e h
        replace h := (xgd_e h).2
        cases h; exact hf
      · skip
        rcases xif_o h with h | h
        · skip
          replace h := (xgd_e h).2
          obtain ⟨r36, s37, e_, h⟩ := xbd_e h
          replace hf := xfm_c hf (fr_X11_takesSome e_) (fun q hq => List.mem_append_right _ (List.mem_append_right _ (List.mem_append_right _ (List.mem_append_left _ hq))))
          clear e_
          obtain ⟨v39, -, h⟩ := xlt_e h
          replace h := (xgd_e h).2
          cases h; exact hf
        · skip
          replace h := (xgd_e h).2
          replace h := (xgd_e h).2
          obtain ⟨r46, s47, e_, h⟩ := xbd_e h
          replace hf := xfm_c hf (fr_X11_movesTo e_) (fun q hq => List.mem_append_right _ (List.mem_append_right _ (List.mem_append_right _ (List.mem_append_right _ (List.mem_append_left _ hq)))))
          clear e_
          obtain ⟨v49, -, h⟩ := xlt_e h
          replace h := (xgd_e h).2
          cases h; exact hf
def W_X11_draws : List (Int × Int) := [(121, 48)]
theorem fr_X11_draws {a1 : Int} {s0 : xW} {q : Int × xW} (h : F_X11_draws a1 s0 = some q) : xfm (W_X11_draws ) s0 q.2 := by
  unfold F_X11_draws at h
  have hf : xfm (W_X11_draws ) s0 s0 := xfm_rf
  obtain ⟨s1, e_, h⟩ := xlt_e h
  replace hf := xfm_uO hf (List.mem_of_getElem? (i := 0) rfl) e_
  clear e_
  replace h := (xgd_e h).2
  cases h; exact hf
def W_X11_echoes (a1 : Int) : List (Int × Int) := [] ++ (W_X11_hearsBy a1)
theorem fr_X11_echoes {a1 : Int} {a2 : Int} {s0 : xW} {q : Int × xW} (h : F_X11_echoes a1 a2 s0 = some q) : xfm (W_X11_echoes a1) s0 q.2 := by
  unfold F_X11_echoes at h
  have hf : xfm (W_X11_echoes a1) s0 s0 := xfm_rf
  obtain ⟨hm_0, h⟩ := xgd_e h
  obtain ⟨r2, -, h⟩ := xbp_e h
  obtain ⟨r4, -, h⟩ := xbp_e h
  obtain ⟨r6, s7, e_, h⟩ := xbd_e h
  replace hf := xfm_c hf (fr_X11_hearsBy e_) (fun q hq => List.mem_append_right _ (hq))
  clear e_
  cases h; exact hf
def W_X11_echo : List (Int × Int) := [(121, 0), (121, 1)] ++ (W_X11_echoes 127 ++ (W_X11_enters ++ (W_X11_hears 127)))
theorem fr_X11_echo_30 {s0 : xW} {l1_9 : Int} {l2_10 : Int} {q : Int × xW} {k : Int → Int → xW → Option (Int × xW)} (hk : ∀ (x0_ : Int) (x1_ : Int) (x2_ : xW), xfm (W_X11_echo ) s0 x2_ → k x0_ x1_ x2_ = some q → xfm (W_X11_echo ) s0 q.2) : ∀ (f : Nat) (l3_11 : Int) (l4_12 : Int) (s13 : xW), xfm (W_X11_echo ) s0 s13 → F_X11_echo_30 l1_9 l2_10 f l3_11 l4_12 s13 k = some q → xfm (W_X11_echo ) s0 q.2 := by
  intro f
  induction f with
  | zero => intro l3_11 l4_12 s13 hf h; cases h
  | succ f ih =>
    intro l3_11 l4_12 s13 hf h
    unfold F_X11_echo_30 at h
    rcases xif_o h with h | h
    · skip
      obtain ⟨r16, s17, e_, h⟩ := xbd_e h
      replace hf := xfm_c hf (fr_X11_hears e_) (fun q hq => List.mem_append_right _ (List.mem_append_right _ (List.mem_append_right _ (hq))))
      clear e_
      obtain ⟨v19, -, h⟩ := xlt_e h
      exact ih (xor' l3_11 v19) (l4_12 + 1) s17 hf h
    · skip
      exact hk l3_11 l4_12 s13 hf h
theorem fr_X11_echo {a1 : Int} {s0 : xW} {q : Int × xW} (h : F_X11_echo a1 s0 = some q) : xfm (W_X11_echo ) s0 q.2 := by
  unfold F_X11_echo at h
  have hf : xfm (W_X11_echo ) s0 s0 := xfm_rf
  obtain ⟨s1, e_, h⟩ := xlt_e h
  replace hf := xfm_uO hf (List.mem_append_left _ (List.mem_of_getElem? (i := 0) rfl)) e_
  clear e_
  obtain ⟨r4, -, h⟩ := xbp_e h
  rcases xif_o h with h | h
  · skip
    cases h; exact hf
  · skip
    obtain ⟨r7, s8, e_, h⟩ := xbd_e h
    replace hf := xfm_c hf (fr_X11_echoes e_) (fun q hq => List.mem_append_right _ (List.mem_append_left _ hq))
    clear e_
    refine fr_X11_echo_30 (fun l3_25 l4_26 s27 hf h => ?_) xN _ _ _ hf h
    obtain ⟨s28, e_, h⟩ := xlt_e h
    replace hf := xfm_uO hf (List.mem_append_left _ (List.mem_of_getElem? (i := 1) rfl)) e_
    clear e_
    obtain ⟨s31, e_, h⟩ := xbp_e h
    replace hf := xfm_c hf (fr_X11_enters e_) (fun q hq => List.mem_append_right _ (List.mem_append_right _ (List.mem_append_left _ hq)))
    clear e_
    obtain ⟨r33, s34, e_, h⟩ := xbd_e h
    replace hf := xfm_c hf (fr_X11_hears e_) (fun q hq => List.mem_append_right _ (List.mem_append_right _ (List.mem_append_right _ (hq))))
    clear e_
    cases h; exact hf
def W_X11_end : List (Int × Int) := [(121, 0), (121, 15)]
theorem fr_X11_end {a1 : Int} {s0 : xW} {q : Int × xW} (h : F_X11_end a1 s0 = some q) : xfm (W_X11_end ) s0 q.2 := by
  unfold F_X11_end at h
  have hf : xfm (W_X11_end ) s0 s0 := xfm_rf
  obtain ⟨s1, e_, h⟩ := xlt_e h
  replace hf := xfm_uO hf (List.mem_of_getElem? (i := 0) rfl) e_
  clear e_
  obtain ⟨r4, -, h⟩ := xbp_e h
  rcases xif_o h with h | h
  · skip
    cases h; exact hf
  · skip
    obtain ⟨s6, e_, h⟩ := xlt_e h
    replace hf := xfm_uO hf (List.mem_of_getElem? (i := 1) rfl) e_
    clear e_
    cases h; exact hf
def W_X11_laysFoes : List (Int × Int) := [(143, -1)] ++ (W_X11_laysBegins 127)
theorem fr_X11_laysFoes_10 {s0 : xW} {q : xW} {k : Int → xW → Option (xW)} (hk : ∀ (x0_ : Int) (x1_ : xW), xfm (W_X11_laysFoes ) s0 x1_ → k x0_ x1_ = some q → xfm (W_X11_laysFoes ) s0 q) : ∀ (f : Nat) (l1_3 : Int) (s4 : xW), xfm (W_X11_laysFoes ) s0 s4 → F_X11_laysFoes_10  f l1_3 s4 k = some q → xfm (W_X11_laysFoes ) s0 q := by
  intro f
  induction f with
  | zero => intro l1_3 s4 hf h; cases h
  | succ f ih =>
    intro l1_3 s4 hf h
    unfold F_X11_laysFoes_10 at h
    rcases xif_o h with h | h
    · skip
      obtain ⟨r7, -, h⟩ := xbp_e h
      replace h := (xgd_e h).2
      obtain ⟨s9, e_, h⟩ := xlt_e h
      replace hf := xfm_uA hf (List.mem_append_left _ (List.mem_of_getElem? (i := 0) rfl)) e_
      clear e_
      exact ih (l1_3 + 1) s9 hf h
    · skip
      exact hk l1_3 s4 hf h
theorem fr_X11_laysFoes {s0 : xW} {q : xW} (h : F_X11_laysFoes  s0 = some q) : xfm (W_X11_laysFoes ) s0 q := by
  unfold F_X11_laysFoes at h
  have hf : xfm (W_X11_laysFoes ) s0 s0 := xfm_rf
  obtain ⟨s2, e_, h⟩ := xbp_e h
  replace hf := xfm_c hf (fr_X11_laysBegins e_) (fun q hq => List.mem_append_right _ (hq))
  clear e_
  refine fr_X11_laysFoes_10 (fun l1_13 s14 hf h => ?_) xN _ _ hf h
  cases h; exact hf
def W_X11_fewest : List (Int × Int) := [(121, 0), (121, 1)] ++ (W_X11_laysFoes ++ (W_X11_enters))
theorem fr_X11_fewest_22 {s0 : xW} {l1_5 : Int} {s8 : xW} (hf : xfm (W_X11_fewest ) s0 s8) {q : Int × xW} {k : Int → Int → Option (Int × xW)} (hk : ∀ (x0_ : Int) (x1_ : Int), k x0_ x1_ = some q → xfm (W_X11_fewest ) s0 q.2) : ∀ (f : Nat) (l2_6 : Int) (l3_7 : Int), F_X11_fewest_22 l1_5 s8 f l2_6 l3_7 k = some q → xfm (W_X11_fewest ) s0 q.2 := by
  intro f
  induction f with
  | zero => intro l2_6 l3_7 h; cases h
  | succ f ih =>
    intro l2_6 l3_7 h
    unfold F_X11_fewest_22 at h
    rcases xif_o h with h | h
    · skip
      obtain ⟨r11, -, h⟩ := xbp_e h
      obtain ⟨j13, ej_, h⟩ := xjn_e h
      have hj13 : ∀ (t12 : Int), j13 t12 = some q → xfm (W_X11_fewest ) s0 q.2 := by
        intro t12 h
        rw [ej_] at h
        exact ih t12 (l3_7 + 1) h
      clear ej_
      obtain ⟨j16, ej_, h⟩ := xjn_e h
      have hj16 : j16  = some q → xfm (W_X11_fewest ) s0 q.2 := by
        intro  h
        rw [ej_] at h
        exact hj13 l2_6 h
      clear ej_
      rcases xif_o h with h | h
      · skip
        obtain ⟨r21, -, h⟩ := xbp_e h
        rcases xif_o h with h | h
        · skip
          exact hj13 l3_7 h
        · skip
          exact hj16  h
      · skip
        exact hj16  h
    · skip
      exact hk l2_6 l3_7 h
theorem fr_X11_fewest {s0 : xW} {q : Int × xW} (h : F_X11_fewest  s0 = some q) : xfm (W_X11_fewest ) s0 q.2 := by
  unfold F_X11_fewest at h
  have hf : xfm (W_X11_fewest ) s0 s0 := xfm_rf
  obtain ⟨s1, e_, h⟩ := xlt_e h
  replace hf := xfm_uO hf (List.mem_append_left _ (List.mem_of_getElem? (i := 0) rfl)) e_
  clear e_
  obtain ⟨s4, e_, h⟩ := xbp_e h
  replace hf := xfm_c hf (fr_X11_laysFoes e_) (fun q hq => List.mem_append_right _ (List.mem_append_left _ hq))
  clear e_
  refine fr_X11_fewest_22 hf (fun l2_25 l3_26 h => ?_) xN _ _ h
  obtain ⟨s27, e_, h⟩ := xlt_e h
  replace hf := xfm_uO hf (List.mem_append_left _ (List.mem_of_getElem? (i := 1) rfl)) e_
  clear e_
  obtain ⟨s30, e_, h⟩ := xbp_e h
  replace hf := xfm_c hf (fr_X11_enters e_) (fun q hq => List.mem_append_right _ (List.mem_append_right _ (hq)))
  clear e_
  cases h; exact hf
def W_X11_fits : List (Int × Int) := [(121, 0), (121, 1)] ++ (W_X11_isSo ++ (W_X11_enters))
theorem fr_X11_fits_14 {s0 : xW} {q : Int × xW} {k : Int → Int → xW → Option (Int × xW)} (hk : ∀ (x0_ : Int) (x1_ : Int) (x2_ : xW), xfm (W_X11_fits ) s0 x2_ → k x0_ x1_ x2_ = some q → xfm (W_X11_fits ) s0 q.2) : ∀ (f : Nat) (l1_5 : Int) (l2_6 : Int) (s7 : xW), xfm (W_X11_fits ) s0 s7 → F_X11_fits_14  f l1_5 l2_6 s7 k = some q → xfm (W_X11_fits ) s0 q.2 := by
  intro f
  induction f with
  | zero => intro l1_5 l2_6 s7 hf h; cases h
  | succ f ih =>
    intro l1_5 l2_6 s7 hf h
    unfold F_X11_fits_14 at h
    rcases xif_o h with h | h
    · skip
      obtain ⟨r10, s11, e_, h⟩ := xbd_e h
      replace hf := xfm_c hf (fr_X11_isSo e_) (fun q hq => List.mem_append_right _ (List.mem_append_left _ hq))
      clear e_
      obtain ⟨j13, ej_, h⟩ := xjn_e h
      have hj13 : ∀ (s12 : xW), xfm (W_X11_fits ) s0 s12 → j13 s12 = some q → xfm (W_X11_fits ) s0 q.2 := by
        intro s12 hf h
        rw [ej_] at h
        obtain ⟨r17, -, h⟩ := xbp_e h
        exact ih (l1_5 + r17) (l2_6 + 1) s12 hf h
      clear ej_
      rcases xif_o h with h | h
      · skip
        rcases xif_o h with h | h
        · skip
          obtain ⟨s21, e_, h⟩ := xbp_e h
          replace hf := xfm_c hf (fr_X11_enters e_) (fun q hq => List.mem_append_right _ (List.mem_append_right _ (hq)))
          clear e_
          obtain ⟨s23, e_, h⟩ := xbp_e h
          replace hf := xfm_c hf (fr_X11_enters e_) (fun q hq => List.mem_append_right _ (List.mem_append_right _ (hq)))
          clear e_
          exact hj13 s23 hf h
        · skip
          exact hj13 s11 hf h
      · skip
        exact hj13 s11 hf h
    · skip
      exact hk l1_5 l2_6 s7 hf h
theorem fr_X11_fits {s0 : xW} {q : Int × xW} (h : F_X11_fits  s0 = some q) : xfm (W_X11_fits ) s0 q.2 := by
  unfold F_X11_fits at h
  have hf : xfm (W_X11_fits ) s0 s0 := xfm_rf
  obtain ⟨s1, e_, h⟩ := xlt_e h
  replace hf := xfm_uO hf (List.mem_append_left _ (List.mem_of_getElem? (i := 0) rfl)) e_
  clear e_
  obtain ⟨s3, e_, h⟩ := xlt_e h
  replace hf := xfm_uO hf (List.mem_append_left _ (List.mem_of_getElem? (i := 1) rfl)) e_
  clear e_
  refine fr_X11_fits_14 (fun l1_27 l2_28 s29 hf h => ?_) xN _ _ _ hf h
  cases h; exact hf
def W_X11_forget : List (Int × Int) := [(121, 0), (121, 42)]
theorem fr_X11_forget {s0 : xW} {q : Int × xW} (h : F_X11_forget  s0 = some q) : xfm (W_X11_forget ) s0 q.2 := by
  unfold F_X11_forget at h
  have hf : xfm (W_X11_forget ) s0 s0 := xfm_rf
  obtain ⟨s1, e_, h⟩ := xlt_e h
  replace hf := xfm_uO hf (List.mem_of_getElem? (i := 0) rfl) e_
  clear e_
  obtain ⟨s3, e_, h⟩ := xlt_e h
  replace hf := xfm_uO hf (List.mem_of_getElem? (i := 1) rfl) e_
  clear e_
  cases h; exact hf
def W_X11_forts : List (Int × Int) := [(121, 0), (121, 1), (149, -1)] ++ (W_X11_enters)
theorem fr_X11_forts_82 {s0 : xW} {l1_36 : Int} {l2_37 : Int} {l3_38 : Int} {l4_39 : Int} {l6_41 : Int} {s43 : xW} (hf : xfm (W_X11_forts ) s0 s43) {q : Int × xW} {k : Int → Int → Option (Int × xW)} (hk : ∀ (x0_ : Int) (x1_ : Int), k x0_ x1_ = some q → xfm (W_X11_forts ) s0 q.2) : ∀ (f : Nat) (l5_40 : Int) (l7_42 : Int), F_X11_forts_82 l1_36 l2_37 l3_38 l4_39 l6_41 s43 f l5_40 l7_42 k = some q → xfm (W_X11_forts ) s0 q.2 := by
  intro f
  induction f with
  | zero => intro l5_40 l7_42 h; cases h
  | succ f ih =>
    intro l5_40 l7_42 h
    unfold F_X11_forts_82 at h
    rcases xif_o h with h | h
    · skip
      obtain ⟨j46, ej_, h⟩ := xjn_e h
      have hj46 : ∀ (t45 : Int), j46 t45 = some q → xfm (W_X11_forts ) s0 q.2 := by
        intro t45 h
        rw [ej_] at h
        exact ih t45 (l7_42 + 1) h
      clear ej_
      obtain ⟨j49, ej_, h⟩ := xjn_e h
      have hj49 : j49  = some q → xfm (W_X11_forts ) s0 q.2 := by
        intro  h
        rw [ej_] at h
        exact hj46 1 h
      clear ej_
      rcases xif_o h with h | h
      · skip
        obtain ⟨r54, -, h⟩ := xbp_e h
        rcases xif_o h with h | h
        · skip
          exact hj49  h
        · skip
          exact hj46 0 h
      · skip
        exact hj49  h
    · skip
      exact hk l5_40 l7_42 h
theorem fr_X11_forts_73 {s0 : xW} {l1_28 : Int} {l2_29 : Int} {l3_30 : Int} {l4_31 : Int} {s34 : xW} (hf : xfm (W_X11_forts ) s0 s34) {q : Int × xW} {k : Int → Int → Option (Int × xW)} (hk : ∀ (x0_ : Int) (x1_ : Int), k x0_ x1_ = some q → xfm (W_X11_forts ) s0 q.2) : ∀ (f : Nat) (l5_32 : Int) (l6_33 : Int), F_X11_forts_73 l1_28 l2_29 l3_30 l4_31 s34 f l5_32 l6_33 k = some q → xfm (W_X11_forts ) s0 q.2 := by
  intro f
  induction f with
  | zero => intro l5_32 l6_33 h; cases h
  | succ f ih =>
    intro l5_32 l6_33 h
    unfold F_X11_forts_73 at h
    rcases xif_o h with h | h
    · skip
      refine fr_X11_forts_82 hf (fun l5_58 l7_59 h => ?_) xN _ _ h
      exact ih l5_58 (l6_33 + 1) h
    · skip
      exact hk l5_32 l6_33 h
theorem fr_X11_forts_50 {s0 : xW} {l1_18 : Int} {l2_19 : Int} {l3_20 : Int} {q : Int × xW} {k : Int → xW → Option (Int × xW)} (hk : ∀ (x0_ : Int) (x1_ : xW), xfm (W_X11_forts ) s0 x1_ → k x0_ x1_ = some q → xfm (W_X11_forts ) s0 q.2) : ∀ (f : Nat) (l4_21 : Int) (s22 : xW), xfm (W_X11_forts ) s0 s22 → F_X11_forts_50 l1_18 l2_19 l3_20 f l4_21 s22 k = some q → xfm (W_X11_forts ) s0 q.2 := by
  intro f
  induction f with
  | zero => intro l4_21 s22 hf h; cases h
  | succ f ih =>
    intro l4_21 s22 hf h
    unfold F_X11_forts_50 at h
    rcases xif_o h with h | h
    · skip
      obtain ⟨v25, -, h⟩ := xlt_e h
      refine fr_X11_forts_73 hf (fun l5_62 l6_63 h => ?_) xN _ _ h
      obtain ⟨r65, -, h⟩ := xbp_e h
      replace h := (xgd_e h).2
      replace h := (xgd_e h).2
      obtain ⟨s68, e_, h⟩ := xlt_e h
      replace hf := xfm_uA hf (List.mem_append_left _ (List.mem_of_getElem? (i := 2) rfl)) e_
      clear e_
      exact ih (l4_21 + 1) s68 hf h
    · skip
      exact hk l4_21 s22 hf h
theorem fr_X11_forts_42 {s0 : xW} {l1_13 : Int} {l2_14 : Int} {q : Int × xW} {k : Int → xW → Option (Int × xW)} (hk : ∀ (x0_ : Int) (x1_ : xW), xfm (W_X11_forts ) s0 x1_ → k x0_ x1_ = some q → xfm (W_X11_forts ) s0 q.2) : ∀ (f : Nat) (l3_15 : Int) (s16 : xW), xfm (W_X11_forts ) s0 s16 → F_X11_forts_42 l1_13 l2_14 f l3_15 s16 k = some q → xfm (W_X11_forts ) s0 q.2 := by
  intro f
  induction f with
  | zero => intro l3_15 s16 hf h; cases h
  | succ f ih =>
    intro l3_15 s16 hf h
    unfold F_X11_forts_42 at h
    rcases xif_o h with h | h
    · skip
      refine fr_X11_forts_50 (fun l4_72 s73 hf h => ?_) xN _ _ hf h
      exact ih (l3_15 + 1) s73 hf h
    · skip
      exact hk l3_15 s16 hf h
theorem fr_X11_forts_167 {s0 : xW} {l1_85 : Int} {l2_86 : Int} {l3_87 : Int} {q : Int × xW} {k : Int → xW → Option (Int × xW)} (hk : ∀ (x0_ : Int) (x1_ : xW), xfm (W_X11_forts ) s0 x1_ → k x0_ x1_ = some q → xfm (W_X11_forts ) s0 q.2) : ∀ (f : Nat) (l4_88 : Int) (s89 : xW), xfm (W_X11_forts ) s0 s89 → F_X11_forts_167 l1_85 l2_86 l3_87 f l4_88 s89 k = some q → xfm (W_X11_forts ) s0 q.2 := by
  intro f
  induction f with
  | zero => intro l4_88 s89 hf h; cases h
  | succ f ih =>
    intro l4_88 s89 hf h
    unfold F_X11_forts_167 at h
    rcases xif_o h with h | h
    · skip
      obtain ⟨j92, ej_, h⟩ := xjn_e h
      have hj92 : ∀ (s91 : xW), xfm (W_X11_forts ) s0 s91 → j92 s91 = some q → xfm (W_X11_forts ) s0 q.2 := by
        intro s91 hf h
        rw [ej_] at h
        exact ih (l4_88 + 1) s91 hf h
      clear ej_
      rcases xif_o h with h | h
      · skip
        obtain ⟨r97, -, h⟩ := xbp_e h
        rcases xif_o h with h | h
        · skip
          obtain ⟨s100, e_, h⟩ := xbp_e h
          replace hf := xfm_c hf (fr_X11_enters e_) (fun q hq => List.mem_append_right _ (hq))
          clear e_
          obtain ⟨s102, e_, h⟩ := xbp_e h
          replace hf := xfm_c hf (fr_X11_enters e_) (fun q hq => List.mem_append_right _ (hq))
          clear e_
          exact hj92 s102 hf h
        · skip
          exact hj92 s89 hf h
      · skip
        exact hj92 s89 hf h
    · skip
      exact hk l4_88 s89 hf h
theorem fr_X11_forts_159 {s0 : xW} {l1_80 : Int} {l2_81 : Int} {q : Int × xW} {k : Int → xW → Option (Int × xW)} (hk : ∀ (x0_ : Int) (x1_ : xW), xfm (W_X11_forts ) s0 x1_ → k x0_ x1_ = some q → xfm (W_X11_forts ) s0 q.2) : ∀ (f : Nat) (l3_82 : Int) (s83 : xW), xfm (W_X11_forts ) s0 s83 → F_X11_forts_159 l1_80 l2_81 f l3_82 s83 k = some q → xfm (W_X11_forts ) s0 q.2 := by
  intro f
  induction f with
  | zero => intro l3_82 s83 hf h; cases h
  | succ f ih =>
    intro l3_82 s83 hf h
    unfold F_X11_forts_159 at h
    rcases xif_o h with h | h
    · skip
      refine fr_X11_forts_167 (fun l4_105 s106 hf h => ?_) xN _ _ hf h
      exact ih (l3_82 + 1) s106 hf h
    · skip
      exact hk l3_82 s83 hf h
theorem fr_X11_forts {a1 : Int} {a2 : Int} {s0 : xW} {q : Int × xW} (h : F_X11_forts a1 a2 s0 = some q) : xfm (W_X11_forts ) s0 q.2 := by
  unfold F_X11_forts at h
  have hf : xfm (W_X11_forts ) s0 s0 := xfm_rf
  obtain ⟨s1, e_, h⟩ := xlt_e h
  replace hf := xfm_uO hf (List.mem_append_left _ (List.mem_of_getElem? (i := 0) rfl)) e_
  clear e_
  obtain ⟨r4, -, h⟩ := xbp_e h
  obtain ⟨j5, ej_, h⟩ := xjn_e h
  have hj5 : j5  = some q → xfm (W_X11_forts ) s0 q.2 := by
    intro  h
    rw [ej_] at h
    cases h; exact hf
  clear ej_
  rcases xif_o h with h | h
  · skip
    obtain ⟨r10, -, h⟩ := xbp_e h
    rcases xif_o h with h | h
    · skip
      exact hj5  h
    · skip
      rcases xif_o h with h | h
      · skip
        cases h; exact hf
      · skip
        refine fr_X11_forts_42 (fun l3_76 s77 hf h => ?_) xN _ _ hf h
        obtain ⟨s78, e_, h⟩ := xlt_e h
        replace hf := xfm_uO hf (List.mem_append_left _ (List.mem_of_getElem? (i := 1) rfl)) e_
        clear e_
        refine fr_X11_forts_159 (fun l3_109 s110 hf h => ?_) xN _ _ hf h
        obtain ⟨v112, -, h⟩ := xlt_e h
        obtain ⟨r116, -, h⟩ := xbp_e h
        cases h; exact hf
  · skip
    exact hj5  h
def W_X11_laysLine : List (Int × Int) := [(141, -1)]
theorem fr_X11_laysLine_14 {s0 : xW} {l1_4 : Int} {s7 : xW} (hf : xfm (W_X11_laysLine ) s0 s7) {q : xW} {k : Int → Int → Option (xW)} (hk : ∀ (x0_ : Int) (x1_ : Int), k x0_ x1_ = some q → xfm (W_X11_laysLine ) s0 q) : ∀ (f : Nat) (l2_5 : Int) (l3_6 : Int), F_X11_laysLine_14 l1_4 s7 f l2_5 l3_6 k = some q → xfm (W_X11_laysLine ) s0 q := by
  intro f
  induction f with
  | zero => intro l2_5 l3_6 h; cases h
  | succ f ih =>
    intro l2_5 l3_6 h
    unfold F_X11_laysLine_14 at h
    rcases xif_o h with h | h
    · skip
      replace h := (xgd_e h).2
      replace h := (xgd_e h).2
      obtain ⟨j12, ej_, h⟩ := xjn_e h
      have hj12 : ∀ (t11 : Int), j12 t11 = some q → xfm (W_X11_laysLine ) s0 q := by
        intro t11 h
        rw [ej_] at h
        obtain ⟨r16, -, h⟩ := xbp_e h
        exact ih (l2_5 + r16) (l3_6 + 1) h
      clear ej_
      obtain ⟨j17, ej_, h⟩ := xjn_e h
      have hj17 : j17  = some q → xfm (W_X11_laysLine ) s0 q := by
        intro  h
        rw [ej_] at h
        exact hj12 1 h
      clear ej_
      rcases xif_o h with h | h
      · skip
        replace h := (xgd_e h).2
        replace h := (xgd_e h).2
        obtain ⟨j23, ej_, h⟩ := xjn_e h
        have hj23 : j23  = some q → xfm (W_X11_laysLine ) s0 q := by
          intro  h
          rw [ej_] at h
          exact hj12 0 h
        clear ej_
        rcases xif_o h with h | h
        · skip
          rcases xif_o h with h | h
          · skip
            exact hj17  h
          · skip
            exact hj23  h
        · skip
          exact hj23  h
      · skip
        exact hj17  h
    · skip
      exact hk l2_5 l3_6 h
theorem fr_X11_laysLine_2 {s0 : xW} {q : xW} {k : Int → xW → Option (xW)} (hk : ∀ (x0_ : Int) (x1_ : xW), xfm (W_X11_laysLine ) s0 x1_ → k x0_ x1_ = some q → xfm (W_X11_laysLine ) s0 q) : ∀ (f : Nat) (l1_1 : Int) (s2 : xW), xfm (W_X11_laysLine ) s0 s2 → F_X11_laysLine_2  f l1_1 s2 k = some q → xfm (W_X11_laysLine ) s0 q := by
  intro f
  induction f with
  | zero => intro l1_1 s2 hf h; cases h
  | succ f ih =>
    intro l1_1 s2 hf h
    unfold F_X11_laysLine_2 at h
    rcases xif_o h with h | h
    · skip
      refine fr_X11_laysLine_14 hf (fun l2_30 l3_31 h => ?_) xN _ _ h
      replace h := (xgd_e h).2
      obtain ⟨s33, e_, h⟩ := xlt_e h
      replace hf := xfm_uA hf (List.mem_of_getElem? (i := 0) rfl) e_
      clear e_
      exact ih (l1_1 + 1) s33 hf h
    · skip
      exact hk l1_1 s2 hf h
theorem fr_X11_laysLine {s0 : xW} {q : xW} (h : F_X11_laysLine  s0 = some q) : xfm (W_X11_laysLine ) s0 q := by
  unfold F_X11_laysLine at h
  have hf : xfm (W_X11_laysLine ) s0 s0 := xfm_rf
  refine fr_X11_laysLine_2 (fun l1_37 s38 hf h => ?_) xN _ _ hf h
  cases h; exact hf
def W_X11_hands : List (Int × Int) := [(121, 0), (121, 1), (144, -1), (145, -1)] ++ (W_X11_laysBegins 127 ++ (W_X11_laysLine ++ (W_X11_enters)))
theorem fr_X11_hands_21 {s0 : xW} {l1_7 : Int} {q : Int × xW} {k : Int → xW → Option (Int × xW)} (hk : ∀ (x0_ : Int) (x1_ : xW), xfm (W_X11_hands ) s0 x1_ → k x0_ x1_ = some q → xfm (W_X11_hands ) s0 q.2) : ∀ (f : Nat) (l2_8 : Int) (s9 : xW), xfm (W_X11_hands ) s0 s9 → F_X11_hands_21 l1_7 f l2_8 s9 k = some q → xfm (W_X11_hands ) s0 q.2 := by
  intro f
  induction f with
  | zero => intro l2_8 s9 hf h; cases h
  | succ f ih =>
    intro l2_8 s9 hf h
    unfold F_X11_hands_21 at h
    rcases xif_o h with h | h
    · skip
      replace h := (xgd_e h).2
      obtain ⟨s12, e_, h⟩ := xlt_e h
      replace hf := xfm_uA hf (List.mem_append_left _ (List.mem_of_getElem? (i := 2) rfl)) e_
      clear e_
      exact ih (l2_8 + 1) s12 hf h
    · skip
      exact hk l2_8 s9 hf h
theorem fr_X11_hands_52 {s0 : xW} {l1_22 : Int} {l2_23 : Int} {s25 : xW} (hf : xfm (W_X11_hands ) s0 s25) {q : Int × xW} {k : Int → Option (Int × xW)} (hk : ∀ (x0_ : Int), k x0_ = some q → xfm (W_X11_hands ) s0 q.2) : ∀ (f : Nat) (l3_24 : Int), F_X11_hands_52 l1_22 l2_23 s25 f l3_24 k = some q → xfm (W_X11_hands ) s0 q.2 := by
  intro f
  induction f with
  | zero => intro l3_24 h; cases h
  | succ f ih =>
    intro l3_24 h
    unfold F_X11_hands_52 at h
    replace h := (xgd_e h).2
    replace h := (xgd_e h).2
    obtain ⟨r29, -, h⟩ := xbp_e h
    rcases xif_o h with h | h
    · skip
      exact ih (l3_24 + 1) h
    · skip
      exact hk l3_24 h
theorem fr_X11_hands_42 {s0 : xW} {q : Int × xW} {k : Int → Int → xW → Option (Int × xW)} (hk : ∀ (x0_ : Int) (x1_ : Int) (x2_ : xW), xfm (W_X11_hands ) s0 x2_ → k x0_ x1_ x2_ = some q → xfm (W_X11_hands ) s0 q.2) : ∀ (f : Nat) (l1_18 : Int) (l2_19 : Int) (s20 : xW), xfm (W_X11_hands ) s0 s20 → F_X11_hands_42  f l1_18 l2_19 s20 k = some q → xfm (W_X11_hands ) s0 q.2 := by
  intro f
  induction f with
  | zero => intro l1_18 l2_19 s20 hf h; cases h
  | succ f ih =>
    intro l1_18 l2_19 s20 hf h
    unfold F_X11_hands_42 at h
    rcases xif_o h with h | h
    · skip
      refine fr_X11_hands_52 hf (fun l3_32 h => ?_) xN _ h
      replace h := (xgd_e h).2
      replace h := (xgd_e h).2
      replace h := (xgd_e h).2
      obtain ⟨s36, e_, h⟩ := xlt_e h
      replace hf := xfm_uA hf (List.mem_append_left _ (List.mem_of_getElem? (i := 2) rfl)) e_
      clear e_
      replace h := (xgd_e h).2
      replace h := (xgd_e h).2
      obtain ⟨s40, e_, h⟩ := xlt_e h
      replace hf := xfm_uA hf (List.mem_append_left _ (List.mem_of_getElem? (i := 3) rfl)) e_
      clear e_
      exact ih (max (xw l1_18) (xw (l3_32 + 1))) (l2_19 + 1) s40 hf h
    · skip
      exact hk l1_18 l2_19 s20 hf h
theorem fr_X11_hands_127 {s0 : xW} {l1_50 : Int} {q : Int × xW} {k : Int → xW → Option (Int × xW)} (hk : ∀ (x0_ : Int) (x1_ : xW), xfm (W_X11_hands ) s0 x1_ → k x0_ x1_ = some q → xfm (W_X11_hands ) s0 q.2) : ∀ (f : Nat) (l2_51 : Int) (s52 : xW), xfm (W_X11_hands ) s0 s52 → F_X11_hands_127 l1_50 f l2_51 s52 k = some q → xfm (W_X11_hands ) s0 q.2 := by
  intro f
  induction f with
  | zero => intro l2_51 s52 hf h; cases h
  | succ f ih =>
    intro l2_51 s52 hf h
    unfold F_X11_hands_127 at h
    rcases xif_o h with h | h
    · skip
      replace h := (xgd_e h).2
      obtain ⟨s56, e_, h⟩ := xbp_e h
      replace hf := xfm_c hf (fr_X11_enters e_) (fun q hq => List.mem_append_right _ (List.mem_append_right _ (List.mem_append_right _ (hq))))
      clear e_
      exact ih (l2_51 + 1) s56 hf h
    · skip
      exact hk l2_51 s52 hf h
theorem fr_X11_hands {s0 : xW} {q : Int × xW} (h : F_X11_hands  s0 = some q) : xfm (W_X11_hands ) s0 q.2 := by
  unfold F_X11_hands at h
  have hf : xfm (W_X11_hands ) s0 s0 := xfm_rf
  obtain ⟨s1, e_, h⟩ := xlt_e h
  replace hf := xfm_uO hf (List.mem_append_left _ (List.mem_of_getElem? (i := 0) rfl)) e_
  clear e_
  obtain ⟨s4, e_, h⟩ := xbp_e h
  replace hf := xfm_c hf (fr_X11_laysBegins e_) (fun q hq => List.mem_append_right _ (List.mem_append_left _ hq))
  clear e_
  obtain ⟨s6, e_, h⟩ := xbp_e h
  replace hf := xfm_c hf (fr_X11_laysLine e_) (fun q hq => List.mem_append_right _ (List.mem_append_right _ (List.mem_append_left _ hq)))
  clear e_
  refine fr_X11_hands_21 (fun l2_16 s17 hf h => ?_) xN _ _ hf h
  refine fr_X11_hands_42 (fun l1_45 l2_46 s47 hf h => ?_) xN _ _ _ hf h
  obtain ⟨s48, e_, h⟩ := xlt_e h
  replace hf := xfm_uO hf (List.mem_append_left _ (List.mem_of_getElem? (i := 1) rfl)) e_
  clear e_
  refine fr_X11_hands_127 (fun l2_59 s60 hf h => ?_) xN _ _ hf h
  cases h; exact hf
def W_X11_hauls : List (Int × Int) := [(121, 0)] ++ (W_X11_putsBy ++ (W_X11_haulsTo 127 ++ (W_X11_counted)))
theorem fr_X11_hauls {a1 : Int} {a2 : Int} {s0 : xW} {q : Int × xW} (h : F_X11_hauls a1 a2 s0 = some q) : xfm (W_X11_hauls ) s0 q.2 := by
  unfold F_X11_hauls at h
  have hf : xfm (W_X11_hauls ) s0 s0 := xfm_rf
  obtain ⟨s1, e_, h⟩ := xlt_e h
  replace hf := xfm_uO hf (List.mem_append_left _ (List.mem_of_getElem? (i := 0) rfl)) e_
  clear e_
  obtain ⟨s4, e_, h⟩ := xbp_e h
  replace hf := xfm_c hf (fr_X11_putsBy e_) (fun q hq => List.mem_append_right _ (List.mem_append_left _ hq))
  clear e_
  obtain ⟨r6, s7, e_, h⟩ := xbd_e h
  replace hf := xfm_c hf (fr_X11_haulsTo e_) (fun q hq => List.mem_append_right _ (List.mem_append_right _ (List.mem_append_left _ hq)))
  clear e_
  obtain ⟨r9, s10, e_, h⟩ := xbd_e h
  replace hf := xfm_c hf (fr_X11_counted e_) (fun q hq => List.mem_append_right _ (List.mem_append_right _ (List.mem_append_right _ (hq))))
  clear e_
  cases h; exact hf
def W_X11_heard : List (Int × Int) := [(121, 0), (146, -1), (147, -1), (121, 42)]
theorem fr_X11_heard {a1 : Int} {a2 : Int} {s0 : xW} {q : Int × xW} (h : F_X11_heard a1 a2 s0 = some q) : xfm (W_X11_heard ) s0 q.2 := by
  unfold F_X11_heard at h
  have hf : xfm (W_X11_heard ) s0 s0 := xfm_rf
  obtain ⟨s1, e_, h⟩ := xlt_e h
  replace hf := xfm_uO hf (List.mem_of_getElem? (i := 0) rfl) e_
  clear e_
  obtain ⟨r4, -, h⟩ := xbp_e h
  obtain ⟨j5, ej_, h⟩ := xjn_e h
  have hj5 : j5  = some q → xfm (W_X11_heard ) s0 q.2 := by
    intro  h
    rw [ej_] at h
    cases h; exact hf
  clear ej_
  rcases xif_o h with h | h
  · skip
    obtain ⟨r10, -, h⟩ := xbp_e h
    rcases xif_o h with h | h
    · skip
      rcases xif_o h with h | h
      · skip
        exact hj5  h
      · skip
        replace h := (xgd_e h).2
        obtain ⟨s14, e_, h⟩ := xlt_e h
        replace hf := xfm_uA hf (List.mem_of_getElem? (i := 1) rfl) e_
        clear e_
        replace h := (xgd_e h).2
        obtain ⟨s17, e_, h⟩ := xlt_e h
        replace hf := xfm_uA hf (List.mem_of_getElem? (i := 2) rfl) e_
        clear e_
        obtain ⟨s19, e_, h⟩ := xlt_e h
        replace hf := xfm_uO hf (List.mem_of_getElem? (i := 3) rfl) e_
        clear e_
        cases h; exact hf
    · skip
      exact hj5  h
  · skip
    exact hj5  h
def W_X11_hill : List (Int × Int) := [(121, 0)] ++ (W_X11_putsBy ++ (W_X11_puts 127 ++ (W_X11_adds)))
theorem fr_X11_hill {a1 : Int} {a2 : Int} {s0 : xW} {q : Int × xW} (h : F_X11_hill a1 a2 s0 = some q) : xfm (W_X11_hill ) s0 q.2 := by
  unfold F_X11_hill at h
  have hf : xfm (W_X11_hill ) s0 s0 := xfm_rf
  obtain ⟨s1, e_, h⟩ := xlt_e h
  replace hf := xfm_uO hf (List.mem_append_left _ (List.mem_of_getElem? (i := 0) rfl)) e_
  clear e_
  obtain ⟨r4, -, h⟩ := xbp_e h
  rcases xif_o h with h | h
  · skip
    cases h; exact hf
  · skip
    obtain ⟨s7, e_, h⟩ := xbp_e h
    replace hf := xfm_c hf (fr_X11_putsBy e_) (fun q hq => List.mem_append_right _ (List.mem_append_left _ hq))
    clear e_
    obtain ⟨r9, s10, e_, h⟩ := xbd_e h
    replace hf := xfm_c hf (fr_X11_puts e_) (fun q hq => List.mem_append_right _ (List.mem_append_right _ (List.mem_append_left _ hq)))
    clear e_
    obtain ⟨r12, s13, e_, h⟩ := xbd_e h
    replace hf := xfm_c hf (fr_X11_adds e_) (fun q hq => List.mem_append_right _ (List.mem_append_right _ (List.mem_append_right _ (hq))))
    clear e_
    cases h; exact hf
def W_X11_holds : List (Int × Int) := [(121, 0), (121, 1), (135, -1)] ++ (W_X11_laysBegins 127 ++ (W_X11_enters))
theorem fr_X11_holds_25 {s0 : xW} {l1_8 : Int} {q : Int × xW} {k : Int → xW → Option (Int × xW)} (hk : ∀ (x0_ : Int) (x1_ : xW), xfm (W_X11_holds ) s0 x1_ → k x0_ x1_ = some q → xfm (W_X11_holds ) s0 q.2) : ∀ (f : Nat) (l2_9 : Int) (s10 : xW), xfm (W_X11_holds ) s0 s10 → F_X11_holds_25 l1_8 f l2_9 s10 k = some q → xfm (W_X11_holds ) s0 q.2 := by
  intro f
  induction f with
  | zero => intro l2_9 s10 hf h; cases h
  | succ f ih =>
    intro l2_9 s10 hf h
    unfold F_X11_holds_25 at h
    rcases xif_o h with h | h
    · skip
      obtain ⟨r13, -, h⟩ := xbp_e h
      rcases xif_o h with h | h
      · skip
        obtain ⟨s19, e_, h⟩ := xlt_e h
        replace hf := xfm_uO hf (List.mem_append_left _ (List.mem_of_getElem? (i := 1) rfl)) e_
        clear e_
        replace h := (xgd_e h).2
        obtain ⟨s23, e_, h⟩ := xbp_e h
        replace hf := xfm_c hf (fr_X11_enters e_) (fun q hq => List.mem_append_right _ (List.mem_append_right _ (hq)))
        clear e_
        cases h; exact hf
      · skip
        replace h := (xgd_e h).2
        replace h := (xgd_e h).2
        obtain ⟨s17, e_, h⟩ := xlt_e h
        replace hf := xfm_uA hf (List.mem_append_left _ (List.mem_of_getElem? (i := 2) rfl)) e_
        clear e_
        exact ih (l2_9 + 1) s17 hf h
    · skip
      exact hk l2_9 s10 hf h
theorem fr_X11_holds {a1 : Int} {s0 : xW} {q : Int × xW} (h : F_X11_holds a1 s0 = some q) : xfm (W_X11_holds ) s0 q.2 := by
  unfold F_X11_holds at h
  have hf : xfm (W_X11_holds ) s0 s0 := xfm_rf
  obtain ⟨s1, e_, h⟩ := xlt_e h
  replace hf := xfm_uO hf (List.mem_append_left _ (List.mem_of_getElem? (i := 0) rfl)) e_
  clear e_
  obtain ⟨r4, -, h⟩ := xbp_e h
  rcases xif_o h with h | h
  · skip
    cases h; exact hf
  · skip
    obtain ⟨s7, e_, h⟩ := xbp_e h
    replace hf := xfm_c hf (fr_X11_laysBegins e_) (fun q hq => List.mem_append_right _ (List.mem_append_left _ hq))
    clear e_
    refine fr_X11_holds_25 (fun l2_26 s27 hf h => ?_) xN _ _ hf h
    cases h; exact hf
def W_X11_house : List (Int × Int) := [(121, 0)] ++ (W_X11_refuse ++ (W_X11_hears 127 ++ (W_X11_echoes 127)))
theorem fr_X11_house_35 {s0 : xW} {l1_15 : Int} {l2_16 : Int} {s19 : xW} (hf : xfm (W_X11_house ) s0 s19) {q : Int × xW} {k : Int → Int → Option (Int × xW)} (hk : ∀ (x0_ : Int) (x1_ : Int), k x0_ x1_ = some q → xfm (W_X11_house ) s0 q.2) : ∀ (f : Nat) (l3_17 : Int) (l4_18 : Int), F_X11_house_35 l1_15 l2_16 s19 f l3_17 l4_18 k = some q → xfm (W_X11_house ) s0 q.2 := by
  intro f
  induction f with
  | zero => intro l3_17 l4_18 h; cases h
  | succ f ih =>
    intro l3_17 l4_18 h
    unfold F_X11_house_35 at h
    rcases xif_o h with h | h
    · skip
      replace h := (xgd_e h).2
      obtain ⟨v23, -, h⟩ := xlt_e h
      exact ih (xor' l3_17 v23) (l4_18 + 1) h
    · skip
      exact hk l3_17 l4_18 h
theorem fr_X11_house {a1 : Int} {a2 : Int} {s0 : xW} {q : Int × xW} (h : F_X11_house a1 a2 s0 = some q) : xfm (W_X11_house ) s0 q.2 := by
  unfold F_X11_house at h
  have hf : xfm (W_X11_house ) s0 s0 := xfm_rf
  obtain ⟨s1, e_, h⟩ := xlt_e h
  replace hf := xfm_uO hf (List.mem_append_left _ (List.mem_of_getElem? (i := 0) rfl)) e_
  clear e_
  obtain ⟨r4, -, h⟩ := xbp_e h
  obtain ⟨j5, ej_, h⟩ := xjn_e h
  have hj5 : j5  = some q → xfm (W_X11_house ) s0 q.2 := by
    intro  h
    rw [ej_] at h
    obtain ⟨r9, s10, e_, h⟩ := xbd_e h
    replace hf := xfm_c hf (fr_X11_refuse e_) (fun q hq => List.mem_append_right _ (List.mem_append_left _ hq))
    clear e_
    cases h; exact hf
  clear ej_
  rcases xif_o h with h | h
  · skip
    obtain ⟨r13, -, h⟩ := xbp_e h
    rcases xif_o h with h | h
    · skip
      exact hj5  h
    · skip
      refine fr_X11_house_35 hf (fun l3_28 l4_29 h => ?_) xN _ _ h
      rcases xif_o h with h | h
      · skip
        replace h := (xgd_e h).2
        cases h; exact hf
      · skip
        rcases xif_o h with h | h
        · skip
          replace h := (xgd_e h).2
          cases h; exact hf
        · skip
          rcases xif_o h with h | h
          · skip
            replace h := (xgd_e h).2
            cases h; exact hf
          · skip
            rcases xif_o h with h | h
            · skip
              obtain ⟨r38, s39, e_, h⟩ := xbd_e h
              replace hf := xfm_c hf (fr_X11_hears e_) (fun q hq => List.mem_append_right _ (List.mem_append_right _ (List.mem_append_left _ hq)))
              clear e_
              cases h; exact hf
            · skip
              rcases xif_o h with h | h
              · skip
                obtain ⟨r42, s43, e_, h⟩ := xbd_e h
                replace hf := xfm_c hf (fr_X11_echoes e_) (fun q hq => List.mem_append_right _ (List.mem_append_right _ (List.mem_append_right _ (hq))))
                clear e_
                cases h; exact hf
              · skip
                cases h; exact hf
  · skip
    exact hj5  h
def W_X11_houses : List (Int × Int) := [(121, 0), (127, -1), (121, 3)] ++ (W_X11_readsLines ++ (W_X11_isNew))
theorem fr_X11_houses_21 {s0 : xW} {q : Int × xW} {k : Int → xW → Option (Int × xW)} (hk : ∀ (x0_ : Int) (x1_ : xW), xfm (W_X11_houses ) s0 x1_ → k x0_ x1_ = some q → xfm (W_X11_houses ) s0 q.2) : ∀ (f : Nat) (l2_7 : Int) (s8 : xW), xfm (W_X11_houses ) s0 s8 → F_X11_houses_21  f l2_7 s8 k = some q → xfm (W_X11_houses ) s0 q.2 := by
  intro f
  induction f with
  | zero => intro l2_7 s8 hf h; cases h
  | succ f ih =>
    intro l2_7 s8 hf h
    unfold F_X11_houses_21 at h
    rcases xif_o h with h | h
    · skip
      replace h := (xgd_e h).2
      replace h := (xgd_e h).2
      obtain ⟨s12, e_, h⟩ := xlt_e h
      replace hf := xfm_uA hf (List.mem_append_left _ (List.mem_of_getElem? (i := 1) rfl)) e_
      clear e_
      replace h := (xgd_e h).2
      replace h := (xgd_e h).2
      obtain ⟨s16, e_, h⟩ := xlt_e h
      replace hf := xfm_uA hf (List.mem_append_left _ (List.mem_of_getElem? (i := 1) rfl)) e_
      clear e_
      replace h := (xgd_e h).2
      obtain ⟨s19, e_, h⟩ := xlt_e h
      replace hf := xfm_uA hf (List.mem_append_left _ (List.mem_of_getElem? (i := 1) rfl)) e_
      clear e_
      obtain ⟨s21, e_, h⟩ := xlt_e h
      replace hf := xfm_uO hf (List.mem_append_left _ (List.mem_of_getElem? (i := 2) rfl)) e_
      clear e_
      exact ih (l2_7 + 1) s21 hf h
    · skip
      exact hk l2_7 s8 hf h
theorem fr_X11_houses {s0 : xW} {q : Int × xW} (h : F_X11_houses  s0 = some q) : xfm (W_X11_houses ) s0 q.2 := by
  unfold F_X11_houses at h
  have hf : xfm (W_X11_houses ) s0 s0 := xfm_rf
  obtain ⟨s1, e_, h⟩ := xlt_e h
  replace hf := xfm_uO hf (List.mem_append_left _ (List.mem_of_getElem? (i := 0) rfl)) e_
  clear e_
  obtain ⟨r4, s5, e_, h⟩ := xbd_e h
  replace hf := xfm_c hf (fr_X11_readsLines e_) (fun q hq => List.mem_append_right _ (List.mem_append_left _ hq))
  clear e_
  rcases xif_o h with h | h
  · skip
    cases h; exact hf
  · skip
    refine fr_X11_houses_21 (fun l2_25 s26 hf h => ?_) xN _ _ hf h
    obtain ⟨r28, s29, e_, h⟩ := xbd_e h
    replace hf := xfm_c hf (fr_X11_isNew e_) (fun q hq => List.mem_append_right _ (List.mem_append_right _ (hq)))
    clear e_
    cases h; exact hf
def W_X11_keep : List (Int × Int) := [(121, 0), (151, -1), (152, -1), (153, -1)]
theorem fr_X11_keep_38 {s0 : xW} {l1_12 : Int} {q : Int × xW} {k : Int → xW → Option (Int × xW)} (hk : ∀ (x0_ : Int) (x1_ : xW), xfm (W_X11_keep ) s0 x1_ → k x0_ x1_ = some q → xfm (W_X11_keep ) s0 q.2) : ∀ (f : Nat) (l2_13 : Int) (s14 : xW), xfm (W_X11_keep ) s0 s14 → F_X11_keep_38 l1_12 f l2_13 s14 k = some q → xfm (W_X11_keep ) s0 q.2 := by
  intro f
  induction f with
  | zero => intro l2_13 s14 hf h; cases h
  | succ f ih =>
    intro l2_13 s14 hf h
    unfold F_X11_keep_38 at h
    rcases xif_o h with h | h
    · skip
      replace h := (xgd_e h).2
      replace h := (xgd_e h).2
      obtain ⟨s18, e_, h⟩ := xlt_e h
      replace hf := xfm_uA hf (List.mem_of_getElem? (i := 3) rfl) e_
      clear e_
      exact ih (l2_13 + 1) s18 hf h
    · skip
      exact hk l2_13 s14 hf h
theorem fr_X11_keep {a1 : Int} {s0 : xW} {q : Int × xW} (h : F_X11_keep a1 s0 = some q) : xfm (W_X11_keep ) s0 q.2 := by
  unfold F_X11_keep at h
  have hf : xfm (W_X11_keep ) s0 s0 := xfm_rf
  obtain ⟨s1, e_, h⟩ := xlt_e h
  replace hf := xfm_uO hf (List.mem_of_getElem? (i := 0) rfl) e_
  clear e_
  obtain ⟨r4, -, h⟩ := xbp_e h
  rcases xif_o h with h | h
  · skip
    cases h; exact hf
  · skip
    replace h := (xgd_e h).2
    obtain ⟨s7, e_, h⟩ := xlt_e h
    replace hf := xfm_uA hf (List.mem_of_getElem? (i := 1) rfl) e_
    clear e_
    replace h := (xgd_e h).2
    obtain ⟨s10, e_, h⟩ := xlt_e h
    replace hf := xfm_uA hf (List.mem_of_getElem? (i := 2) rfl) e_
    clear e_
    refine fr_X11_keep_38 (fun l2_22 s23 hf h => ?_) xN _ _ hf h
    cases h; exact hf
def W_X11_laysBusy : List (Int × Int) := [(142, -1)] ++ (W_X11_laysBegins 127)
theorem fr_X11_laysBusy_10 {s0 : xW} {l1_3 : Int} {q : xW} {k : Int → xW → Option (xW)} (hk : ∀ (x0_ : Int) (x1_ : xW), xfm (W_X11_laysBusy ) s0 x1_ → k x0_ x1_ = some q → xfm (W_X11_laysBusy ) s0 q) : ∀ (f : Nat) (l2_4 : Int) (s5 : xW), xfm (W_X11_laysBusy ) s0 s5 → F_X11_laysBusy_10 l1_3 f l2_4 s5 k = some q → xfm (W_X11_laysBusy ) s0 q := by
  intro f
  induction f with
  | zero => intro l2_4 s5 hf h; cases h
  | succ f ih =>
    intro l2_4 s5 hf h
    unfold F_X11_laysBusy_10 at h
    rcases xif_o h with h | h
    · skip
      replace h := (xgd_e h).2
      obtain ⟨s8, e_, h⟩ := xlt_e h
      replace hf := xfm_uA hf (List.mem_append_left _ (List.mem_of_getElem? (i := 0) rfl)) e_
      clear e_
      exact ih (l2_4 + 1) s8 hf h
    · skip
      exact hk l2_4 s5 hf h
theorem fr_X11_laysBusy_42 {s0 : xW} {l1_18 : Int} {l2_19 : Int} {q : xW} {k : Int → xW → Option (xW)} (hk : ∀ (x0_ : Int) (x1_ : xW), xfm (W_X11_laysBusy ) s0 x1_ → k x0_ x1_ = some q → xfm (W_X11_laysBusy ) s0 q) : ∀ (f : Nat) (l3_20 : Int) (s21 : xW), xfm (W_X11_laysBusy ) s0 s21 → F_X11_laysBusy_42 l1_18 l2_19 f l3_20 s21 k = some q → xfm (W_X11_laysBusy ) s0 q := by
  intro f
  induction f with
  | zero => intro l3_20 s21 hf h; cases h
  | succ f ih =>
    intro l3_20 s21 hf h
    unfold F_X11_laysBusy_42 at h
    replace h := (xgd_e h).2
    rcases xif_o h with h | h
    · skip
      replace h := (xgd_e h).2
      rcases xif_o h with h | h
      · skip
        replace h := (xgd_e h).2
        replace h := (xgd_e h).2
        replace h := (xgd_e h).2
        obtain ⟨s29, e_, h⟩ := xlt_e h
        replace hf := xfm_uA hf (List.mem_append_left _ (List.mem_of_getElem? (i := 0) rfl)) e_
        clear e_
        exact ih (l3_20 + 1) s29 hf h
      · skip
        exact hk l3_20 s21 hf h
    · skip
      exact hk l3_20 s21 hf h
theorem fr_X11_laysBusy_32 {s0 : xW} {l1_14 : Int} {q : xW} {k : Int → xW → Option (xW)} (hk : ∀ (x0_ : Int) (x1_ : xW), xfm (W_X11_laysBusy ) s0 x1_ → k x0_ x1_ = some q → xfm (W_X11_laysBusy ) s0 q) : ∀ (f : Nat) (l2_15 : Int) (s16 : xW), xfm (W_X11_laysBusy ) s0 s16 → F_X11_laysBusy_32 l1_14 f l2_15 s16 k = some q → xfm (W_X11_laysBusy ) s0 q := by
  intro f
  induction f with
  | zero => intro l2_15 s16 hf h; cases h
  | succ f ih =>
    intro l2_15 s16 hf h
    unfold F_X11_laysBusy_32 at h
    rcases xif_o h with h | h
    · skip
      refine fr_X11_laysBusy_42 (fun l3_33 s34 hf h => ?_) xN _ _ hf h
      exact ih (l2_15 + 1) s34 hf h
    · skip
      exact hk l2_15 s16 hf h
theorem fr_X11_laysBusy {a1 : Int} {s0 : xW} {q : xW} (h : F_X11_laysBusy a1 s0 = some q) : xfm (W_X11_laysBusy ) s0 q := by
  unfold F_X11_laysBusy at h
  have hf : xfm (W_X11_laysBusy ) s0 s0 := xfm_rf
  obtain ⟨s2, e_, h⟩ := xbp_e h
  replace hf := xfm_c hf (fr_X11_laysBegins e_) (fun q hq => List.mem_append_right _ (hq))
  clear e_
  refine fr_X11_laysBusy_10 (fun l2_12 s13 hf h => ?_) xN _ _ hf h
  refine fr_X11_laysBusy_32 (fun l2_37 s38 hf h => ?_) xN _ _ hf h
  cases h; exact hf
def W_X11_lane : List (Int × Int) := [(121, 0), (121, 1)] ++ (W_X11_laysBusy ++ (W_X11_enters))
theorem fr_X11_lane_36 {s0 : xW} {s12 : xW} (hf : xfm (W_X11_lane ) s0 s12) {q : Int × xW} {k : Int → Int → Int → Int → Option (Int × xW)} (hk : ∀ (x0_ : Int) (x1_ : Int) (x2_ : Int) (x3_ : Int), k x0_ x1_ x2_ x3_ = some q → xfm (W_X11_lane ) s0 q.2) : ∀ (f : Nat) (l2_8 : Int) (l3_9 : Int) (l4_10 : Int) (l5_11 : Int), F_X11_lane_36 s12 f l2_8 l3_9 l4_10 l5_11 k = some q → xfm (W_X11_lane ) s0 q.2 := by
  intro f
  induction f with
  | zero => intro l2_8 l3_9 l4_10 l5_11 h; cases h
  | succ f ih =>
    intro l2_8 l3_9 l4_10 l5_11 h
    unfold F_X11_lane_36 at h
    rcases xif_o h with h | h
    · skip
      replace h := (xgd_e h).2
      obtain ⟨v16, -, h⟩ := xlt_e h
      obtain ⟨r20, -, h⟩ := xbp_e h
      replace h := (xgd_e h).2
      obtain ⟨v23, -, h⟩ := xlt_e h
      replace h := (xgd_e h).2
      exact ih (l2_8 + r20) v23 (max (xw l4_10) (xw (s12 142 l5_11))) (l5_11 + 1) h
    · skip
      exact hk l2_8 l3_9 l4_10 l5_11 h
theorem fr_X11_lane {a1 : Int} {s0 : xW} {q : Int × xW} (h : F_X11_lane a1 s0 = some q) : xfm (W_X11_lane ) s0 q.2 := by
  unfold F_X11_lane at h
  have hf : xfm (W_X11_lane ) s0 s0 := xfm_rf
  obtain ⟨s1, e_, h⟩ := xlt_e h
  replace hf := xfm_uO hf (List.mem_append_left _ (List.mem_of_getElem? (i := 0) rfl)) e_
  clear e_
  obtain ⟨r4, -, h⟩ := xbp_e h
  rcases xif_o h with h | h
  · skip
    cases h; exact hf
  · skip
    obtain ⟨s7, e_, h⟩ := xbp_e h
    replace hf := xfm_c hf (fr_X11_laysBusy e_) (fun q hq => List.mem_append_right _ (List.mem_append_left _ hq))
    clear e_
    refine fr_X11_lane_36 hf (fun l2_31 l3_32 l4_33 l5_34 h => ?_) xN _ _ _ _ h
    obtain ⟨s35, e_, h⟩ := xlt_e h
    replace hf := xfm_uO hf (List.mem_append_left _ (List.mem_of_getElem? (i := 1) rfl)) e_
    clear e_
    obtain ⟨s38, e_, h⟩ := xbp_e h
    replace hf := xfm_c hf (fr_X11_enters e_) (fun q hq => List.mem_append_right _ (List.mem_append_right _ (hq)))
    clear e_
    obtain ⟨s40, e_, h⟩ := xbp_e h
    replace hf := xfm_c hf (fr_X11_enters e_) (fun q hq => List.mem_append_right _ (List.mem_append_right _ (hq)))
    clear e_
    cases h; exact hf
def W_X11_lasts : List (Int × Int) := [(121, 0), (121, 1), (128, -1)] ++ (W_X11_copies ++ (W_X11_enters ++ (W_X11_clashesOn 128)))
theorem fr_X11_lasts_13 {s0 : xW} {q : Int × xW} {k : Int → Int → xW → Option (Int × xW)} (hk : ∀ (x0_ : Int) (x1_ : Int) (x2_ : xW), xfm (W_X11_lasts ) s0 x2_ → k x0_ x1_ x2_ = some q → xfm (W_X11_lasts ) s0 q.2) : ∀ (f : Nat) (l1_5 : Int) (l2_6 : Int) (s7 : xW), xfm (W_X11_lasts ) s0 s7 → F_X11_lasts_13  f l1_5 l2_6 s7 k = some q → xfm (W_X11_lasts ) s0 q.2 := by
  intro f
  induction f with
  | zero => intro l1_5 l2_6 s7 hf h; cases h
  | succ f ih =>
    intro l1_5 l2_6 s7 hf h
    unfold F_X11_lasts_13 at h
    rcases xif_o h with h | h
    · skip
      obtain ⟨r10, s11, e_, h⟩ := xbd_e h
      replace hf := xfm_c hf (fr_X11_clashesOn e_) (fun q hq => List.mem_append_right _ (List.mem_append_right _ (List.mem_append_right _ (hq))))
      clear e_
      obtain ⟨s12, e_, h⟩ := xlt_e h
      replace hf := xfm_uA hf (List.mem_append_left _ (List.mem_of_getElem? (i := 2) rfl)) e_
      clear e_
      exact ih (l1_5 + r10) (l2_6 + 1) s12 hf h
    · skip
      exact hk l1_5 l2_6 s7 hf h
theorem fr_X11_lasts {s0 : xW} {q : Int × xW} (h : F_X11_lasts  s0 = some q) : xfm (W_X11_lasts ) s0 q.2 := by
  unfold F_X11_lasts at h
  have hf : xfm (W_X11_lasts ) s0 s0 := xfm_rf
  obtain ⟨s1, e_, h⟩ := xlt_e h
  replace hf := xfm_uO hf (List.mem_append_left _ (List.mem_of_getElem? (i := 0) rfl)) e_
  clear e_
  obtain ⟨s4, e_, h⟩ := xbp_e h
  replace hf := xfm_c hf (fr_X11_copies e_) (fun q hq => List.mem_append_right _ (List.mem_append_left _ hq))
  clear e_
  refine fr_X11_lasts_13 (fun l1_17 l2_18 s19 hf h => ?_) xN _ _ _ hf h
  obtain ⟨s20, e_, h⟩ := xlt_e h
  replace hf := xfm_uO hf (List.mem_append_left _ (List.mem_of_getElem? (i := 1) rfl)) e_
  clear e_
  obtain ⟨s23, e_, h⟩ := xbp_e h
  replace hf := xfm_c hf (fr_X11_enters e_) (fun q hq => List.mem_append_right _ (List.mem_append_right _ (List.mem_append_left _ hq)))
  clear e_
  cases h; exact hf
def W_X11_laysCode : List (Int × Int) := [(121, 23), (131, -1)]
theorem fr_X11_laysCode_7 {s0 : xW} {l1_3 : Int} {l2_5 : Int} (hm_l1_3 : l1_3 ∈ xCodes) {q : xW} {k : Int → xW → Option (xW)} (hk : ∀ (x0_ : Int) (x1_ : xW), xfm (W_X11_laysCode ) s0 x1_ → k x0_ x1_ = some q → xfm (W_X11_laysCode ) s0 q) : ∀ (f : Nat) (l3_6 : Int) (s7 : xW), xfm (W_X11_laysCode ) s0 s7 → F_X11_laysCode_7 l1_3 l2_5 f l3_6 s7 k = some q → xfm (W_X11_laysCode ) s0 q := by
  intro f
  induction f with
  | zero => intro l3_6 s7 hf h; cases h
  | succ f ih =>
    intro l3_6 s7 hf h
    unfold F_X11_laysCode_7 at h
    rcases xif_o h with h | h
    · skip
      replace h := (xgd_e h).2
      replace h := (xgd_e h).2
      obtain ⟨s11, e_, h⟩ := xlt_e h
      replace hf := xfm_uA hf (List.mem_of_getElem? (i := 1) rfl) e_
      clear e_
      exact ih (l3_6 + 1) s11 hf h
    · skip
      exact hk l3_6 s7 hf h
theorem fr_X11_laysCode {a1 : Int} {a2 : Int} {s0 : xW} {q : xW} (h : F_X11_laysCode a1 a2 s0 = some q) : xfm (W_X11_laysCode ) s0 q := by
  unfold F_X11_laysCode at h
  have hf : xfm (W_X11_laysCode ) s0 s0 := xfm_rf
  obtain ⟨hm_0, h⟩ := xgd_e h
  obtain ⟨s1, e_, h⟩ := xlt_e h
  replace hf := xfm_uO hf (List.mem_of_getElem? (i := 0) rfl) e_
  clear e_
  refine fr_X11_laysCode_7 (by assumption) (fun l3_15 s16 hf h => ?_) xN _ _ hf h
  cases h; exact hf
def W_X11_longest : List (Int × Int) := [(121, 0), (121, 1)] ++ (W_X11_laysFoes ++ (W_X11_enters))
theorem fr_X11_longest_13 {s0 : xW} {s7 : xW} (hf : xfm (W_X11_longest ) s0 s7) {q : Int × xW} {k : Int → Int → Option (Int × xW)} (hk : ∀ (x0_ : Int) (x1_ : Int), k x0_ x1_ = some q → xfm (W_X11_longest ) s0 q.2) : ∀ (f : Nat) (l1_5 : Int) (l2_6 : Int), F_X11_longest_13 s7 f l1_5 l2_6 k = some q → xfm (W_X11_longest ) s0 q.2 := by
  intro f
  induction f with
  | zero => intro l1_5 l2_6 h; cases h
  | succ f ih =>
    intro l1_5 l2_6 h
    unfold F_X11_longest_13 at h
    rcases xif_o h with h | h
    · skip
      obtain ⟨r10, -, h⟩ := xbp_e h
      obtain ⟨r12, -, h⟩ := xbp_e h
      obtain ⟨j14, ej_, h⟩ := xjn_e h
      have hj14 : ∀ (t13 : Int), j14 t13 = some q → xfm (W_X11_longest ) s0 q.2 := by
        intro t13 h
        rw [ej_] at h
        obtain ⟨j18, ej_, h⟩ := xjn_e h
        have hj18 : ∀ (t17 : Int), j18 t17 = some q → xfm (W_X11_longest ) s0 q.2 := by
          intro t17 h
          rw [ej_] at h
          exact ih t17 (l2_6 + 1) h
        clear ej_
        obtain ⟨j21, ej_, h⟩ := xjn_e h
        have hj21 : j21  = some q → xfm (W_X11_longest ) s0 q.2 := by
          intro  h
          rw [ej_] at h
          exact hj18 l1_5 h
        clear ej_
        rcases xif_o h with h | h
        · skip
          obtain ⟨r26, -, h⟩ := xbp_e h
          rcases xif_o h with h | h
          · skip
            exact hj18 l2_6 h
          · skip
            exact hj21  h
        · skip
          exact hj21  h
      clear ej_
      obtain ⟨j28, ej_, h⟩ := xjn_e h
      have hj28 : j28  = some q → xfm (W_X11_longest ) s0 q.2 := by
        intro  h
        rw [ej_] at h
        exact hj14 1 h
      clear ej_
      rcases xif_o h with h | h
      · skip
        obtain ⟨j32, ej_, h⟩ := xjn_e h
        have hj32 : j32  = some q → xfm (W_X11_longest ) s0 q.2 := by
          intro  h
          rw [ej_] at h
          exact hj14 0 h
        clear ej_
        rcases xif_o h with h | h
        · skip
          rcases xif_o h with h | h
          · skip
            exact hj28  h
          · skip
            exact hj32  h
        · skip
          exact hj32  h
      · skip
        exact hj28  h
    · skip
      exact hk l1_5 l2_6 h
theorem fr_X11_longest {s0 : xW} {q : Int × xW} (h : F_X11_longest  s0 = some q) : xfm (W_X11_longest ) s0 q.2 := by
  unfold F_X11_longest at h
  have hf : xfm (W_X11_longest ) s0 s0 := xfm_rf
  obtain ⟨s1, e_, h⟩ := xlt_e h
  replace hf := xfm_uO hf (List.mem_append_left _ (List.mem_of_getElem? (i := 0) rfl)) e_
  clear e_
  obtain ⟨s4, e_, h⟩ := xbp_e h
  replace hf := xfm_c hf (fr_X11_laysFoes e_) (fun q hq => List.mem_append_right _ (List.mem_append_left _ hq))
  clear e_
  refine fr_X11_longest_13 hf (fun l1_39 l2_40 h => ?_) xN _ _ h
  obtain ⟨s41, e_, h⟩ := xlt_e h
  replace hf := xfm_uO hf (List.mem_append_left _ (List.mem_of_getElem? (i := 1) rfl)) e_
  clear e_
  obtain ⟨s44, e_, h⟩ := xbp_e h
  replace hf := xfm_c hf (fr_X11_enters e_) (fun q hq => List.mem_append_right _ (List.mem_append_right _ (hq)))
  clear e_
  obtain ⟨r46, -, h⟩ := xbp_e h
  cases h; exact hf
def W_X11_menders : List (Int × Int) := [(121, 0), (121, 1)] ++ (W_X11_enters)
theorem fr_X11_menders_63 {s0 : xW} {l1_21 : Int} {l2_22 : Int} {l3_23 : Int} {l5_24 : Int} {s27 : xW} (hf : xfm (W_X11_menders ) s0 s27) {q : Int × xW} {k : Int → Int → Option (Int × xW)} (hk : ∀ (x0_ : Int) (x1_ : Int), k x0_ x1_ = some q → xfm (W_X11_menders ) s0 q.2) : ∀ (f : Nat) (l6_25 : Int) (l7_26 : Int), F_X11_menders_63 l1_21 l2_22 l3_23 l5_24 s27 f l6_25 l7_26 k = some q → xfm (W_X11_menders ) s0 q.2 := by
  intro f
  induction f with
  | zero => intro l6_25 l7_26 h; cases h
  | succ f ih =>
    intro l6_25 l7_26 h
    unfold F_X11_menders_63 at h
    rcases xif_o h with h | h
    · skip
      obtain ⟨j30, ej_, h⟩ := xjn_e h
      have hj30 : ∀ (t29 : Int), j30 t29 = some q → xfm (W_X11_menders ) s0 q.2 := by
        intro t29 h
        rw [ej_] at h
        exact ih t29 (l7_26 + 1) h
      clear ej_
      obtain ⟨j33, ej_, h⟩ := xjn_e h
      have hj33 : j33  = some q → xfm (W_X11_menders ) s0 q.2 := by
        intro  h
        rw [ej_] at h
        exact hj30 1 h
      clear ej_
      rcases xif_o h with h | h
      · skip
        obtain ⟨r38, -, h⟩ := xbp_e h
        obtain ⟨j39, ej_, h⟩ := xjn_e h
        have hj39 : j39  = some q → xfm (W_X11_menders ) s0 q.2 := by
          intro  h
          rw [ej_] at h
          exact hj30 0 h
        clear ej_
        rcases xif_o h with h | h
        · skip
          replace h := (xgd_e h).2
          replace h := (xgd_e h).2
          replace h := (xgd_e h).2
          replace h := (xgd_e h).2
          obtain ⟨r48, -, h⟩ := xbp_e h
          rcases xif_o h with h | h
          · skip
            exact hj33  h
          · skip
            exact hj39  h
        · skip
          exact hj39  h
      · skip
        exact hj33  h
    · skip
      exact hk l6_25 l7_26 h
theorem fr_X11_menders_43 {s0 : xW} {l1_13 : Int} {l2_14 : Int} {l3_15 : Int} {s18 : xW} (hf : xfm (W_X11_menders ) s0 s18) {q : Int × xW} {k : Int → Int → Option (Int × xW)} (hk : ∀ (x0_ : Int) (x1_ : Int), k x0_ x1_ = some q → xfm (W_X11_menders ) s0 q.2) : ∀ (f : Nat) (l4_16 : Int) (l5_17 : Int), F_X11_menders_43 l1_13 l2_14 l3_15 s18 f l4_16 l5_17 k = some q → xfm (W_X11_menders ) s0 q.2 := by
  intro f
  induction f with
  | zero => intro l4_16 l5_17 h; cases h
  | succ f ih =>
    intro l4_16 l5_17 h
    unfold F_X11_menders_43 at h
    rcases xif_o h with h | h
    · skip
      rcases xif_o h with h | h
      · skip
        refine fr_X11_menders_63 hf (fun l6_52 l7_53 h => ?_) xN _ _ h
        exact ih l6_52 (l5_17 + 1) h
      · skip
        exact hk l4_16 l5_17 h
    · skip
      exact hk l4_16 l5_17 h
theorem fr_X11_menders_23 {s0 : xW} {l1_6 : Int} {s9 : xW} (hf : xfm (W_X11_menders ) s0 s9) {q : Int × xW} {k : Int → Int → Option (Int × xW)} (hk : ∀ (x0_ : Int) (x1_ : Int), k x0_ x1_ = some q → xfm (W_X11_menders ) s0 q.2) : ∀ (f : Nat) (l2_7 : Int) (l3_8 : Int), F_X11_menders_23 l1_6 s9 f l2_7 l3_8 k = some q → xfm (W_X11_menders ) s0 q.2 := by
  intro f
  induction f with
  | zero => intro l2_7 l3_8 h; cases h
  | succ f ih =>
    intro l2_7 l3_8 h
    unfold F_X11_menders_23 at h
    rcases xif_o h with h | h
    · skip
      obtain ⟨r12, -, h⟩ := xbp_e h
      refine fr_X11_menders_43 hf (fun l4_56 l5_57 h => ?_) xN _ _ h
      obtain ⟨v59, -, h⟩ := xlt_e h
      exact ih v59 (l3_8 + 1) h
    · skip
      exact hk l2_7 l3_8 h
theorem fr_X11_menders {a1 : Int} {s0 : xW} {q : Int × xW} (h : F_X11_menders a1 s0 = some q) : xfm (W_X11_menders ) s0 q.2 := by
  unfold F_X11_menders at h
  have hf : xfm (W_X11_menders ) s0 s0 := xfm_rf
  obtain ⟨s1, e_, h⟩ := xlt_e h
  replace hf := xfm_uO hf (List.mem_append_left _ (List.mem_of_getElem? (i := 0) rfl)) e_
  clear e_
  obtain ⟨r4, -, h⟩ := xbp_e h
  rcases xif_o h with h | h
  · skip
    cases h; exact hf
  · skip
    refine fr_X11_menders_23 hf (fun l2_64 l3_65 h => ?_) xN _ _ h
    obtain ⟨s66, e_, h⟩ := xlt_e h
    replace hf := xfm_uO hf (List.mem_append_left _ (List.mem_of_getElem? (i := 1) rfl)) e_
    clear e_
    obtain ⟨s69, e_, h⟩ := xbp_e h
    replace hf := xfm_c hf (fr_X11_enters e_) (fun q hq => List.mem_append_right _ (hq))
    clear e_
    cases h; exact hf
def W_X11_middle : List (Int × Int) := [(121, 0), (121, 1), (128, -1)] ++ (W_X11_copies ++ (W_X11_enters ++ (W_X11_hears 128)))
theorem fr_X11_middle_61 {s0 : xW} {l1_15 : Int} {l2_16 : Int} {l3_17 : Int} {q : Int × xW} {k : Int → Int → xW → Option (Int × xW)} (hk : ∀ (x0_ : Int) (x1_ : Int) (x2_ : xW), xfm (W_X11_middle ) s0 x2_ → k x0_ x1_ x2_ = some q → xfm (W_X11_middle ) s0 q.2) : ∀ (f : Nat) (l4_18 : Int) (l5_19 : Int) (s20 : xW), xfm (W_X11_middle ) s0 s20 → F_X11_middle_61 l1_15 l2_16 l3_17 f l4_18 l5_19 s20 k = some q → xfm (W_X11_middle ) s0 q.2 := by
  intro f
  induction f with
  | zero => intro l4_18 l5_19 s20 hf h; cases h
  | succ f ih =>
    intro l4_18 l5_19 s20 hf h
    unfold F_X11_middle_61 at h
    rcases xif_o h with h | h
    · skip
      obtain ⟨r23, s24, e_, h⟩ := xbd_e h
      replace hf := xfm_c hf (fr_X11_hears e_) (fun q hq => List.mem_append_right _ (List.mem_append_right _ (List.mem_append_right _ (hq))))
      clear e_
      exact ih (max (xw l4_18) (xw r23)) (l5_19 + 1) s24 hf h
    · skip
      exact hk l4_18 l5_19 s20 hf h
theorem fr_X11_middle_27 {s0 : xW} {q : Int × xW} {k : Int → Int → Int → xW → Option (Int × xW)} (hk : ∀ (x0_ : Int) (x1_ : Int) (x2_ : Int) (x3_ : xW), xfm (W_X11_middle ) s0 x3_ → k x0_ x1_ x2_ x3_ = some q → xfm (W_X11_middle ) s0 q.2) : ∀ (f : Nat) (l1_6 : Int) (l2_7 : Int) (l3_8 : Int) (s9 : xW), xfm (W_X11_middle ) s0 s9 → F_X11_middle_27  f l1_6 l2_7 l3_8 s9 k = some q → xfm (W_X11_middle ) s0 q.2 := by
  intro f
  induction f with
  | zero => intro l1_6 l2_7 l3_8 s9 hf h; cases h
  | succ f ih =>
    intro l1_6 l2_7 l3_8 s9 hf h
    unfold F_X11_middle_27 at h
    rcases xif_o h with h | h
    · skip
      obtain ⟨s11, e_, h⟩ := xlt_e h
      replace hf := xfm_uA hf (List.mem_append_left _ (List.mem_of_getElem? (i := 2) rfl)) e_
      clear e_
      obtain ⟨s13, e_, h⟩ := xlt_e h
      replace hf := xfm_uA hf (List.mem_append_left _ (List.mem_of_getElem? (i := 2) rfl)) e_
      clear e_
      refine fr_X11_middle_61 (fun l4_28 l5_29 s30 hf h => ?_) xN _ _ _ hf h
      obtain ⟨v32, -, h⟩ := xlt_e h
      exact ih v32 (min (xw l2_7) (xw l4_28)) (l3_8 + 1) s30 hf h
    · skip
      exact hk l1_6 l2_7 l3_8 s9 hf h
theorem fr_X11_middle {s0 : xW} {q : Int × xW} (h : F_X11_middle  s0 = some q) : xfm (W_X11_middle ) s0 q.2 := by
  unfold F_X11_middle at h
  have hf : xfm (W_X11_middle ) s0 s0 := xfm_rf
  obtain ⟨s1, e_, h⟩ := xlt_e h
  replace hf := xfm_uO hf (List.mem_append_left _ (List.mem_of_getElem? (i := 0) rfl)) e_
  clear e_
  rcases xif_o h with h | h
  · skip
    cases h; exact hf
  · skip
    obtain ⟨s5, e_, h⟩ := xbp_e h
    replace hf := xfm_c hf (fr_X11_copies e_) (fun q hq => List.mem_append_right _ (List.mem_append_left _ hq))
    clear e_
    refine fr_X11_middle_27 (fun l1_39 l2_40 l3_41 s42 hf h => ?_) xN _ _ _ _ hf h
    obtain ⟨s43, e_, h⟩ := xlt_e h
    replace hf := xfm_uO hf (List.mem_append_left _ (List.mem_of_getElem? (i := 1) rfl)) e_
    clear e_
    obtain ⟨s46, e_, h⟩ := xbp_e h
    replace hf := xfm_c hf (fr_X11_enters e_) (fun q hq => List.mem_append_right _ (List.mem_append_right _ (List.mem_append_left _ hq)))
    clear e_
    obtain ⟨s48, e_, h⟩ := xbp_e h
    replace hf := xfm_c hf (fr_X11_enters e_) (fun q hq => List.mem_append_right _ (List.mem_append_right _ (List.mem_append_left _ hq)))
    clear e_
    cases h; exact hf
def W_X11_tellsFraction : List (Int × Int) := [(121, 1)] ++ (W_X11_enters)
theorem fr_X11_tellsFraction {a1 : Int} {a3 : Int} {s0 : xW} {q : xW} (h : F_X11_tellsFraction a1 a3 s0 = some q) : xfm (W_X11_tellsFraction ) s0 q := by
  unfold F_X11_tellsFraction at h
  have hf : xfm (W_X11_tellsFraction ) s0 s0 := xfm_rf
  obtain ⟨r2, -, h⟩ := xbp_e h
  obtain ⟨s3, e_, h⟩ := xlt_e h
  replace hf := xfm_uO hf (List.mem_append_left _ (List.mem_of_getElem? (i := 0) rfl)) e_
  clear e_
  replace h := (xgd_e h).2
  obtain ⟨s7, e_, h⟩ := xbp_e h
  replace hf := xfm_c hf (fr_X11_enters e_) (fun q hq => List.mem_append_right _ (hq))
  clear e_
  replace h := (xgd_e h).2
  obtain ⟨s10, e_, h⟩ := xbp_e h
  replace hf := xfm_c hf (fr_X11_enters e_) (fun q hq => List.mem_append_right _ (hq))
  clear e_
  cases h; exact hf
def W_X11_misfires : List (Int × Int) := [(121, 0), (148, -1)] ++ (W_X11_tellsFraction)
theorem fr_X11_misfires_49 {s0 : xW} {l1_15 : Int} {l2_16 : Int} {l3_17 : Int} {l4_18 : Int} {q : Int × xW} {k : Int → xW → Option (Int × xW)} (hk : ∀ (x0_ : Int) (x1_ : xW), xfm (W_X11_misfires ) s0 x1_ → k x0_ x1_ = some q → xfm (W_X11_misfires ) s0 q.2) : ∀ (f : Nat) (l6_19 : Int) (s20 : xW), xfm (W_X11_misfires ) s0 s20 → F_X11_misfires_49 l1_15 l2_16 l3_17 l4_18 f l6_19 s20 k = some q → xfm (W_X11_misfires ) s0 q.2 := by
  intro f
  induction f with
  | zero => intro l6_19 s20 hf h; cases h
  | succ f ih =>
    intro l6_19 s20 hf h
    unfold F_X11_misfires_49 at h
    rcases xif_o h with h | h
    · skip
      obtain ⟨v23, -, h⟩ := xlt_e h
      obtain ⟨r27, -, h⟩ := xbp_e h
      replace h := (xgd_e h).2
      obtain ⟨s29, e_, h⟩ := xlt_e h
      replace hf := xfm_uA hf (List.mem_append_left _ (List.mem_of_getElem? (i := 1) rfl)) e_
      clear e_
      exact ih (l6_19 + 1) s29 hf h
    · skip
      exact hk l6_19 s20 hf h
theorem fr_X11_misfires_99 {s0 : xW} {l1_42 : Int} {l2_43 : Int} {l3_44 : Int} {l4_45 : Int} {l6_46 : Int} {q : Int × xW} {k : Int → Int → xW → Option (Int × xW)} (hk : ∀ (x0_ : Int) (x1_ : Int) (x2_ : xW), xfm (W_X11_misfires ) s0 x2_ → k x0_ x1_ x2_ = some q → xfm (W_X11_misfires ) s0 q.2) : ∀ (f : Nat) (l7_47 : Int) (l9_48 : Int) (s49 : xW), xfm (W_X11_misfires ) s0 s49 → F_X11_misfires_99 l1_42 l2_43 l3_44 l4_45 l6_46 f l7_47 l9_48 s49 k = some q → xfm (W_X11_misfires ) s0 q.2 := by
  intro f
  induction f with
  | zero => intro l7_47 l9_48 s49 hf h; cases h
  | succ f ih =>
    intro l7_47 l9_48 s49 hf h
    unfold F_X11_misfires_99 at h
    rcases xif_o h with h | h
    · skip
      replace h := (xgd_e h).2
      replace h := (xgd_e h).2
      replace h := (xgd_e h).2
      obtain ⟨s54, e_, h⟩ := xlt_e h
      replace hf := xfm_uA hf (List.mem_append_left _ (List.mem_of_getElem? (i := 1) rfl)) e_
      clear e_
      exact ih (l7_47 + (s49 148 l9_48)) (l9_48 + (-1)) s54 hf h
    · skip
      exact hk l7_47 l9_48 s49 hf h
theorem fr_X11_misfires_85 {s0 : xW} {l1_35 : Int} {l2_36 : Int} {l3_37 : Int} {q : Int × xW} {k : Int → Int → xW → Option (Int × xW)} (hk : ∀ (x0_ : Int) (x1_ : Int) (x2_ : xW), xfm (W_X11_misfires ) s0 x2_ → k x0_ x1_ x2_ = some q → xfm (W_X11_misfires ) s0 q.2) : ∀ (f : Nat) (l4_38 : Int) (l6_39 : Int) (s40 : xW), xfm (W_X11_misfires ) s0 s40 → F_X11_misfires_85 l1_35 l2_36 l3_37 f l4_38 l6_39 s40 k = some q → xfm (W_X11_misfires ) s0 q.2 := by
  intro f
  induction f with
  | zero => intro l4_38 l6_39 s40 hf h; cases h
  | succ f ih =>
    intro l4_38 l6_39 s40 hf h
    unfold F_X11_misfires_85 at h
    rcases xif_o h with h | h
    · skip
      refine fr_X11_misfires_99 (fun l7_59 l9_60 s61 hf h => ?_) xN _ _ _ hf h
      obtain ⟨s62, e_, h⟩ := xlt_e h
      replace hf := xfm_uA hf (List.mem_append_left _ (List.mem_of_getElem? (i := 1) rfl)) e_
      clear e_
      exact ih (l4_38 * 10) (l6_39 + 1) s62 hf h
    · skip
      exact hk l4_38 l6_39 s40 hf h
theorem fr_X11_misfires_175 {s0 : xW} {l2_70 : Int} {l4_71 : Int} {s74 : xW} (hf : xfm (W_X11_misfires ) s0 s74) {q : Int × xW} {k : Int → Int → Option (Int × xW)} (hk : ∀ (x0_ : Int) (x1_ : Int), k x0_ x1_ = some q → xfm (W_X11_misfires ) s0 q.2) : ∀ (f : Nat) (l6_72 : Int) (l8_73 : Int), F_X11_misfires_175 l2_70 l4_71 s74 f l6_72 l8_73 k = some q → xfm (W_X11_misfires ) s0 q.2 := by
  intro f
  induction f with
  | zero => intro l6_72 l8_73 h; cases h
  | succ f ih =>
    intro l6_72 l8_73 h
    unfold F_X11_misfires_175 at h
    rcases xif_o h with h | h
    · skip
      replace h := (xgd_e h).2
      exact ih (l6_72 + (s74 148 l8_73)) (l8_73 + 1) h
    · skip
      exact hk l6_72 l8_73 h
theorem fr_X11_misfires {a1 : Int} {a2 : Int} {a3 : Int} {s0 : xW} {q : Int × xW} (h : F_X11_misfires a1 a2 a3 s0 = some q) : xfm (W_X11_misfires ) s0 q.2 := by
  unfold F_X11_misfires at h
  have hf : xfm (W_X11_misfires ) s0 s0 := xfm_rf
  obtain ⟨s1, e_, h⟩ := xlt_e h
  replace hf := xfm_uO hf (List.mem_append_left _ (List.mem_of_getElem? (i := 0) rfl)) e_
  clear e_
  obtain ⟨r4, -, h⟩ := xbp_e h
  obtain ⟨j5, ej_, h⟩ := xjn_e h
  have hj5 : j5  = some q → xfm (W_X11_misfires ) s0 q.2 := by
    intro  h
    rw [ej_] at h
    cases h; exact hf
  clear ej_
  rcases xif_o h with h | h
  · skip
    obtain ⟨r10, -, h⟩ := xbp_e h
    rcases xif_o h with h | h
    · skip
      obtain ⟨r13, -, h⟩ := xbp_e h
      rcases xif_o h with h | h
      · skip
        exact hj5  h
      · skip
        refine fr_X11_misfires_49 (fun l6_33 s34 hf h => ?_) xN _ _ hf h
        refine fr_X11_misfires_85 (fun l4_67 l6_68 s69 hf h => ?_) xN _ _ _ hf h
        refine fr_X11_misfires_175 hf (fun l6_79 l8_80 h => ?_) xN _ _ h
        obtain ⟨s82, e_, h⟩ := xbp_e h
        replace hf := xfm_c hf (fr_X11_tellsFraction e_) (fun q hq => List.mem_append_right _ (hq))
        clear e_
        cases h; exact hf
    · skip
      exact hj5  h
  · skip
    exact hj5  h
def W_X11_moves : List (Int × Int) := [(121, 0)] ++ (W_X11_putsBy ++ (W_X11_movesTo 127 ++ (W_X11_counted)))
theorem fr_X11_moves {a1 : Int} {a2 : Int} {a3 : Int} {s0 : xW} {q : Int × xW} (h : F_X11_moves a1 a2 a3 s0 = some q) : xfm (W_X11_moves ) s0 q.2 := by
  unfold F_X11_moves at h
  have hf : xfm (W_X11_moves ) s0 s0 := xfm_rf
  obtain ⟨s1, e_, h⟩ := xlt_e h
  replace hf := xfm_uO hf (List.mem_append_left _ (List.mem_of_getElem? (i := 0) rfl)) e_
  clear e_
  obtain ⟨s4, e_, h⟩ := xbp_e h
  replace hf := xfm_c hf (fr_X11_putsBy e_) (fun q hq => List.mem_append_right _ (List.mem_append_left _ hq))
  clear e_
  obtain ⟨r6, s7, e_, h⟩ := xbd_e h
  replace hf := xfm_c hf (fr_X11_movesTo e_) (fun q hq => List.mem_append_right _ (List.mem_append_right _ (List.mem_append_left _ hq)))
  clear e_
  obtain ⟨r9, s10, e_, h⟩ := xbd_e h
  replace hf := xfm_c hf (fr_X11_counted e_) (fun q hq => List.mem_append_right _ (List.mem_append_right _ (List.mem_append_right _ (hq))))
  clear e_
  cases h; exact hf
def W_X11_order : List (Int × Int) := [(121, 0), (121, 1)] ++ (W_X11_laysBegins 127 ++ (W_X11_laysLine ++ (W_X11_enters)))
theorem fr_X11_order_24 {s0 : xW} {q : Int × xW} {k : Int → xW → Option (Int × xW)} (hk : ∀ (x0_ : Int) (x1_ : xW), xfm (W_X11_order ) s0 x1_ → k x0_ x1_ = some q → xfm (W_X11_order ) s0 q.2) : ∀ (f : Nat) (l1_9 : Int) (s10 : xW), xfm (W_X11_order ) s0 s10 → F_X11_order_24  f l1_9 s10 k = some q → xfm (W_X11_order ) s0 q.2 := by
  intro f
  induction f with
  | zero => intro l1_9 s10 hf h; cases h
  | succ f ih =>
    intro l1_9 s10 hf h
    unfold F_X11_order_24 at h
    rcases xif_o h with h | h
    · skip
      replace h := (xgd_e h).2
      obtain ⟨s14, e_, h⟩ := xbp_e h
      replace hf := xfm_c hf (fr_X11_enters e_) (fun q hq => List.mem_append_right _ (List.mem_append_right _ (List.mem_append_right _ (hq))))
      clear e_
      exact ih (l1_9 + 1) s14 hf h
    · skip
      exact hk l1_9 s10 hf h
theorem fr_X11_order {s0 : xW} {q : Int × xW} (h : F_X11_order  s0 = some q) : xfm (W_X11_order ) s0 q.2 := by
  unfold F_X11_order at h
  have hf : xfm (W_X11_order ) s0 s0 := xfm_rf
  obtain ⟨s1, e_, h⟩ := xlt_e h
  replace hf := xfm_uO hf (List.mem_append_left _ (List.mem_of_getElem? (i := 0) rfl)) e_
  clear e_
  obtain ⟨s4, e_, h⟩ := xbp_e h
  replace hf := xfm_c hf (fr_X11_laysBegins e_) (fun q hq => List.mem_append_right _ (List.mem_append_left _ hq))
  clear e_
  obtain ⟨s6, e_, h⟩ := xbp_e h
  replace hf := xfm_c hf (fr_X11_laysLine e_) (fun q hq => List.mem_append_right _ (List.mem_append_right _ (List.mem_append_left _ hq)))
  clear e_
  obtain ⟨s7, e_, h⟩ := xlt_e h
  replace hf := xfm_uO hf (List.mem_append_left _ (List.mem_of_getElem? (i := 1) rfl)) e_
  clear e_
  refine fr_X11_order_24 (fun l1_17 s18 hf h => ?_) xN _ _ hf h
  cases h; exact hf
def W_X11_quiet : List (Int × Int) := [(121, 0), (121, 1), (128, -1)] ++ (W_X11_copies ++ (W_X11_enters ++ (W_X11_clashesOn 128)))
theorem fr_X11_quiet_16 {s0 : xW} {q : Int × xW} {k : Int → Int → Int → xW → Option (Int × xW)} (hk : ∀ (x0_ : Int) (x1_ : Int) (x2_ : Int) (x3_ : xW), xfm (W_X11_quiet ) s0 x3_ → k x0_ x1_ x2_ x3_ = some q → xfm (W_X11_quiet ) s0 q.2) : ∀ (f : Nat) (l1_5 : Int) (l2_6 : Int) (l3_7 : Int) (s8 : xW), xfm (W_X11_quiet ) s0 s8 → F_X11_quiet_16  f l1_5 l2_6 l3_7 s8 k = some q → xfm (W_X11_quiet ) s0 q.2 := by
  intro f
  induction f with
  | zero => intro l1_5 l2_6 l3_7 s8 hf h; cases h
  | succ f ih =>
    intro l1_5 l2_6 l3_7 s8 hf h
    unfold F_X11_quiet_16 at h
    rcases xif_o h with h | h
    · skip
      obtain ⟨r11, s12, e_, h⟩ := xbd_e h
      replace hf := xfm_c hf (fr_X11_clashesOn e_) (fun q hq => List.mem_append_right _ (List.mem_append_right _ (List.mem_append_right _ (hq))))
      clear e_
      obtain ⟨v14, -, h⟩ := xlt_e h
      obtain ⟨v19, -, h⟩ := xlt_e h
      obtain ⟨r23, -, h⟩ := xbp_e h
      obtain ⟨s24, e_, h⟩ := xlt_e h
      replace hf := xfm_uA hf (List.mem_append_left _ (List.mem_of_getElem? (i := 2) rfl)) e_
      clear e_
      exact ih v19 (l2_6 + r23) (l3_7 + 1) s24 hf h
    · skip
      exact hk l1_5 l2_6 l3_7 s8 hf h
theorem fr_X11_quiet {s0 : xW} {q : Int × xW} (h : F_X11_quiet  s0 = some q) : xfm (W_X11_quiet ) s0 q.2 := by
  unfold F_X11_quiet at h
  have hf : xfm (W_X11_quiet ) s0 s0 := xfm_rf
  obtain ⟨s1, e_, h⟩ := xlt_e h
  replace hf := xfm_uO hf (List.mem_append_left _ (List.mem_of_getElem? (i := 0) rfl)) e_
  clear e_
  obtain ⟨s4, e_, h⟩ := xbp_e h
  replace hf := xfm_c hf (fr_X11_copies e_) (fun q hq => List.mem_append_right _ (List.mem_append_left _ hq))
  clear e_
  refine fr_X11_quiet_16 (fun l1_30 l2_31 l3_32 s33 hf h => ?_) xN _ _ _ _ hf h
  obtain ⟨j35, ej_, h⟩ := xjn_e h
  have hj35 : ∀ (s34 : xW), xfm (W_X11_quiet ) s0 s34 → j35 s34 = some q → xfm (W_X11_quiet ) s0 q.2 := by
    intro s34 hf h
    rw [ej_] at h
    cases h; exact hf
  clear ej_
  rcases xif_o h with h | h
  · skip
    obtain ⟨s39, e_, h⟩ := xlt_e h
    replace hf := xfm_uO hf (List.mem_append_left _ (List.mem_of_getElem? (i := 1) rfl)) e_
    clear e_
    obtain ⟨s42, e_, h⟩ := xbp_e h
    replace hf := xfm_c hf (fr_X11_enters e_) (fun q hq => List.mem_append_right _ (List.mem_append_right _ (List.mem_append_left _ hq)))
    clear e_
    exact hj35 s42 hf h
  · skip
    exact hj35 s33 hf h
def W_X11_readsAct : List (Int × Int) := [(137, -1), (121, 36), (138, -1), (139, -1), (140, -1)] ++ (W_X11_takesOf ++ (W_X11_digitIn ++ (W_X11_number)))
theorem fr_X11_readsAct {s0 : xW} {q : Int × xW} (h : F_X11_readsAct  s0 = some q) : xfm (W_X11_readsAct ) s0 q.2 := by
  unfold F_X11_readsAct at h
  have hf : xfm (W_X11_readsAct ) s0 s0 := xfm_rf
  obtain ⟨r2, s3, e_, h⟩ := xbd_e h
  replace hf := xfm_c hf (fr_X11_takesOf e_) (fun q hq => List.mem_append_right _ (List.mem_append_left _ hq))
  clear e_
  replace h := (xgd_e h).2
  obtain ⟨s5, e_, h⟩ := xlt_e h
  replace hf := xfm_uA hf (List.mem_append_left _ (List.mem_of_getElem? (i := 0) rfl)) e_
  clear e_
  obtain ⟨s7, e_, h⟩ := xlt_e h
  replace hf := xfm_uO hf (List.mem_append_left _ (List.mem_of_getElem? (i := 1) rfl)) e_
  clear e_
  replace h := (xgd_e h).2
  rcases xif_o h with h | h
  · skip
    cases h; exact hf
  · skip
    replace h := (xgd_e h).2
    obtain ⟨v13, -, h⟩ := xlt_e h
    obtain ⟨r17, -, h⟩ := xbp_e h
    obtain ⟨r19, s20, e_, h⟩ := xbd_e h
    replace hf := xfm_c hf (fr_X11_digitIn e_) (fun q hq => List.mem_append_right _ (List.mem_append_right _ (List.mem_append_left _ hq)))
    clear e_
    replace h := (xgd_e h).2
    obtain ⟨s22, e_, h⟩ := xlt_e h
    replace hf := xfm_uA hf (List.mem_append_left _ (List.mem_of_getElem? (i := 2) rfl)) e_
    clear e_
    replace h := (xgd_e h).2
    obtain ⟨j25, ej_, h⟩ := xjn_e h
    have hj25 : j25  = some q → xfm (W_X11_readsAct ) s0 q.2 := by
      intro  h
      rw [ej_] at h
      replace h := (xgd_e h).2
      obtain ⟨v30, -, h⟩ := xlt_e h
      replace h := (xgd_e h).2
      cases h; exact hf
    clear ej_
    rcases xif_o h with h | h
    · skip
      replace h := (xgd_e h).2
      rcases xif_o h with h | h
      · skip
        exact hj25  h
      · skip
        replace h := (xgd_e h).2
        obtain ⟨v39, -, h⟩ := xlt_e h
        obtain ⟨r43, -, h⟩ := xbp_e h
        obtain ⟨r45, s46, e_, h⟩ := xbd_e h
        replace hf := xfm_c hf (fr_X11_digitIn e_) (fun q hq => List.mem_append_right _ (List.mem_append_right _ (List.mem_append_left _ hq)))
        clear e_
        replace h := (xgd_e h).2
        obtain ⟨s48, e_, h⟩ := xlt_e h
        replace hf := xfm_uA hf (List.mem_append_left _ (List.mem_of_getElem? (i := 3) rfl)) e_
        clear e_
        replace h := (xgd_e h).2
        obtain ⟨j51, ej_, h⟩ := xjn_e h
        have hj51 : j51  = some q → xfm (W_X11_readsAct ) s0 q.2 := by
          intro  h
          rw [ej_] at h
          replace h := (xgd_e h).2
          obtain ⟨v56, -, h⟩ := xlt_e h
          replace h := (xgd_e h).2
          cases h; exact hf
        clear ej_
        rcases xif_o h with h | h
        · skip
          replace h := (xgd_e h).2
          rcases xif_o h with h | h
          · skip
            exact hj51  h
          · skip
            obtain ⟨r64, s65, e_, h⟩ := xbd_e h
            replace hf := xfm_c hf (fr_X11_number e_) (fun q hq => List.mem_append_right _ (List.mem_append_right _ (List.mem_append_right _ (hq))))
            clear e_
            replace h := (xgd_e h).2
            obtain ⟨s67, e_, h⟩ := xlt_e h
            replace hf := xfm_uA hf (List.mem_append_left _ (List.mem_of_getElem? (i := 4) rfl)) e_
            clear e_
            replace h := (xgd_e h).2
            obtain ⟨v71, -, h⟩ := xlt_e h
            replace h := (xgd_e h).2
            cases h; exact hf
        · skip
          exact hj51  h
    · skip
      exact hj25  h
def W_X11_rests : List (Int × Int) := [(121, 0), (121, 1)] ++ (W_X11_enters)
theorem fr_X11_rests_37 {s0 : xW} {l1_13 : Int} {l3_15 : Int} {q : Int × xW} {k : Int → Int → xW → Option (Int × xW)} (hk : ∀ (x0_ : Int) (x1_ : Int) (x2_ : xW), xfm (W_X11_rests ) s0 x2_ → k x0_ x1_ x2_ = some q → xfm (W_X11_rests ) s0 q.2) : ∀ (f : Nat) (l2_14 : Int) (l4_16 : Int) (s17 : xW), xfm (W_X11_rests ) s0 s17 → F_X11_rests_37 l1_13 l3_15 f l2_14 l4_16 s17 k = some q → xfm (W_X11_rests ) s0 q.2 := by
  intro f
  induction f with
  | zero => intro l2_14 l4_16 s17 hf h; cases h
  | succ f ih =>
    intro l2_14 l4_16 s17 hf h
    unfold F_X11_rests_37 at h
    rcases xif_o h with h | h
    · skip
      obtain ⟨r20, -, h⟩ := xbp_e h
      obtain ⟨j23, ej_, h⟩ := xjn_e h
      have hj23 : ∀ (l2_21 : Int) (s22 : xW), xfm (W_X11_rests ) s0 s22 → j23 l2_21 s22 = some q → xfm (W_X11_rests ) s0 q.2 := by
        intro l2_21 s22 hf h
        rw [ej_] at h
        exact ih l2_21 (l4_16 + 1) s22 hf h
      clear ej_
      rcases xif_o h with h | h
      · skip
        obtain ⟨r28, -, h⟩ := xbp_e h
        rcases xif_o h with h | h
        · skip
          obtain ⟨j31, ej_, h⟩ := xjn_e h
          have hj31 : ∀ (s30 : xW), xfm (W_X11_rests ) s0 s30 → j31 s30 = some q → xfm (W_X11_rests ) s0 q.2 := by
            intro s30 hf h
            rw [ej_] at h
            exact hj23 (l2_14 + 1) s30 hf h
          clear ej_
          rcases xif_o h with h | h
          · skip
            obtain ⟨s36, e_, h⟩ := xbp_e h
            replace hf := xfm_c hf (fr_X11_enters e_) (fun q hq => List.mem_append_right _ (hq))
            clear e_
            obtain ⟨s38, e_, h⟩ := xbp_e h
            replace hf := xfm_c hf (fr_X11_enters e_) (fun q hq => List.mem_append_right _ (hq))
            clear e_
            exact hj31 s38 hf h
          · skip
            exact hj31 s17 hf h
        · skip
          exact hj23 l2_14 s17 hf h
      · skip
        exact hj23 l2_14 s17 hf h
    · skip
      exact hk l2_14 l4_16 s17 hf h
theorem fr_X11_rests_28 {s0 : xW} {l1_8 : Int} {q : Int × xW} {k : Int → Int → xW → Option (Int × xW)} (hk : ∀ (x0_ : Int) (x1_ : Int) (x2_ : xW), xfm (W_X11_rests ) s0 x2_ → k x0_ x1_ x2_ = some q → xfm (W_X11_rests ) s0 q.2) : ∀ (f : Nat) (l2_9 : Int) (l3_10 : Int) (s11 : xW), xfm (W_X11_rests ) s0 s11 → F_X11_rests_28 l1_8 f l2_9 l3_10 s11 k = some q → xfm (W_X11_rests ) s0 q.2 := by
  intro f
  induction f with
  | zero => intro l2_9 l3_10 s11 hf h; cases h
  | succ f ih =>
    intro l2_9 l3_10 s11 hf h
    unfold F_X11_rests_28 at h
    rcases xif_o h with h | h
    · skip
      refine fr_X11_rests_37 (fun l2_42 l4_43 s44 hf h => ?_) xN _ _ _ hf h
      exact ih l2_42 (l3_10 + 1) s44 hf h
    · skip
      exact hk l2_9 l3_10 s11 hf h
theorem fr_X11_rests {a1 : Int} {s0 : xW} {q : Int × xW} (h : F_X11_rests a1 s0 = some q) : xfm (W_X11_rests ) s0 q.2 := by
  unfold F_X11_rests at h
  have hf : xfm (W_X11_rests ) s0 s0 := xfm_rf
  obtain ⟨s1, e_, h⟩ := xlt_e h
  replace hf := xfm_uO hf (List.mem_append_left _ (List.mem_of_getElem? (i := 0) rfl)) e_
  clear e_
  obtain ⟨r4, -, h⟩ := xbp_e h
  rcases xif_o h with h | h
  · skip
    cases h; exact hf
  · skip
    obtain ⟨s6, e_, h⟩ := xlt_e h
    replace hf := xfm_uO hf (List.mem_append_left _ (List.mem_of_getElem? (i := 1) rfl)) e_
    clear e_
    refine fr_X11_rests_28 (fun l2_48 l3_49 s50 hf h => ?_) xN _ _ _ hf h
    cases h; exact hf
def W_X11_row : List (Int × Int) := [(121, 0)]
theorem fr_X11_row {a1 : Int} {s0 : xW} {q : Int × xW} (h : F_X11_row a1 s0 = some q) : xfm (W_X11_row ) s0 q.2 := by
  unfold F_X11_row at h
  have hf : xfm (W_X11_row ) s0 s0 := xfm_rf
  obtain ⟨s1, e_, h⟩ := xlt_e h
  replace hf := xfm_uO hf (List.mem_of_getElem? (i := 0) rfl) e_
  clear e_
  obtain ⟨r4, -, h⟩ := xbp_e h
  rcases xif_o h with h | h
  · skip
    obtain ⟨s7, e_, h⟩ := xlt_e h
    replace hf := xfm_uO hf (List.mem_of_getElem? (i := 0) rfl) e_
    clear e_
    cases h; exact hf
  · skip
    replace h := (xgd_e h).2
    cases h; exact hf
def W_X11_sheet : List (Int × Int) := [(121, 0), (127, -1)]
theorem fr_X11_sheet_46 {s0 : xW} {l1_13 : Int} {l2_14 : Int} {l4_15 : Int} {q : Int × xW} {k : Int → Int → Int → xW → Option (Int × xW)} (hk : ∀ (x0_ : Int) (x1_ : Int) (x2_ : Int) (x3_ : xW), xfm (W_X11_sheet ) s0 x3_ → k x0_ x1_ x2_ x3_ = some q → xfm (W_X11_sheet ) s0 q.2) : ∀ (f : Nat) (l5_16 : Int) (l6_17 : Int) (l7_18 : Int) (s19 : xW), xfm (W_X11_sheet ) s0 s19 → F_X11_sheet_46 l1_13 l2_14 l4_15 f l5_16 l6_17 l7_18 s19 k = some q → xfm (W_X11_sheet ) s0 q.2 := by
  intro f
  induction f with
  | zero => intro l5_16 l6_17 l7_18 s19 hf h; cases h
  | succ f ih =>
    intro l5_16 l6_17 l7_18 s19 hf h
    unfold F_X11_sheet_46 at h
    rcases xif_o h with h | h
    · skip
      obtain ⟨v23, -, h⟩ := xlt_e h
      obtain ⟨j27, ej_, h⟩ := xjn_e h
      have hj27 : ∀ (t26 : Int), j27 t26 = some q → xfm (W_X11_sheet ) s0 q.2 := by
        intro t26 h
        rw [ej_] at h
        replace h := (xgd_e h).2
        obtain ⟨s31, e_, h⟩ := xlt_e h
        replace hf := xfm_uA hf (List.mem_of_getElem? (i := 1) rfl) e_
        clear e_
        replace h := (xgd_e h).2
        exact ih (l5_16 + (s31 127 (24 + l7_18))) (l6_17 + l4_15) (l7_18 + 1) s31 hf h
      clear ej_
      obtain ⟨j34, ej_, h⟩ := xjn_e h
      have hj34 : j34  = some q → xfm (W_X11_sheet ) s0 q.2 := by
        intro  h
        rw [ej_] at h
        exact hj27 1 h
      clear ej_
      rcases xif_o h with h | h
      · skip
        rcases xif_o h with h | h
        · skip
          exact hj34  h
        · skip
          exact hj27 (max 1 (xw (min 9 (xw v23)))) h
      · skip
        exact hj34  h
    · skip
      exact hk l5_16 l6_17 l7_18 s19 hf h
theorem fr_X11_sheet {a1 : Int} {a2 : Int} {a3 : Int} {a4 : Int} {s0 : xW} {q : Int × xW} (h : F_X11_sheet a1 a2 a3 a4 s0 = some q) : xfm (W_X11_sheet ) s0 q.2 := by
  unfold F_X11_sheet at h
  have hf : xfm (W_X11_sheet ) s0 s0 := xfm_rf
  obtain ⟨s1, e_, h⟩ := xlt_e h
  replace hf := xfm_uO hf (List.mem_of_getElem? (i := 0) rfl) e_
  clear e_
  obtain ⟨r4, -, h⟩ := xbp_e h
  obtain ⟨j5, ej_, h⟩ := xjn_e h
  have hj5 : j5  = some q → xfm (W_X11_sheet ) s0 q.2 := by
    intro  h
    rw [ej_] at h
    cases h; exact hf
  clear ej_
  rcases xif_o h with h | h
  · skip
    rcases xif_o h with h | h
    · skip
      exact hj5  h
    · skip
      obtain ⟨j10, ej_, h⟩ := xjn_e h
      have hj10 : j10  = some q → xfm (W_X11_sheet ) s0 q.2 := by
        intro  h
        rw [ej_] at h
        refine fr_X11_sheet_46 (fun l5_43 l6_44 l7_45 s46 hf h => ?_) xN _ _ _ _ hf h
        obtain ⟨v48, -, h⟩ := xlt_e h
        cases h; exact hf
      clear ej_
      rcases xif_o h with h | h
      · skip
        rcases xif_o h with h | h
        · skip
          cases h; exact hf
        · skip
          exact hj10  h
      · skip
        exact hj10  h
  · skip
    exact hj5  h
def W_X11_sign : List (Int × Int) := [(121, 0), (121, 15), (129, -1)]
theorem fr_X11_sign_18 {s0 : xW} {l1_4 : Int} {q : Int × xW} {k : Int → xW → Option (Int × xW)} (hk : ∀ (x0_ : Int) (x1_ : xW), xfm (W_X11_sign ) s0 x1_ → k x0_ x1_ = some q → xfm (W_X11_sign ) s0 q.2) : ∀ (f : Nat) (l2_5 : Int) (s6 : xW), xfm (W_X11_sign ) s0 s6 → F_X11_sign_18 l1_4 f l2_5 s6 k = some q → xfm (W_X11_sign ) s0 q.2 := by
  intro f
  induction f with
  | zero => intro l2_5 s6 hf h; cases h
  | succ f ih =>
    intro l2_5 s6 hf h
    unfold F_X11_sign_18 at h
    rcases xif_o h with h | h
    · skip
      replace h := (xgd_e h).2
      obtain ⟨s9, e_, h⟩ := xlt_e h
      replace hf := xfm_uA hf (List.mem_of_getElem? (i := 2) rfl) e_
      clear e_
      exact ih (l2_5 + 1) s9 hf h
    · skip
      exact hk l2_5 s6 hf h
theorem fr_X11_sign {a1 : Int} {s0 : xW} {q : Int × xW} (h : F_X11_sign a1 s0 = some q) : xfm (W_X11_sign ) s0 q.2 := by
  unfold F_X11_sign at h
  have hf : xfm (W_X11_sign ) s0 s0 := xfm_rf
  obtain ⟨s1, e_, h⟩ := xlt_e h
  replace hf := xfm_uO hf (List.mem_of_getElem? (i := 0) rfl) e_
  clear e_
  rcases xif_o h with h | h
  · skip
    cases h; exact hf
  · skip
    refine fr_X11_sign_18 (fun l2_13 s14 hf h => ?_) xN _ _ hf h
    obtain ⟨s15, e_, h⟩ := xlt_e h
    replace hf := xfm_uO hf (List.mem_of_getElem? (i := 1) rfl) e_
    clear e_
    cases h; exact hf
def W_X11_span : List (Int × Int) := [(121, 0), (121, 1)] ++ (W_X11_laysBusy ++ (W_X11_enters))
theorem fr_X11_span_32 {s0 : xW} {s10 : xW} (hf : xfm (W_X11_span ) s0 s10) {q : Int × xW} {k : Int → Int → Int → Int → Option (Int × xW)} (hk : ∀ (x0_ : Int) (x1_ : Int) (x2_ : Int) (x3_ : Int), k x0_ x1_ x2_ x3_ = some q → xfm (W_X11_span ) s0 q.2) : ∀ (f : Nat) (l1_6 : Int) (l2_7 : Int) (l3_8 : Int) (l4_9 : Int), F_X11_span_32 s10 f l1_6 l2_7 l3_8 l4_9 k = some q → xfm (W_X11_span ) s0 q.2 := by
  intro f
  induction f with
  | zero => intro l1_6 l2_7 l3_8 l4_9 h; cases h
  | succ f ih =>
    intro l1_6 l2_7 l3_8 l4_9 h
    unfold F_X11_span_32 at h
    rcases xif_o h with h | h
    · skip
      replace h := (xgd_e h).2
      obtain ⟨j16, ej_, h⟩ := xjn_e h
      have hj16 : ∀ (l1_13 : Int) (l2_14 : Int) (l3_15 : Int), j16 l1_13 l2_14 l3_15 = some q → xfm (W_X11_span ) s0 q.2 := by
        intro l1_13 l2_14 l3_15 h
        rw [ej_] at h
        exact ih l1_13 l2_14 l3_15 (l4_9 + 1) h
      clear ej_
      rcases xif_o h with h | h
      · skip
        exact hj16 (min (xw l1_6) (xw l4_9)) (l4_9 + 1) (l3_8 + 1) h
      · skip
        exact hj16 l1_6 l2_7 l3_8 h
    · skip
      exact hk l1_6 l2_7 l3_8 l4_9 h
theorem fr_X11_span {s0 : xW} {q : Int × xW} (h : F_X11_span  s0 = some q) : xfm (W_X11_span ) s0 q.2 := by
  unfold F_X11_span at h
  have hf : xfm (W_X11_span ) s0 s0 := xfm_rf
  obtain ⟨s1, e_, h⟩ := xlt_e h
  replace hf := xfm_uO hf (List.mem_append_left _ (List.mem_of_getElem? (i := 0) rfl)) e_
  clear e_
  rcases xif_o h with h | h
  · skip
    cases h; exact hf
  · skip
    obtain ⟨s5, e_, h⟩ := xbp_e h
    replace hf := xfm_c hf (fr_X11_laysBusy e_) (fun q hq => List.mem_append_right _ (List.mem_append_left _ hq))
    clear e_
    refine fr_X11_span_32 hf (fun l1_24 l2_25 l3_26 l4_27 h => ?_) xN _ _ _ _ h
    obtain ⟨s28, e_, h⟩ := xlt_e h
    replace hf := xfm_uO hf (List.mem_append_left _ (List.mem_of_getElem? (i := 1) rfl)) e_
    clear e_
    obtain ⟨s31, e_, h⟩ := xbp_e h
    replace hf := xfm_c hf (fr_X11_enters e_) (fun q hq => List.mem_append_right _ (List.mem_append_right _ (hq)))
    clear e_
    obtain ⟨s33, e_, h⟩ := xbp_e h
    replace hf := xfm_c hf (fr_X11_enters e_) (fun q hq => List.mem_append_right _ (List.mem_append_right _ (hq)))
    clear e_
    obtain ⟨s35, e_, h⟩ := xbp_e h
    replace hf := xfm_c hf (fr_X11_enters e_) (fun q hq => List.mem_append_right _ (List.mem_append_right _ (hq)))
    clear e_
    cases h; exact hf
def W_X11_takes : List (Int × Int) := [(121, 0)] ++ (W_X11_putsBy ++ (W_X11_takesSome ++ (W_X11_counted)))
theorem fr_X11_takes {a1 : Int} {a2 : Int} {s0 : xW} {q : Int × xW} (h : F_X11_takes a1 a2 s0 = some q) : xfm (W_X11_takes ) s0 q.2 := by
  unfold F_X11_takes at h
  have hf : xfm (W_X11_takes ) s0 s0 := xfm_rf
  obtain ⟨s1, e_, h⟩ := xlt_e h
  replace hf := xfm_uO hf (List.mem_append_left _ (List.mem_of_getElem? (i := 0) rfl)) e_
  clear e_
  obtain ⟨s4, e_, h⟩ := xbp_e h
  replace hf := xfm_c hf (fr_X11_putsBy e_) (fun q hq => List.mem_append_right _ (List.mem_append_left _ hq))
  clear e_
  obtain ⟨r6, s7, e_, h⟩ := xbd_e h
  replace hf := xfm_c hf (fr_X11_takesSome e_) (fun q hq => List.mem_append_right _ (List.mem_append_right _ (List.mem_append_left _ hq)))
  clear e_
  obtain ⟨r9, s10, e_, h⟩ := xbd_e h
  replace hf := xfm_c hf (fr_X11_counted e_) (fun q hq => List.mem_append_right _ (List.mem_append_right _ (List.mem_append_right _ (hq))))
  clear e_
  cases h; exact hf
def W_X11_together : List (Int × Int) := [(121, 0), (121, 1)] ++ (W_X11_enters ++ (W_X11_hears 127))
theorem fr_X11_together_25 {s0 : xW} {l2_9 : Int} {l3_10 : Int} {q : Int × xW} {k : Int → Int → Int → xW → Option (Int × xW)} (hk : ∀ (x0_ : Int) (x1_ : Int) (x2_ : Int) (x3_ : xW), xfm (W_X11_together ) s0 x3_ → k x0_ x1_ x2_ x3_ = some q → xfm (W_X11_together ) s0 q.2) : ∀ (f : Nat) (l1_8 : Int) (l4_11 : Int) (l5_12 : Int) (s13 : xW), xfm (W_X11_together ) s0 s13 → F_X11_together_25 l2_9 l3_10 f l1_8 l4_11 l5_12 s13 k = some q → xfm (W_X11_together ) s0 q.2 := by
  intro f
  induction f with
  | zero => intro l1_8 l4_11 l5_12 s13 hf h; cases h
  | succ f ih =>
    intro l1_8 l4_11 l5_12 s13 hf h
    unfold F_X11_together_25 at h
    rcases xif_o h with h | h
    · skip
      obtain ⟨j17, ej_, h⟩ := xjn_e h
      have hj17 : ∀ (t15 : Int) (s16 : xW), xfm (W_X11_together ) s0 s16 → j17 t15 s16 = some q → xfm (W_X11_together ) s0 q.2 := by
        intro t15 s16 hf h
        rw [ej_] at h
        obtain ⟨v21, -, h⟩ := xlt_e h
        obtain ⟨v27, -, h⟩ := xlt_e h
        exact ih (xor' l1_8 v21) v27 (l5_12 + 1) s16 hf h
      clear ej_
      obtain ⟨j31, ej_, h⟩ := xjn_e h
      have hj31 : ∀ (s30 : xW), xfm (W_X11_together ) s0 s30 → j31 s30 = some q → xfm (W_X11_together ) s0 q.2 := by
        intro s30 hf h
        rw [ej_] at h
        exact hj17 0 s30 hf h
      clear ej_
      rcases xif_o h with h | h
      · skip
        obtain ⟨r36, s37, e_, h⟩ := xbd_e h
        replace hf := xfm_c hf (fr_X11_hears e_) (fun q hq => List.mem_append_right _ (List.mem_append_right _ (hq)))
        clear e_
        obtain ⟨r39, s40, e_, h⟩ := xbd_e h
        replace hf := xfm_c hf (fr_X11_hears e_) (fun q hq => List.mem_append_right _ (List.mem_append_right _ (hq)))
        clear e_
        rcases xif_o h with h | h
        · skip
          exact hj17 1 s40 hf h
        · skip
          exact hj31 s40 hf h
      · skip
        exact hj31 s13 hf h
    · skip
      exact hk l1_8 l4_11 l5_12 s13 hf h
theorem fr_X11_together_11 {s0 : xW} {q : Int × xW} {k : Int → Int → Int → xW → Option (Int × xW)} (hk : ∀ (x0_ : Int) (x1_ : Int) (x2_ : Int) (x3_ : xW), xfm (W_X11_together ) s0 x3_ → k x0_ x1_ x2_ x3_ = some q → xfm (W_X11_together ) s0 q.2) : ∀ (f : Nat) (l1_3 : Int) (l2_4 : Int) (l3_5 : Int) (s6 : xW), xfm (W_X11_together ) s0 s6 → F_X11_together_11  f l1_3 l2_4 l3_5 s6 k = some q → xfm (W_X11_together ) s0 q.2 := by
  intro f
  induction f with
  | zero => intro l1_3 l2_4 l3_5 s6 hf h; cases h
  | succ f ih =>
    intro l1_3 l2_4 l3_5 s6 hf h
    unfold F_X11_together_11 at h
    rcases xif_o h with h | h
    · skip
      refine fr_X11_together_25 (fun l1_46 l4_47 l5_48 s49 hf h => ?_) xN _ _ _ _ hf h
      obtain ⟨r51, -, h⟩ := xbp_e h
      exact ih l1_46 (l2_4 + r51) (l3_5 + 1) s49 hf h
    · skip
      exact hk l1_3 l2_4 l3_5 s6 hf h
theorem fr_X11_together {s0 : xW} {q : Int × xW} (h : F_X11_together  s0 = some q) : xfm (W_X11_together ) s0 q.2 := by
  unfold F_X11_together at h
  have hf : xfm (W_X11_together ) s0 s0 := xfm_rf
  obtain ⟨s1, e_, h⟩ := xlt_e h
  replace hf := xfm_uO hf (List.mem_append_left _ (List.mem_of_getElem? (i := 0) rfl)) e_
  clear e_
  refine fr_X11_together_11 (fun l1_56 l2_57 l3_58 s59 hf h => ?_) xN _ _ _ _ hf h
  obtain ⟨s60, e_, h⟩ := xlt_e h
  replace hf := xfm_uO hf (List.mem_append_left _ (List.mem_of_getElem? (i := 1) rfl)) e_
  clear e_
  obtain ⟨s63, e_, h⟩ := xbp_e h
  replace hf := xfm_c hf (fr_X11_enters e_) (fun q hq => List.mem_append_right _ (List.mem_append_left _ hq))
  clear e_
  cases h; exact hf
def W_X11_undo : List (Int × Int) := [(121, 0), (121, 28), (127, -1)]
theorem fr_X11_undo_26 {s0 : xW} {q : Int × xW} {k : Int → xW → Option (Int × xW)} (hk : ∀ (x0_ : Int) (x1_ : xW), xfm (W_X11_undo ) s0 x1_ → k x0_ x1_ = some q → xfm (W_X11_undo ) s0 q.2) : ∀ (f : Nat) (l1_6 : Int) (s7 : xW), xfm (W_X11_undo ) s0 s7 → F_X11_undo_26  f l1_6 s7 k = some q → xfm (W_X11_undo ) s0 q.2 := by
  intro f
  induction f with
  | zero => intro l1_6 s7 hf h; cases h
  | succ f ih =>
    intro l1_6 s7 hf h
    unfold F_X11_undo_26 at h
    rcases xif_o h with h | h
    · skip
      replace h := (xgd_e h).2
      replace h := (xgd_e h).2
      obtain ⟨s11, e_, h⟩ := xlt_e h
      replace hf := xfm_uA hf (List.mem_of_getElem? (i := 2) rfl) e_
      clear e_
      exact ih (l1_6 + 1) s11 hf h
    · skip
      exact hk l1_6 s7 hf h
theorem fr_X11_undo {s0 : xW} {q : Int × xW} (h : F_X11_undo  s0 = some q) : xfm (W_X11_undo ) s0 q.2 := by
  unfold F_X11_undo at h
  have hf : xfm (W_X11_undo ) s0 s0 := xfm_rf
  obtain ⟨s1, e_, h⟩ := xlt_e h
  replace hf := xfm_uO hf (List.mem_of_getElem? (i := 0) rfl) e_
  clear e_
  rcases xif_o h with h | h
  · skip
    cases h; exact hf
  · skip
    obtain ⟨s4, e_, h⟩ := xlt_e h
    replace hf := xfm_uO hf (List.mem_of_getElem? (i := 1) rfl) e_
    clear e_
    refine fr_X11_undo_26 (fun l1_15 s16 hf h => ?_) xN _ _ hf h
    cases h; exact hf
def W_X11_week : List (Int × Int) := [(121, 0), (121, 36), (121, 1)] ++ (W_X11_begins ++ (W_X11_putsBy ++ (W_X11_enters ++ (W_X11_adds ++ (W_X11_readsAct ++ (W_X11_does))))))
theorem fr_X11_week_19 {s0 : xW} {l1_8 : Int} {q : Int × xW} {k : Int → xW → Option (Int × xW)} (hk : ∀ (x0_ : Int) (x1_ : xW), xfm (W_X11_week ) s0 x1_ → k x0_ x1_ = some q → xfm (W_X11_week ) s0 q.2) : ∀ (f : Nat) (l2_9 : Int) (s10 : xW), xfm (W_X11_week ) s0 s10 → F_X11_week_19 l1_8 f l2_9 s10 k = some q → xfm (W_X11_week ) s0 q.2 := by
  intro f
  induction f with
  | zero => intro l2_9 s10 hf h; cases h
  | succ f ih =>
    intro l2_9 s10 hf h
    unfold F_X11_week_19 at h
    rcases xif_o h with h | h
    · skip
      rcases xif_o h with h | h
      · skip
        obtain ⟨r14, s15, e_, h⟩ := xbd_e h
        replace hf := xfm_c hf (fr_X11_readsAct e_) (fun q hq => List.mem_append_right _ (List.mem_append_right _ (List.mem_append_right _ (List.mem_append_right _ (List.mem_append_right _ (List.mem_append_left _ hq))))))
        clear e_
        exact ih r14 s15 hf h
      · skip
        exact hk l2_9 s10 hf h
    · skip
      exact hk l2_9 s10 hf h
theorem fr_X11_week_64 {s0 : xW} {q : Int × xW} {k : Int → xW → Option (Int × xW)} (hk : ∀ (x0_ : Int) (x1_ : xW), xfm (W_X11_week ) s0 x1_ → k x0_ x1_ = some q → xfm (W_X11_week ) s0 q.2) : ∀ (f : Nat) (l4_25 : Int) (s26 : xW), xfm (W_X11_week ) s0 s26 → F_X11_week_64  f l4_25 s26 k = some q → xfm (W_X11_week ) s0 q.2 := by
  intro f
  induction f with
  | zero => intro l4_25 s26 hf h; cases h
  | succ f ih =>
    intro l4_25 s26 hf h
    unfold F_X11_week_64 at h
    rcases xif_o h with h | h
    · skip
      obtain ⟨r29, s30, e_, h⟩ := xbd_e h
      replace hf := xfm_c hf (fr_X11_does e_) (fun q hq => List.mem_append_right _ (List.mem_append_right _ (List.mem_append_right _ (List.mem_append_right _ (List.mem_append_right _ (List.mem_append_right _ (hq)))))))
      clear e_
      rcases xif_o h with h | h
      · skip
        exact ih (l4_25 + 1) s30 hf h
      · skip
        exact hk l4_25 s30 hf h
    · skip
      exact hk l4_25 s26 hf h
theorem fr_X11_week {s0 : xW} {q : Int × xW} (h : F_X11_week  s0 = some q) : xfm (W_X11_week ) s0 q.2 := by
  unfold F_X11_week at h
  have hf : xfm (W_X11_week ) s0 s0 := xfm_rf
  obtain ⟨s1, e_, h⟩ := xlt_e h
  replace hf := xfm_uO hf (List.mem_append_left _ (List.mem_of_getElem? (i := 0) rfl)) e_
  clear e_
  obtain ⟨r4, s5, e_, h⟩ := xbd_e h
  replace hf := xfm_c hf (fr_X11_begins e_) (fun q hq => List.mem_append_right _ (List.mem_append_left _ hq))
  clear e_
  obtain ⟨s6, e_, h⟩ := xlt_e h
  replace hf := xfm_uO hf (List.mem_append_left _ (List.mem_of_getElem? (i := 1) rfl)) e_
  clear e_
  refine fr_X11_week_19 (fun l2_18 s19 hf h => ?_) xN _ _ hf h
  obtain ⟨r21, -, h⟩ := xbp_e h
  rcases xif_o h with h | h
  · skip
    cases h; exact hf
  · skip
    obtain ⟨s24, e_, h⟩ := xbp_e h
    replace hf := xfm_c hf (fr_X11_putsBy e_) (fun q hq => List.mem_append_right _ (List.mem_append_right _ (List.mem_append_left _ hq)))
    clear e_
    refine fr_X11_week_64 (fun l4_34 s35 hf h => ?_) xN _ _ hf h
    obtain ⟨s36, e_, h⟩ := xlt_e h
    replace hf := xfm_uO hf (List.mem_append_left _ (List.mem_of_getElem? (i := 2) rfl)) e_
    clear e_
    obtain ⟨v39, -, h⟩ := xlt_e h
    obtain ⟨r43, -, h⟩ := xbp_e h
    obtain ⟨s45, e_, h⟩ := xbp_e h
    replace hf := xfm_c hf (fr_X11_enters e_) (fun q hq => List.mem_append_right _ (List.mem_append_right _ (List.mem_append_right _ (List.mem_append_left _ hq))))
    clear e_
    obtain ⟨s47, e_, h⟩ := xbp_e h
    replace hf := xfm_c hf (fr_X11_enters e_) (fun q hq => List.mem_append_right _ (List.mem_append_right _ (List.mem_append_right _ (List.mem_append_left _ hq))))
    clear e_
    obtain ⟨j50, ej_, h⟩ := xjn_e h
    have hj50 : ∀ (t48 : Int) (s49 : xW), xfm (W_X11_week ) s0 s49 → j50 t48 s49 = some q → xfm (W_X11_week ) s0 q.2 := by
      intro t48 s49 hf h
      rw [ej_] at h
      cases h; exact hf
    clear ej_
    rcases xif_o h with h | h
    · skip
      obtain ⟨r55, s56, e_, h⟩ := xbd_e h
      replace hf := xfm_c hf (fr_X11_adds e_) (fun q hq => List.mem_append_right _ (List.mem_append_right _ (List.mem_append_right _ (List.mem_append_right _ (List.mem_append_left _ hq)))))
      clear e_
      exact hj50 r55 s56 hf h
    · skip
      exact hj50 0 s47 hf h
def W_X11_winds : List (Int × Int) := [(121, 0), (121, 6), (123, -1)] ++ (W_X11_readsDigits)
theorem fr_X11_winds_23 {s0 : xW} {l1_9 : Int} {q : Int × xW} {k : Int → xW → Option (Int × xW)} (hk : ∀ (x0_ : Int) (x1_ : xW), xfm (W_X11_winds ) s0 x1_ → k x0_ x1_ = some q → xfm (W_X11_winds ) s0 q.2) : ∀ (f : Nat) (l2_10 : Int) (s11 : xW), xfm (W_X11_winds ) s0 s11 → F_X11_winds_23 l1_9 f l2_10 s11 k = some q → xfm (W_X11_winds ) s0 q.2 := by
  intro f
  induction f with
  | zero => intro l2_10 s11 hf h; cases h
  | succ f ih =>
    intro l2_10 s11 hf h
    unfold F_X11_winds_23 at h
    rcases xif_o h with h | h
    · skip
      replace h := (xgd_e h).2
      replace h := (xgd_e h).2
      obtain ⟨s15, e_, h⟩ := xlt_e h
      replace hf := xfm_uA hf (List.mem_append_left _ (List.mem_of_getElem? (i := 2) rfl)) e_
      clear e_
      exact ih (l2_10 + 1) s15 hf h
    · skip
      exact hk l2_10 s11 hf h
theorem fr_X11_winds {s0 : xW} {q : Int × xW} (h : F_X11_winds  s0 = some q) : xfm (W_X11_winds ) s0 q.2 := by
  unfold F_X11_winds at h
  have hf : xfm (W_X11_winds ) s0 s0 := xfm_rf
  obtain ⟨s1, e_, h⟩ := xlt_e h
  replace hf := xfm_uO hf (List.mem_append_left _ (List.mem_of_getElem? (i := 0) rfl)) e_
  clear e_
  obtain ⟨r4, s5, e_, h⟩ := xbd_e h
  replace hf := xfm_c hf (fr_X11_readsDigits e_) (fun q hq => List.mem_append_right _ (hq))
  clear e_
  rcases xif_o h with h | h
  · skip
    cases h; exact hf
  · skip
    obtain ⟨s7, e_, h⟩ := xlt_e h
    replace hf := xfm_uO hf (List.mem_append_left _ (List.mem_of_getElem? (i := 1) rfl)) e_
    clear e_
    refine fr_X11_winds_23 (fun l2_19 s20 hf h => ?_) xN _ _ hf h
    cases h; exact hf
def W_X11_years : List (Int × Int) := [(121, 0), (121, 48), (121, 1)] ++ (W_X11_copies ++ (W_X11_goesOn 128 ++ (W_X11_enters ++ (W_X11_draws ++ (W_X11_dayGoes 128 ++ (W_X11_haulsTo 128 ++ (W_X11_movesTo 128)))))))
theorem fr_X11_years_39 {s0 : xW} {l2_12 : Int} {q : Int × xW} {k : Int → xW → Option (Int × xW)} (hk : ∀ (x0_ : Int) (x1_ : xW), xfm (W_X11_years ) s0 x1_ → k x0_ x1_ = some q → xfm (W_X11_years ) s0 q.2) : ∀ (f : Nat) (l3_13 : Int) (s14 : xW), xfm (W_X11_years ) s0 s14 → F_X11_years_39 l2_12 f l3_13 s14 k = some q → xfm (W_X11_years ) s0 q.2 := by
  intro f
  induction f with
  | zero => intro l3_13 s14 hf h; cases h
  | succ f ih =>
    intro l3_13 s14 hf h
    unfold F_X11_years_39 at h
    rcases xif_o h with h | h
    · skip
      obtain ⟨r17, s18, e_, h⟩ := xbd_e h
      replace hf := xfm_c hf (fr_X11_draws e_) (fun q hq => List.mem_append_right _ (List.mem_append_right _ (List.mem_append_right _ (List.mem_append_right _ (List.mem_append_left _ hq)))))
      clear e_
      obtain ⟨j20, ej_, h⟩ := xjn_e h
      have hj20 : ∀ (s19 : xW), xfm (W_X11_years ) s0 s19 → j20 s19 = some q → xfm (W_X11_years ) s0 q.2 := by
        intro s19 hf h
        rw [ej_] at h
        exact ih (l3_13 + 1) s19 hf h
      clear ej_
      rcases xif_o h with h | h
      · skip
        obtain ⟨s52, e_, h⟩ := xbp_e h
        replace hf := xfm_c hf (fr_X11_dayGoes e_) (fun q hq => List.mem_append_right _ (List.mem_append_right _ (List.mem_append_right _ (List.mem_append_right _ (List.mem_append_right _ (List.mem_append_left _ hq))))))
        clear e_
        exact hj20 s52 hf h
      · skip
        obtain ⟨j24, ej_, h⟩ := xjn_e h
        have hj24 : j24  = some q → xfm (W_X11_years ) s0 q.2 := by
          intro  h
          rw [ej_] at h
          obtain ⟨j29, ej_, h⟩ := xjn_e h
          have hj29 : ∀ (t27 : Int) (s28 : xW), xfm (W_X11_years ) s0 s28 → j29 t27 s28 = some q → xfm (W_X11_years ) s0 q.2 := by
            intro t27 s28 hf h
            rw [ej_] at h
            obtain ⟨r33, s34, e_, h⟩ := xbd_e h
            replace hf := xfm_c hf (fr_X11_draws e_) (fun q hq => List.mem_append_right _ (List.mem_append_right _ (List.mem_append_right _ (List.mem_append_right _ (List.mem_append_left _ hq)))))
            clear e_
            obtain ⟨r36, s37, e_, h⟩ := xbd_e h
            replace hf := xfm_c hf (fr_X11_draws e_) (fun q hq => List.mem_append_right _ (List.mem_append_right _ (List.mem_append_right _ (List.mem_append_right _ (List.mem_append_left _ hq)))))
            clear e_
            rcases xif_o h with h | h
            · skip
              obtain ⟨r43, s44, e_, h⟩ := xbd_e h
              replace hf := xfm_c hf (fr_X11_haulsTo e_) (fun q hq => List.mem_append_right _ (List.mem_append_right _ (List.mem_append_right _ (List.mem_append_right _ (List.mem_append_right _ (List.mem_append_right _ (List.mem_append_left _ hq)))))))
              clear e_
              exact hj20 s44 hf h
            · skip
              obtain ⟨r40, s41, e_, h⟩ := xbd_e h
              replace hf := xfm_c hf (fr_X11_movesTo e_) (fun q hq => List.mem_append_right _ (List.mem_append_right _ (List.mem_append_right _ (List.mem_append_right _ (List.mem_append_right _ (List.mem_append_right _ (List.mem_append_right _ (hq))))))))
              clear e_
              exact hj20 s41 hf h
          clear ej_
          rcases xif_o h with h | h
          · skip
            exact hj29 0 s18 hf h
          · skip
            obtain ⟨r47, s48, e_, h⟩ := xbd_e h
            replace hf := xfm_c hf (fr_X11_draws e_) (fun q hq => List.mem_append_right _ (List.mem_append_right _ (List.mem_append_right _ (List.mem_append_right _ (List.mem_append_left _ hq)))))
            clear e_
            exact hj29 r47 s48 hf h
        clear ej_
        rcases xif_o h with h | h
        · skip
          rcases xif_o h with h | h
          · skip
            exact hj24  h
          · skip
            exact hj20 s18 hf h
        · skip
          exact hj24  h
    · skip
      exact hk l3_13 s14 hf h
theorem fr_X11_years {a1 : Int} {a2 : Int} {s0 : xW} {q : Int × xW} (h : F_X11_years a1 a2 s0 = some q) : xfm (W_X11_years ) s0 q.2 := by
  unfold F_X11_years at h
  have hf : xfm (W_X11_years ) s0 s0 := xfm_rf
  obtain ⟨s1, e_, h⟩ := xlt_e h
  replace hf := xfm_uO hf (List.mem_append_left _ (List.mem_of_getElem? (i := 0) rfl)) e_
  clear e_
  obtain ⟨r4, -, h⟩ := xbp_e h
  rcases xif_o h with h | h
  · skip
    cases h; exact hf
  · skip
    obtain ⟨s6, e_, h⟩ := xlt_e h
    replace hf := xfm_uO hf (List.mem_append_left _ (List.mem_of_getElem? (i := 1) rfl)) e_
    clear e_
    obtain ⟨s9, e_, h⟩ := xbp_e h
    replace hf := xfm_c hf (fr_X11_copies e_) (fun q hq => List.mem_append_right _ (List.mem_append_left _ hq))
    clear e_
    obtain ⟨s11, e_, h⟩ := xbp_e h
    replace hf := xfm_c hf (fr_X11_goesOn e_) (fun q hq => List.mem_append_right _ (List.mem_append_right _ (List.mem_append_left _ hq)))
    clear e_
    refine fr_X11_years_39 (fun l3_55 s56 hf h => ?_) xN _ _ hf h
    obtain ⟨s57, e_, h⟩ := xlt_e h
    replace hf := xfm_uO hf (List.mem_append_left _ (List.mem_of_getElem? (i := 2) rfl)) e_
    clear e_
    obtain ⟨s60, e_, h⟩ := xbp_e h
    replace hf := xfm_c hf (fr_X11_enters e_) (fun q hq => List.mem_append_right _ (List.mem_append_right _ (List.mem_append_right _ (List.mem_append_left _ hq))))
    clear e_
    obtain ⟨s62, e_, h⟩ := xbp_e h
    replace hf := xfm_c hf (fr_X11_enters e_) (fun q hq => List.mem_append_right _ (List.mem_append_right _ (List.mem_append_right _ (List.mem_append_left _ hq))))
    clear e_
    cases h; exact hf
