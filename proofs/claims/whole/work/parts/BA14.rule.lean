/-! THE RULE: what a code makes of its things -/
def xwk (c a b : Int) : Int := if c = 0 then (if xw a < xw b then 1 else 0) else if c = 1 then (if xw b < xw a then 1 else 0) else if c = 2 then (if xw a = xw b then 1 else 0) else if c = 3 then a + b else if c = 4 then a - b else if c = 5 then a * b else if xw b = 0 then 0 else Int.tdiv (xw a) (xw b)
def xst1 (c : Int) (th : Int → Int) (st : List Int) : List Int := if c < 1000 then c :: st else if c < 2000 then th (c - 1000) :: st else if c = 3000 then (match st with | x :: t => (-x) :: t | [] => []) else (match st with | b :: a :: t => xwk (c - 2000) a b :: t | st => st)
def xev (g th : Int → Int) : Nat → List Int
  | 0 => []
  | k + 1 => xst1 (g k) th (xev g th k)
def xon (a : Int → Int) : List Int → Prop
  | [] => True
  | x :: t => a t.length = x ∧ xon a t
theorem xon_up {a a' : Int → Int} : ∀ (st : List Int), xon a st → (∀ i : Int, 0 ≤ i → i < st.length → a' i = a i) → xon a' st
  | [], _, _ => trivial
  | x :: t, h, e => by
    refine ⟨?_, xon_up t h.2 (fun i h1 h2 => e i h1 (by simp only [List.length_cons]; omega))⟩
    rw [e _ (by omega) (by simp only [List.length_cons]; omega)]
    exact h.1
def xrow (s : xW) (c : Int) (a : Int → Int) : xW := fun c' => if c' = c then a else s c'
theorem xrow_u (s : xW) (c : Int) (a : Int → Int) (j v : Int) : xu (xrow s c a) c j v = xrow s c (fun i => if i = j then v else a i) := by
  funext c' k
  unfold xu xrow
  by_cases h : c' = c
  · subst h
    by_cases h2 : k = j <;> simp [h2]
  · simp [h]
theorem xrow_o {s : xW} {c c' : Int} {a : Int → Int} (h : c' ≠ c) : xrow s c a c' = s c' := by unfold xrow; rw [if_neg h]
theorem xrow_s {s : xW} {c : Int} {a : Int → Int} : xrow s c a c = a := by unfold xrow; rw [if_pos rfl]
theorem xrow_i (s : xW) (c : Int) : xrow s c (s c) = s := by funext c'; unfold xrow; split <;> simp_all
theorem xev_len {g th : Int → Int} {n : Int} (h : ∀ i : Nat, (i : Int) < n → ((0 ≤ g i ∧ g i < 1007) ∨ (2000 ≤ g i ∧ g i ≤ 2006 ∧ 2 ≤ xdp g i) ∨ (g i = 3000 ∧ 1 ≤ xdp g i))) : ∀ k : Nat, (k : Int) ≤ n → ((xev g th k).length : Int) = xdp g k ∧ xdp g k ≤ k
  | 0, _ => ⟨rfl, by simp [xdp]⟩
  | k + 1, hk => by
    obtain ⟨ih1, ih2⟩ := xev_len (th := th) h k (by omega)
    have h1 := h k (by omega)
    unfold xev xdp xst1
    generalize xev g th k = st at ih1
    rcases h1 with h1 | ⟨h1, h2, h3⟩ | ⟨h1, h2⟩
    · by_cases q : g k < 1000
      · rw [if_pos q, if_pos (by omega)]
        simp only [List.length_cons]
        omega
      · rw [if_neg q, if_pos (by omega), if_pos (by omega)]
        simp only [List.length_cons]
        omega
    · rw [if_neg (by omega), if_neg (by omega), if_neg (by omega), if_neg (by omega), if_neg (by omega)]
      rcases st with _ | ⟨b, _ | ⟨a, t⟩⟩
      · simp at ih1; omega
      · simp at ih1; omega
      · simp only [List.length_cons] at ih1 ⊢
        omega
    · rw [if_neg (by omega), if_neg (by omega), if_pos h1, if_neg (by omega), if_pos h1]
      rcases st with _ | ⟨b, t⟩
      · simp at ih1; omega
      · simp only [List.length_cons] at ih1 ⊢
        omega
theorem xw_sm {x : Int} (h : -1000000000 ≤ x) (h2 : x ≤ 1000000000) : xw x = x := xw_id (by omega)
theorem reckon_c {c a b : Int} {s : xW} (h : 0 ≤ c) (h2 : c ≤ 6) : F_X7_reckon (xsc (2000 + c) - 2000) a b s = some (xwk c a b) := by
  rcases (by omega : c = 0 ∨ c = 1 ∨ c = 2 ∨ c = 3 ∨ c = 4 ∨ c = 5 ∨ c = 6) with rfl | rfl | rfl | rfl | rfl | rfl | rfl <;> simp only [F_X7_reckon, xsc, xwk, xbd, xbp, xls, xli, xlt, xjn, xgd]
  all_goals simp (disch := omega) [xw_sm]
  all_goals split <;> rfl
theorem worked_m {c a b : Int} {s : xW} (h : 0 ≤ c) (h2 : c ≤ 6) : F_X11_worked c a b s = some (xwk c a b) := by
  rcases (by omega : c = 0 ∨ c = 1 ∨ c = 2 ∨ c = 3 ∨ c = 4 ∨ c = 5 ∨ c = 6) with rfl | rfl | rfl | rfl | rfl | rfl | rfl <;> simp only [F_X11_worked, F_X11_flag, xwk, xbd, xbp, xls, xli, xlt, xjn, xgd, xif01]
  all_goals simp (disch := omega) [xw_sm]
  all_goals split <;> simp_all
def xwf (n : Int) (g : Int → Int) : Prop := ∀ i : Nat, (i : Int) < n → ((0 ≤ g i ∧ g i < 1007) ∨ (2000 ≤ g i ∧ g i ≤ 2006 ∧ 2 ≤ xdp g i) ∨ (g i = 3000 ∧ 1 ≤ xdp g i))
theorem valueOf_c {g : Int} {s : xW} (h : 0 ≤ g ∧ g < 1007) : F_X7_valueOf g s = some (if g < 1000 then g else s 90 (g - 1000)) := by
  unfold F_X7_valueOf
  simp only [xjn]
  rw [xw_sm (x := g) (by omega) (by omega), xw_sm (x := g - 1000) (by omega) (by omega)]
  by_cases q : g < 1000
  · rw [if_pos q, if_pos q]
  · rw [if_neg q, if_neg q, if_pos (by omega), xgd_t (by omega)]
theorem delay_loop {r n : Int} {s0 : xW} {g : Int → Int} {k : Int → Int → xW → Option (Int × xW)} (hn : n ≤ 40) (hs1 : s0 r 1 = n) (hst : ∀ i, 0 ≤ i → i < n → s0 (r + 1) i = xsc (g i)) (hr : r = 9 ∨ r = 13) (hw : xwf n g) :
    ∀ (m i : Nat) (arr : Int → Int) (f : Nat), (i : Int) + m = n → m < f → xon arr (xev g (s0 90) i) → ∃ arr', xon arr' (xev g (s0 90) n.toNat) ∧ F_X7_delay_4 r f (xev g (s0 90) i).length i (xrow s0 (r + 2) arr) k = k (xev g (s0 90) n.toNat).length n (xrow s0 (r + 2) arr') := by
  intro m
  induction m with
  | zero =>
    intro i arr f hi hf ha
    have e : n.toNat = i := by omega
    obtain ⟨f, rfl⟩ : ∃ f', f = f' + 1 := ⟨f - 1, by omega⟩
    refine ⟨arr, by rw [e]; exact ha, ?_⟩
    unfold F_X7_delay_4
    rw [xrow_o (show r ≠ r + 2 by omega), hs1, xw_sm (by omega) (by omega), xw_sm (by omega) (by omega), if_neg (by omega), e, show n = (i : Int) by omega]
  | succ m ih =>
    intro i arr f hi hf ha
    obtain ⟨f, rfl⟩ : ∃ f', f = f' + 1 := ⟨f - 1, by omega⟩
    obtain ⟨hl1, hl2⟩ := xev_len (th := s0 90) hw i (by omega)
    have hc := hw i (by omega)
    have hs := hst i (by omega) (by omega)
    unfold F_X7_delay_4
    simp only [xbd, xbp, xls, xli, xlt, xjn]
    rw [xrow_o (show r ≠ r + 2 by omega), xrow_o (show r + 1 ≠ r + 2 by omega), xrow_s, hs1, xw_sm (by omega) (by omega), xw_sm (by omega) (by omega), if_pos (by omega), xgd_t (by omega), hs]
    have hgo : ∀ (arr2 : Int → Int) (l : Int), l = ((xev g (s0 90) (i + 1)).length : Int) → xon arr2 (xev g (s0 90) (i + 1)) → ∃ arr', xon arr' (xev g (s0 90) n.toNat) ∧ F_X7_delay_4 r f l ((i : Int) + 1) (xrow s0 (r + 2) arr2) k = k (xev g (s0 90) n.toNat).length n (xrow s0 (r + 2) arr') := fun arr2 l hl ha2 => by
      rw [hl, show ((i : Int) + 1) = ((i + 1 : Nat) : Int) by omega]
      exact ih (i + 1) arr2 f (by omega) (by omega) ha2
    simp only [xev] at hgo
    generalize hst : xev g (s0 90) i = st at *
    rcases hc with hc | ⟨c1, c2, c3⟩ | ⟨c1, c2⟩
    · rw [show xsc (g i) = g i by unfold xsc; rw [if_pos (by omega)], xw_sm (x := g i) (by omega) (by omega), if_pos (show g i < 2000 by omega), xw_sm (x := (st.length : Int)) (by omega) (by omega), if_pos (show (st.length : Int) < 40 by omega), valueOf_c hc]
      simp only []
      rw [xrow_o (show (90 : Int) ≠ r + 2 by omega), xgd_t (by omega), xrow_u]
      unfold xst1 at hgo
      by_cases q : g i < 1000
      · rw [if_pos q] at hgo
        rw [if_pos q]
        exact hgo _ _ (by simp) ⟨by simp, xon_up st ha (fun j j1 j2 => by simp; omega)⟩
      · rw [if_neg q, if_pos (by omega)] at hgo
        rw [if_neg q]
        exact hgo _ _ (by simp) ⟨by simp, xon_up st ha (fun j j1 j2 => by simp; omega)⟩
    · have hx : 2000 ≤ xsc (g i) ∧ xsc (g i) ≠ 2126 ∧ xsc (g i) ≤ 3000 := by unfold xsc; repeat' split <;> omega
      have hk := reckon_c (c := g i - 2000) (a := arr ((st.length : Int) - 2)) (b := arr ((st.length : Int) - 1)) (s := xrow s0 (r + 2) arr) (by omega) (by omega)
      rw [show 2000 + (g i - 2000) = g i by omega] at hk
      rw [xw_sm (by omega) (by omega), if_neg (by omega), if_neg (by omega), xw_sm (by omega) (by omega), if_pos (by omega), xgd_t (by omega), xgd_t (by omega)]
      rw [show (st.length : Int) + -1 - 1 = (st.length : Int) - 2 by omega, show (st.length : Int) + -1 = (st.length : Int) - 1 by omega, hk]
      simp only []
      rw [xgd_t (by omega), xrow_u]
      unfold xst1 at hgo
      rw [if_neg (by omega), if_neg (by omega), if_neg (by omega)] at hgo
      rcases st with _ | ⟨b, _ | ⟨a, t⟩⟩
      · simp at hl1; omega
      · simp at hl1; omega
      · simp only [List.length_cons] at *
        obtain ⟨a1, a2, a3⟩ := ha
        simp only [List.length_cons] at a1
        rw [show ((t.length + 1 + 1 : Nat) : Int) - 1 = ((t.length + 1 : Nat) : Int) by omega, show ((t.length + 1 + 1 : Nat) : Int) - 2 = (t.length : Int) by omega, a1, a2]
        exact hgo _ _ rfl ⟨by simp, xon_up t a3 (fun j j1 j2 => by simp; omega)⟩
    · rw [c1, show xsc 3000 = 2126 by decide, xw_sm (by omega) (by omega), if_neg (by omega), if_pos rfl, xw_sm (by omega) (by omega), if_pos (by omega), xgd_t (by omega), xgd_t (by omega), xrow_u]
      unfold xst1 at hgo
      rw [c1, if_neg (by omega), if_neg (by omega), if_pos rfl] at hgo
      rcases st with _ | ⟨b, t⟩
      · simp at hl1; omega
      · simp only [List.length_cons] at *
        obtain ⟨a1, a2⟩ := ha
        rw [show ((t.length + 1 : Nat) : Int) - 1 = (t.length : Int) by omega, a1]
        exact hgo _ _ rfl ⟨by simp, xon_up t a2 (fun j j1 j2 => by simp; omega)⟩
theorem ruled_loop {n : Int} {s0 : xW} {k : Int → Int → xW → Option (Int × xW)} (hn : n ≤ 40) (hs1 : s0 121 23 = n) (hw : xwf n (s0 131)) :
    ∀ (m i : Nat) (arr : Int → Int) (f : Nat), (i : Int) + m = n → m < f → xon arr (xev (s0 131) (s0 134) i) → ∃ arr', xon arr' (xev (s0 131) (s0 134) n.toNat) ∧ F_X11_ruled_4 f (xev (s0 131) (s0 134) i).length i (xrow s0 133 arr) k = k (xev (s0 131) (s0 134) n.toNat).length n (xrow s0 133 arr') := by
  intro m
  induction m with
  | zero =>
    intro i arr f hi hf ha
    have e : n.toNat = i := by omega
    obtain ⟨f, rfl⟩ : ∃ f', f = f' + 1 := ⟨f - 1, by omega⟩
    refine ⟨arr, by rw [e]; exact ha, ?_⟩
    unfold F_X11_ruled_4
    rw [xrow_o (show (121 : Int) ≠ 133 by decide), hs1, xw_sm (by omega) (by omega), xw_sm (by omega) (by omega), if_neg (by omega), e, show n = (i : Int) by omega]
  | succ m ih =>
    intro i arr f hi hf ha
    obtain ⟨f, rfl⟩ : ∃ f', f = f' + 1 := ⟨f - 1, by omega⟩
    obtain ⟨hl1, hl2⟩ := xev_len (th := s0 134) hw i (by omega)
    have hc := hw i (by omega)
    unfold F_X11_ruled_4
    simp only [xbd, xbp, xls, xli, xlt, xjn]
    rw [xrow_o (show (121 : Int) ≠ 133 by decide), xrow_o (show (131 : Int) ≠ 133 by decide), xrow_o (show (134 : Int) ≠ 133 by decide), xrow_s, hs1, xw_sm (by omega) (by omega), xw_sm (by omega) (by omega), if_pos (by omega), xgd_t (by omega)]
    have hgo : ∀ (arr2 : Int → Int) (l : Int), l = ((xev (s0 131) (s0 134) (i + 1)).length : Int) → xon arr2 (xev (s0 131) (s0 134) (i + 1)) → ∃ arr', xon arr' (xev (s0 131) (s0 134) n.toNat) ∧ F_X11_ruled_4 f l ((i : Int) + 1) (xrow s0 133 arr2) k = k (xev (s0 131) (s0 134) n.toNat).length n (xrow s0 133 arr') := fun arr2 l hl ha2 => by
      rw [hl, show ((i : Int) + 1) = ((i + 1 : Nat) : Int) by omega]
      exact ih (i + 1) arr2 f (by omega) (by omega) ha2
    simp only [xev] at hgo
    generalize hst : xev (s0 131) (s0 134) i = st at *
    generalize s0 131 i = c at *
    unfold xst1 at hgo
    rcases hc with hc | ⟨c1, c2, c3⟩ | ⟨c1, c2⟩
    · rw [xw_sm (by omega) (by omega), if_neg (by omega), if_neg (by omega)]
      by_cases q : c < 1000
      · rw [if_pos q] at hgo
        rw [if_neg (by omega), xgd_t (by omega), xrow_u]
        exact hgo _ _ (by simp) ⟨by simp, xon_up st ha (fun j j1 j2 => by simp; omega)⟩
      · rw [if_neg q, if_pos (by omega)] at hgo
        rw [if_pos (by omega), xgd_t (by omega), xgd_t (by omega), xrow_u]
        exact hgo _ _ (by simp) ⟨by simp, xon_up st ha (fun j j1 j2 => by simp; omega)⟩
    · have hk := worked_m (c := c - 2000) (a := arr ((st.length : Int) - 2)) (b := arr ((st.length : Int) - 1)) (s := xrow s0 133 arr) (by omega) (by omega)
      rw [xw_sm (by omega) (by omega), if_neg (by omega), if_pos (by omega), xgd_t (by omega), xgd_t (by omega)]
      rw [show (st.length : Int) + -1 - 1 = (st.length : Int) - 2 by omega, show (st.length : Int) + -1 = (st.length : Int) - 1 by omega, hk]
      simp only []
      rw [xgd_t (by omega), xrow_u]
      rw [if_neg (by omega), if_neg (by omega), if_neg (by omega)] at hgo
      rcases st with _ | ⟨b, _ | ⟨a, t⟩⟩
      · simp at hl1; omega
      · simp at hl1; omega
      · simp only [List.length_cons] at *
        obtain ⟨a1, a2, a3⟩ := ha
        simp only [List.length_cons] at a1
        rw [show ((t.length + 1 + 1 : Nat) : Int) - 1 = ((t.length + 1 : Nat) : Int) by omega, show ((t.length + 1 + 1 : Nat) : Int) - 2 = (t.length : Int) by omega, a1, a2]
        exact hgo _ _ rfl ⟨by simp, xon_up t a3 (fun j j1 j2 => by simp; omega)⟩
    · rw [c1, xw_sm (by omega) (by omega), if_pos rfl, xgd_t (by omega), xgd_t (by omega), xrow_u]
      rw [c1, if_neg (by omega), if_neg (by omega), if_pos rfl] at hgo
      rcases st with _ | ⟨b, t⟩
      · simp at hl1; omega
      · simp only [List.length_cons] at *
        obtain ⟨a1, a2⟩ := ha
        rw [show ((t.length + 1 : Nat) : Int) - 1 = (t.length : Int) by omega, a1]
        exact hgo _ _ rfl ⟨by simp, xon_up t a2 (fun j j1 j2 => by simp; omega)⟩
