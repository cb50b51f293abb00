/-! rule: what the class does, sign by sign -/
def xbnd (t : Int) : Int := if t = 42 ∨ t = 47 then 3 else if t = 43 ∨ t = 45 then 2 else if t = 60 ∨ t = 61 ∨ t = 62 then 1 else if t = 126 then 4 else 0
theorem xbnd_r (t : Int) : 0 ≤ xbnd t ∧ xbnd t ≤ 4 := by
  unfold xbnd
  (repeat' split) <;> omega
theorem binding_c {a : Int} {s : xW} (ha : 0 ≤ a ∧ a ≤ 65535) : F_X7_binding a s = some (xbnd a) := by
  unfold F_X7_binding xbnd
  rw [xw_sm (x := a) (by omega) (by omega)]
  simp only [xjn]
  by_cases q1 : a = 42
  · rw [if_pos q1, if_pos (Or.inl q1)]
  by_cases q2 : a = 43
  · rw [if_neg q1, if_pos q2, if_neg (by omega), if_pos (Or.inl q2)]
  by_cases q3 : a = 45
  · rw [if_neg q1, if_neg q2, if_pos q3, if_neg (by omega), if_pos (Or.inr q3)]
  by_cases q4 : a = 47
  · rw [if_neg q1, if_neg q2, if_neg q3, if_pos q4, if_pos (Or.inr q4)]
  rw [if_neg q1, if_neg q2, if_neg q3, if_neg q4, if_neg (show ¬ (a = 42 ∨ a = 47) by omega), if_neg (show ¬ (a = 43 ∨ a = 45) by omega)]
  by_cases q5 : a = 60
  · rw [if_pos q5, if_pos (Or.inl q5)]
  by_cases q6 : a = 61
  · rw [if_neg q5, if_pos q6, if_pos (Or.inr (Or.inl q6))]
  by_cases q7 : a = 62
  · rw [if_neg q5, if_neg q6, if_pos q7, if_pos (Or.inr (Or.inr q7))]
  rw [if_neg q5, if_neg q6, if_neg q7, if_neg (show ¬ (a = 60 ∨ a = 61 ∨ a = 62) by omega)]
  by_cases q8 : a = 126
  · rw [if_pos q8, if_pos q8]
  · rw [if_neg q8, if_neg q8]
def xlet (ch : Int) : Int := if ch = 100 then 0 else if ch = 119 then 1 else if ch = 109 then 2 else if ch = 120 then 3 else if ch = 121 then 4 else if ch = 110 then 5 else if ch = 101 then 6 else -1
theorem xlet_c {a : Int} (ha : 0 ≤ a ∧ a ≤ 255) : xix ([100, 119, 109, 120, 121, 110, 101] : List Int) a = xlet a := by
  unfold xix xlet
  rw [xw_sm (x := a) (by omega) (by omega)]
  simp only [xixF]
  by_cases q1 : a = 100
  · rw [if_pos q1.symm, if_pos q1]
  by_cases q2 : a = 119
  · rw [if_neg (fun w => q1 w.symm), if_pos q2.symm, if_neg q1, if_pos q2]; rfl
  by_cases q3 : a = 109
  · rw [if_neg (fun w => q1 w.symm), if_neg (fun w => q2 w.symm), if_pos q3.symm, if_neg q1, if_neg q2, if_pos q3]; rfl
  by_cases q4 : a = 120
  · rw [if_neg (fun w => q1 w.symm), if_neg (fun w => q2 w.symm), if_neg (fun w => q3 w.symm), if_pos q4.symm, if_neg q1, if_neg q2, if_neg q3, if_pos q4]; rfl
  by_cases q5 : a = 121
  · rw [if_neg (fun w => q1 w.symm), if_neg (fun w => q2 w.symm), if_neg (fun w => q3 w.symm), if_neg (fun w => q4 w.symm), if_pos q5.symm, if_neg q1, if_neg q2, if_neg q3, if_neg q4, if_pos q5]; rfl
  by_cases q6 : a = 110
  · rw [if_neg (fun w => q1 w.symm), if_neg (fun w => q2 w.symm), if_neg (fun w => q3 w.symm), if_neg (fun w => q4 w.symm), if_neg (fun w => q5 w.symm), if_pos q6.symm, if_neg q1, if_neg q2, if_neg q3, if_neg q4, if_neg q5, if_pos q6]; rfl
  by_cases q7 : a = 101
  · rw [if_neg (fun w => q1 w.symm), if_neg (fun w => q2 w.symm), if_neg (fun w => q3 w.symm), if_neg (fun w => q4 w.symm), if_neg (fun w => q5 w.symm), if_neg (fun w => q6 w.symm), if_pos q7.symm, if_neg q1, if_neg q2, if_neg q3, if_neg q4, if_neg q5, if_neg q6, if_pos q7]; rfl
  rw [if_neg (fun w => q1 w.symm), if_neg (fun w => q2 w.symm), if_neg (fun w => q3 w.symm), if_neg (fun w => q4 w.symm), if_neg (fun w => q5 w.symm), if_neg (fun w => q6 w.symm), if_neg (fun w => q7 w.symm), if_neg q1, if_neg q2, if_neg q3, if_neg q4, if_neg q5, if_neg q6, if_neg q7]
theorem xlet_r (ch : Int) : -1 ≤ xlet ch ∧ xlet ch ≤ 6 := by
  unfold xlet
  (repeat' split) <;> omega
def xstl (L : Int) : List Int → List Int → List Int × List Int
  | o, [] => (o, [])
  | o, t :: st => if L ≤ xbnd t then xstl L (o ++ [2000 + t]) st else (o, t :: st)
theorem xstl_n (L : Int) (o : List Int) : xstl L o [] = (o, []) := rfl
theorem xstl_c (L : Int) (o : List Int) (t : Int) (st : List Int) : xstl L o (t :: st) = if L ≤ xbnd t then xstl L (o ++ [2000 + t]) st else (o, t :: st) := rfl
theorem xstl_l (L : Int) : ∀ (st o : List Int), (xstl L o st).1.length + (xstl L o st).2.length = o.length + st.length ∧ o.length ≤ (xstl L o st).1.length ∧ (∀ t ∈ (xstl L o st).2, t ∈ st)
  | [], o => ⟨rfl, Nat.le_refl _, fun _ h => h⟩
  | t :: st, o => by
    rw [xstl_c]
    by_cases z : L ≤ xbnd t
    · rw [if_pos z]
      have h := xstl_l L st (o ++ [2000 + t])
      rw [List.length_append] at h
      simp only [List.length_cons, List.length_nil] at h ⊢
      exact ⟨by omega, by omega, fun x hx => List.mem_cons_of_mem _ (h.2.2 x hx)⟩
    · rw [if_neg z]
      exact ⟨rfl, Nat.le_refl _, fun _ h => h⟩
theorem xstl_40 (L : Int) (hL : 1 ≤ L) : ∀ (st o : List Int), (xstl L o st).2.count 40 = st.count 40
  | [], o => rfl
  | t :: st, o => by
    rw [xstl_c]
    by_cases z : L ≤ xbnd t
    · rw [if_pos z, xstl_40 L hL st, List.count_cons]
      have : ¬ t = 40 := fun w => by
        rw [w] at z
        have : xbnd 40 = 0 := rfl
        omega
      simp [this]
    · rw [if_neg z]
/-- (steps, waiting, depth, digits, a thing is wanted) -/
abbrev XPS := List Int × List Int × Int × Int × Int
def xpst (S : XPS) (ch : Int) : Option XPS :=
  if S.2.2.2.2 ≠ 0 then
    if ch = 45 then some (S.1, 126 :: S.2.1, S.2.2.1, S.2.2.2.1, 1)
    else if ch = 40 then (if S.2.2.1 + 1 ≤ 4 then some (S.1, 40 :: S.2.1, S.2.2.1 + 1, S.2.2.2.1, 1) else none)
    else if 48 ≤ ch ∧ ch ≤ 57 then some (S.1 ++ [ch - 48], S.2.1, S.2.2.1, 1, 0)
    else if xlet ch < 0 then none else some (S.1 ++ [1000 + xlet ch], S.2.1, S.2.2.1, 3, 0)
  else
    if 48 ≤ ch ∧ ch ≤ 57 then (if S.2.2.2.1 < 3 then some (S.1.dropLast ++ [S.1.getLastD 0 * 10 + (ch - 48)], S.2.1, S.2.2.1, S.2.2.2.1 + 1, 0) else none)
    else if ch = 41 then (if S.2.2.1 ≠ 0 then some ((xstl 1 S.1 S.2.1).1, (xstl 1 S.1 S.2.1).2.tail, S.2.2.1 - 1, 3, 0) else none)
    else if xbnd ch = 0 ∨ ch = 126 then none
    else if xbnd ch = 1 ∧ xbnd ((xstl (max (xbnd ch) 2) S.1 S.2.1).2.headD 0) = 1 then none
    else some ((xstl (max (xbnd ch) 2) S.1 S.2.1).1, ch :: (xstl (max (xbnd ch) 2) S.1 S.2.1).2, S.2.2.1, S.2.2.2.1, 1)
/-- a row's beginning is this list -/
def Xmem (s : xW) (c : Int) (l : List Int) : Prop := ∀ i : Nat, i < l.length → l[i]? = some (s c i)
theorem Xmem_p {s : xW} {c x : Int} {l : List Int} (h : Xmem s c l) : Xmem (xu s c l.length x) c (l ++ [x]) := by
  intro i hi
  rw [List.length_append] at hi
  simp only [List.length_cons, List.length_nil] at hi
  by_cases z : i = l.length
  · rw [z, xu_same]
    simp
  · rw [List.getElem?_append_left (by omega), xu_slot _ _ _ (by omega)]
    exact h i (by omega)
theorem Xmem_i {s : xW} {c x : Int} {l : List Int} (h : Xmem s c (l ++ [x])) : Xmem s c l ∧ s c l.length = x := by
  constructor
  · intro i hi
    have := h i (by rw [List.length_append]; omega)
    rw [List.getElem?_append_left hi] at this
    exact this
  · have := h l.length (by rw [List.length_append]; simp)
    rw [show (l ++ [x])[l.length]? = some x by simp] at this
    exact (Option.some.inj this).symm
theorem Xmem_o {s s1 : xW} {c : Int} {l : List Int} (h : Xmem s c l) (e : ∀ i : Nat, i < l.length → s1 c i = s c i) : Xmem s1 c l := fun i hi => by rw [e i hi]; exact h i hi
def Xps (σ s : xW) (a : Int) (S : XPS) : Prop := (∀ c, c ≠ a → c ≠ a + 1 → c ≠ a + 3 → s c = σ c) ∧ s a 1 = S.1.length ∧ Xmem s (a + 1) S.1 ∧ s a 4 = S.2.1.length ∧ Xmem s (a + 3) S.2.1.reverse ∧ s a 5 = S.2.2.1 ∧ s a 6 = S.2.2.2.1 ∧ s a 7 = S.2.2.2.2
theorem step_c {σ s : xW} {a v : Int} {o st : List Int} {dep dig want : Int} (ha : a = 9 ∨ a = 13) (h : Xps σ s a (o, st, dep, dig, want)) (hl : o.length < 40) : ∃ s', F_X7_step a v s = some s' ∧ Xps σ s' a (o ++ [v], st, dep, dig, want) := by
  obtain ⟨h1, h2, h3, h4, h5, h6, h7, h8⟩ := h
  simp only at h2 h3 h4 h5 h6 h7 h8
  refine ⟨xu (xu s (a + 1) (s a 1) v) a 1 (s a 1 + 1), ?_, fun c c1 c2 c3 => by rw [xu_row _ _ _ c1, xu_row _ _ _ c2]; exact h1 c c1 c2 c3, ?_, ?_, ?_, ?_, ?_, ?_, ?_⟩
  · unfold F_X7_step
    rw [xgd_t (by rcases ha with w | w <;> rw [w] <;> decide), h2, xw_sm (x := (o.length : Int)) (by omega) (by omega)]
    simp only [xbp_s, xbd_s, xls, xli, xlt, xjn]
    rw [if_pos (by omega), xgd_t (by omega), xu_row s _ _ (show a ≠ a + 1 by omega), h2]
  · simp only
    rw [xu_same, h2, List.length_append]
    simp
  · simp only
    rw [h2]
    exact Xmem_o (Xmem_p h3) (fun i _ => by rw [xu_row _ _ _ (show a + 1 ≠ a by omega)])
  · simp only
    rw [xu_slot _ _ _ (show (4 : Int) ≠ 1 by decide), xu_row s _ _ (show a ≠ a + 1 by omega)]; exact h4
  · simp only
    exact Xmem_o h5 (fun i _ => by rw [xu_row _ _ _ (show a + 3 ≠ a by omega), xu_row _ _ _ (show a + 3 ≠ a + 1 by omega)])
  · simp only
    rw [xu_slot _ _ _ (show (5 : Int) ≠ 1 by decide), xu_row s _ _ (show a ≠ a + 1 by omega)]; exact h6
  · simp only
    rw [xu_slot _ _ _ (show (6 : Int) ≠ 1 by decide), xu_row s _ _ (show a ≠ a + 1 by omega)]; exact h7
  · simp only
    rw [xu_slot _ _ _ (show (7 : Int) ≠ 1 by decide), xu_row s _ _ (show a ≠ a + 1 by omega)]; exact h8
theorem await_c {σ s : xW} {a v : Int} {o st : List Int} {dep dig want : Int} (ha : a = 9 ∨ a = 13) (h : Xps σ s a (o, st, dep, dig, want)) (hl : st.length < 40) (hv : 0 ≤ v ∧ v ≤ 255) : ∃ s', F_X7_await a v s = some s' ∧ Xps σ s' a (o, v :: st, dep, dig, want) := by
  obtain ⟨h1, h2, h3, h4, h5, h6, h7, h8⟩ := h
  simp only at h2 h3 h4 h5 h6 h7 h8
  refine ⟨xu (xu s (a + 3) (s a 4) v) a 4 (s a 4 + 1), ?_, fun c c1 c2 c3 => by rw [xu_row _ _ _ c1, xu_row _ _ _ c3]; exact h1 c c1 c2 c3, ?_, ?_, ?_, ?_, ?_, ?_, ?_⟩
  · unfold F_X7_await
    rw [xgd_t (by rcases ha with w | w <;> rw [w] <;> decide), h4, xw_sm (x := (st.length : Int)) (by omega) (by omega)]
    simp only [xbp_s, xbd_s, xls, xli, xlt, xjn]
    rw [if_pos (by omega), xgd_t (by omega), xgd_t (by omega), xu_row s _ _ (show a ≠ a + 3 by omega), h4]
  · simp only
    rw [xu_slot _ _ _ (show (1 : Int) ≠ 4 by decide), xu_row s _ _ (show a ≠ a + 3 by omega)]; exact h2
  · simp only
    exact Xmem_o h3 (fun i _ => by rw [xu_row _ _ _ (show a + 1 ≠ a by omega), xu_row _ _ _ (show a + 1 ≠ a + 3 by omega)])
  · simp only
    rw [xu_same, h4, List.length_cons]
    omega
  · simp only
    rw [h4, List.reverse_cons, show (st.length : Int) = (st.reverse.length : Int) by rw [List.length_reverse]]
    exact Xmem_o (Xmem_p h5) (fun i _ => by rw [xu_row _ _ _ (show a + 3 ≠ a by omega)])
  · simp only
    rw [xu_slot _ _ _ (show (5 : Int) ≠ 4 by decide), xu_row s _ _ (show a ≠ a + 3 by omega)]; exact h6
  · simp only
    rw [xu_slot _ _ _ (show (6 : Int) ≠ 4 by decide), xu_row s _ _ (show a ≠ a + 3 by omega)]; exact h7
  · simp only
    rw [xu_slot _ _ _ (show (7 : Int) ≠ 4 by decide), xu_row s _ _ (show a ≠ a + 3 by omega)]; exact h8
theorem pop_c {σ s : xW} {a t : Int} {o st : List Int} {dep dig want : Int} (h : Xps σ s a (o, t :: st, dep, dig, want)) : Xps σ (xu s a 4 (s a 4 - 1)) a (o, st, dep, dig, want) ∧ s a 4 = st.length + 1 ∧ s (a + 3) (st.length : Int) = t := by
  obtain ⟨h1, h2, h3, h4, h5, h6, h7, h8⟩ := h
  simp only at h2 h3 h4 h5 h6 h7 h8
  rw [List.reverse_cons] at h5
  have q := Xmem_i h5
  rw [List.length_reverse] at q
  rw [List.length_cons] at h4
  refine ⟨⟨fun c c1 c2 c3 => by rw [xu_row _ _ _ c1]; exact h1 c c1 c2 c3, ?_, ?_, ?_, ?_, ?_, ?_, ?_⟩, by omega, q.2⟩
  · simp only
    rw [xu_slot _ _ _ (show (1 : Int) ≠ 4 by decide)]; exact h2
  · simp only
    exact Xmem_o h3 (fun i _ => by rw [xu_row _ _ _ (show a + 1 ≠ a by omega)])
  · simp only
    rw [xu_same, h4]
    omega
  · simp only
    exact Xmem_o q.1 (fun i _ => by rw [xu_row _ _ _ (show a + 3 ≠ a by omega)])
  · simp only
    rw [xu_slot _ _ _ (show (5 : Int) ≠ 4 by decide)]; exact h6
  · simp only
    rw [xu_slot _ _ _ (show (6 : Int) ≠ 4 by decide)]; exact h7
  · simp only
    rw [xu_slot _ _ _ (show (7 : Int) ≠ 4 by decide)]; exact h8
theorem set5_c {σ s : xW} {a v : Int} {o st : List Int} {dep dig want : Int} (h : Xps σ s a (o, st, dep, dig, want)) : Xps σ (xu s a 5 v) a (o, st, v, dig, want) ∧ Xps σ (xu s a 6 v) a (o, st, dep, v, want) ∧ Xps σ (xu s a 7 v) a (o, st, dep, dig, v) := by
  obtain ⟨h1, h2, h3, h4, h5, h6, h7, h8⟩ := h
  simp only at h2 h3 h4 h5 h6 h7 h8
  have e1 : ∀ k : Int, ∀ c, c ≠ a → c ≠ a + 1 → c ≠ a + 3 → xu s a k v c = σ c := fun k c c1 c2 c3 => by rw [xu_row _ _ _ c1]; exact h1 c c1 c2 c3
  have e2 : ∀ k : Int, Xmem (xu s a k v) (a + 1) o := fun k => Xmem_o h3 (fun i _ => by rw [xu_row _ _ _ (show a + 1 ≠ a by omega)])
  have e3 : ∀ k : Int, Xmem (xu s a k v) (a + 3) st.reverse := fun k => Xmem_o h5 (fun i _ => by rw [xu_row _ _ _ (show a + 3 ≠ a by omega)])
  refine ⟨⟨e1 5, ?_, e2 5, ?_, e3 5, xu_same _ _ _ _, ?_, ?_⟩, ⟨e1 6, ?_, e2 6, ?_, e3 6, ?_, xu_same _ _ _ _, ?_⟩, ⟨e1 7, ?_, e2 7, ?_, e3 7, ?_, ?_, xu_same _ _ _ _⟩⟩ <;> simp only <;> rw [xu_slot _ _ _ (by decide)] <;> assumption
theorem last_c {σ s : xW} {a : Int} {S : XPS} (ha : a = 9 ∨ a = 13) (h : Xps σ s a S) (hl : S.2.1.length ≤ 40) (hv : ∀ t ∈ S.2.1, 0 ≤ t ∧ t ≤ 255) : F_X7_lastWaiting a s = some (S.2.1.headD 0) := by
  obtain ⟨o, st, dep, dig, want⟩ := S
  simp only at hl hv ⊢
  have hR : a ∈ xRules := by rcases ha with w | w <;> rw [w] <;> decide
  cases st with
  | nil =>
    have h4 : s a 4 = 0 := h.2.2.2.1
    unfold F_X7_lastWaiting
    rw [xgd_t hR, h4]
    rfl
  | cons t st =>
    obtain ⟨_, p2, p3⟩ := pop_c h
    have ht := hv t List.mem_cons_self
    rw [List.length_cons] at hl
    unfold F_X7_lastWaiting
    rw [xgd_t hR, p2, xw_sm (x := (st.length : Int) + 1) (by omega) (by omega)]
    simp only [xjn]
    rw [if_pos (by omega), xgd_t (by omega), show (st.length : Int) + 1 - 1 = st.length by omega, p3, xgd_t (by omega)]
    rfl
theorem settle_l {σ : xW} {a L : Int} {dep dig want : Int} {K : Int → xW → Option xW} (ha : a = 9 ∨ a = 13) (hL : 1 ≤ L ∧ L ≤ 4) :
    ∀ (st o : List Int) (i fu : Nat) (s : xW), i + st.length < 40 → o.length + st.length ≤ 40 → st.length < fu → (∀ t ∈ st, 0 ≤ t ∧ t ≤ 255) → Xps σ s a (o, st, dep, dig, want) → ∃ s' v, F_X7_settle_2 a L fu (i : Int) s K = K v s' ∧ Xps σ s' a ((xstl L o st).1, (xstl L o st).2, dep, dig, want)
  | [], o, i, fu, s, hi, hl, hfu, hv, h => by
    obtain ⟨fu, rfl⟩ : ∃ g, fu = g + 1 := ⟨fu - 1, by omega⟩
    have h4 : s a 4 = 0 := h.2.2.2.1
    have hi' : i < 40 := by simp only [List.length_nil] at hi; omega
    refine ⟨s, (i : Int), ?_, h⟩
    rw [F_X7_settle_2, h4, xw_sm (x := (i : Int)) (by omega) (by omega), if_pos (by omega), if_neg (by decide)]
  | t :: st, o, i, fu, s, hi, hl, hfu, hv, h => by
    rw [List.length_cons] at hi hl hfu
    obtain ⟨fu, rfl⟩ : ∃ g, fu = g + 1 := ⟨fu - 1, by omega⟩
    have ht := hv t List.mem_cons_self
    have hbr := xbnd_r t
    have h4 : s a 4 = (st.length : Int) + 1 := (pop_c h).2.1
    have hlast := last_c ha h (by simp only [List.length_cons]; omega) hv
    rw [show (o, t :: st, dep, dig, want).2.1.headD 0 = t from rfl] at hlast
    rw [xstl_c]
    rw [F_X7_settle_2, h4, xw_sm (x := (i : Int)) (by omega) (by omega), xw_sm (x := (st.length : Int) + 1) (by omega) (by omega), if_pos (by omega), if_pos (by omega), hlast]
    simp only [xbp_n]
    rw [binding_c (by omega)]
    simp only [xbp_n]
    rw [xw_sm (x := L) (by omega) (by omega), xw_sm (x := xbnd t) (by omega) (by omega)]
    by_cases z : L ≤ xbnd t
    · rw [if_pos z, if_pos z]
      obtain ⟨s1, u1, u2⟩ := step_c (v := 2000 + t) ha h (by omega)
      rw [u1]
      simp only [xbp_s, xbd_s, xls, xli, xlt, xjn]
      obtain ⟨s', v, g1, g2⟩ := settle_l (K := K) ha hL st (o ++ [2000 + t]) (i + 1) fu (xu s1 a 4 (s1 a 4 - 1)) (by omega) (by rw [List.length_append]; simp only [List.length_cons, List.length_nil]; omega) (by omega) (fun x hx => hv x (List.mem_cons_of_mem _ hx)) (pop_c u2).1
      refine ⟨s', v, ?_, g2⟩
      rw [show ((i : Int) + 1) = ((i + 1 : Nat) : Int) by omega]
      exact g1
    · rw [if_neg z, if_neg z]
      exact ⟨s, (i : Int), rfl, h⟩
theorem settle_c {σ s : xW} {a L : Int} {o st : List Int} {dep dig want : Int} (ha : a = 9 ∨ a = 13) (hL : 1 ≤ L ∧ L ≤ 4) (hs : st.length < 40) (hl : o.length + st.length ≤ 40) (hv : ∀ t ∈ st, 0 ≤ t ∧ t ≤ 255) (h : Xps σ s a (o, st, dep, dig, want)) : ∃ s', F_X7_settle a L s = some s' ∧ Xps σ s' a ((xstl L o st).1, (xstl L o st).2, dep, dig, want) := by
  have hN := xN_ge
  obtain ⟨s', v, g1, g2⟩ := settle_l (K := fun (l2_21 : Int) (s22 : xW) => some s22) ha hL st o 0 xN s (by omega) hl (by omega) hv h
  refine ⟨s', ?_, g2⟩
  unfold F_X7_settle
  rw [xgd_t (by rcases ha with w | w <;> rw [w] <;> decide)]
  exact g1
