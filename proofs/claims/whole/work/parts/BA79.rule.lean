/-! rule: the class reads; what the reference's reading is held against -/
def xrn (d0 : Int) (f : Int → Int) : Nat → Option XPS
  | 0 => some ([], [], 0, d0, 1)
  | i + 1 => match xrn d0 f i with
    | none => none
    | some S => xpst S (f i)
theorem xrn_s {d0 : Int} {f : Int → Int} {i : Nat} {S : XPS} (h : xrn d0 f i = some S) : xrn d0 f (i + 1) = xpst S (f i) := by
  show (match xrn d0 f i with | none => none | some S => xpst S (f i)) = _
  rw [h]
theorem xrn_n {d0 : Int} {f : Int → Int} {i : Nat} (h : xrn d0 f i = none) : ∀ j : Nat, xrn d0 f (i + j) = none
  | 0 => h
  | j + 1 => by
    show (match xrn d0 f (i + j) with | none => none | some S => xpst S (f ((i + j : Nat) : Int))) = _
    rw [xrn_n h j]
theorem xrn_u {d0 : Int} {f : Int → Int} {c d E : Nat} {a b : XPS} (h1 : xrn d0 f c = some a) (h2 : c = E ∨ xrn d0 f (c + 1) = none) (h3 : xrn d0 f d = some b) (h4 : d = E ∨ xrn d0 f (d + 1) = none) (hc : c ≤ E) (hd : d ≤ E) : c = d ∧ a = b := by
  have e : c = d := by
    by_cases z1 : c < d
    · rcases h2 with w | w
      · omega
      · have := xrn_n w (d - (c + 1))
        rw [show c + 1 + (d - (c + 1)) = d by omega, h3] at this
        exact nomatch this
    · by_cases z2 : d < c
      · rcases h4 with w | w
        · omega
        · have := xrn_n w (c - (d + 1))
          rw [show d + 1 + (c - (d + 1)) = c by omega, h1] at this
          exact nomatch this
      · omega
  rw [e, h3] at h1
  injection h1 with h1
  exact ⟨e, h1.symm⟩
theorem xrn_v {d0 : Int} {f : Int → Int} (hf : ∀ i : Int, 0 ≤ f i ∧ f i ≤ 255) : ∀ (i : Nat) (S : XPS), xrn d0 f i = some S → Xpv S i
  | 0, S, h => by
    have e : S = ([], [], 0, d0, 1) := (Option.some.inj h).symm
    rw [e]
    exact ⟨Nat.le_refl _, fun t ht => (nomatch ht), rfl, (by decide : (0 : Int) ≤ 4), Or.inr rfl, fun w => absurd (show (1 : Int) = 0 from w) (by decide)⟩
  | i + 1, S, h => by
    cases z : xrn d0 f i with
    | none =>
      have := xrn_n z 1
      rw [h] at this
      exact nomatch this
    | some S0 =>
      rw [xrn_s z] at h
      exact Xpv_s (hf i) (xrn_v hf i S0 z) h
theorem rule_35 {a : Int} {E : Nat} {σ : xW} {K : Int → xW → Option (Int × xW)} (ha : a = 9 ∨ a = 13) (ht : 0 ≤ σ 1 1 ∧ σ 1 1 ≤ 80) (hb : ∀ i : Int, 0 ≤ σ 2 i ∧ σ 2 i ≤ 255) (hE : (E : Int) = min (σ 1 1) 40) :
    ∀ (j i fu : Nat) (s : xW) (S : XPS), i + j = E → j < fu → xrn (σ a 6) (σ 2) i = some S → Xps σ s a S → ∃ (c : Nat) (S' : XPS) (s' : xW) (Sx : XPS), c ≤ E ∧ xrn (σ a 6) (σ 2) c = some S' ∧ (c = E ∨ xrn (σ a 6) (σ 2) (c + 1) = none) ∧ Xps σ s' a Sx ∧ (((c : Int) < σ 1 1 ∧ F_X7_read_35 a fu (i : Int) s K = some ((c : Int), s')) ∨ ((c : Int) = σ 1 1 ∧ F_X7_read_35 a fu (i : Int) s K = K (c : Int) s' ∧ Sx = S')) := by
  intro j
  induction j with
  | zero =>
    intro i fu s S hi hfu hd hc
    obtain ⟨fu, rfl⟩ : ∃ g, fu = g + 1 := ⟨fu - 1, by omega⟩
    have e1 : s 1 = σ 1 := hc.1 1 (by omega) (by omega) (by omega)
    refine ⟨i, S, s, S, by omega, hd, Or.inl (by omega), hc, ?_⟩
    rw [F_X7_read_35, e1, xw_sm (x := (i : Int)) (by omega) (by omega), xw_sm (x := σ 1 1) (by omega) (by omega)]
    by_cases z : (i : Int) < σ 1 1
    · refine Or.inl ⟨z, ?_⟩
      rw [if_pos z]
      simp only [xjn]
      rw [if_neg (fun w => w (by omega))]
    · exact Or.inr ⟨by omega, by rw [if_neg z], rfl⟩
  | succ j ih =>
    intro i fu s S hi hfu hd hc
    obtain ⟨fu, rfl⟩ : ∃ g, fu = g + 1 := ⟨fu - 1, by omega⟩
    have e1 : s 1 = σ 1 := hc.1 1 (by omega) (by omega) (by omega)
    have e2 : s 2 = σ 2 := hc.1 2 (by omega) (by omega) (by omega)
    have hat : F_X8_at (i : Int) s = some (σ 2 i) := by rw [at_c (by rw [e1]; exact ht) (by rw [e2]; exact hb) (by omega), if_pos (by rw [e1]; omega), e2]
    obtain ⟨r, s1, S1, u1, u2, u3⟩ := accepts_c (ch := σ 2 i) (i := i) ha (by omega) (hb i) (xrn_v hb i S hd) hc
    have e : F_X7_read_35 a (fu + 1) (i : Int) s K = if r = 0 then some ((i : Int), s1) else F_X7_read_35 a fu ((i : Int) + 1) s1 K := by
      rw [F_X7_read_35, e1, xw_sm (x := (i : Int)) (by omega) (by omega), xw_sm (x := σ 1 1) (by omega) (by omega), if_pos (by omega)]
      simp only [xjn]
      rw [if_pos (show (i : Int) ≠ 40 by omega), hat]
      simp only [xbp_n]
      rw [u1]
      simp only [xbd_n]
      rw [xw_sm (x := r) (by omega) (by omega)]
    rcases u3 with ⟨w1, w2⟩ | ⟨w1, w2⟩
    · rw [if_neg (by omega)] at e
      obtain ⟨c, S', s', Sx, v1, v2, v3, v4, v5⟩ := ih (i + 1) fu s1 S1 (by omega) (by omega) (by rw [xrn_s hd]; exact w2) u2
      refine ⟨c, S', s', Sx, v1, v2, v3, v4, ?_⟩
      rw [e, show ((i : Int) + 1) = ((i + 1 : Nat) : Int) by omega]
      exact v5
    · rw [if_pos w1] at e
      exact ⟨i, S, s1, S1, by omega, hd, Or.inr (by rw [xrn_s hd]; exact w2), u2, Or.inl ⟨by omega, e⟩⟩
theorem readRule_c {a : Int} {E : Nat} {σ : xW} (ha : a = 9 ∨ a = 13) (ht : 0 ≤ σ 1 1 ∧ σ 1 1 ≤ 80) (hz : ¬ σ 1 1 = 0) (hb : ∀ i : Int, 0 ≤ σ 2 i ∧ σ 2 i ≤ 255) (hE : (E : Int) = min (σ 1 1) 40) : ∃ (c : Nat) (S : XPS) (s' : xW) (Sx : XPS), c ≤ E ∧ xrn (σ a 6) (σ 2) c = some S ∧ (c = E ∨ xrn (σ a 6) (σ 2) (c + 1) = none) ∧ Xps σ s' a Sx ∧ F_X7_read a σ = some (if (c : Int) = σ 1 1 ∧ S.2.2.2.2 = 0 ∧ S.2.2.1 = 0 then -1 else (c : Int), s') ∧ ((c : Int) = σ 1 1 ∧ S.2.2.2.2 = 0 ∧ S.2.2.1 = 0 → Sx.1 = (xstl 1 S.1 S.2.1).1) := by
  have hN := xN_ge
  have hR : a ∈ xRules := by rcases ha with w | w <;> rw [w] <;> decide
  obtain ⟨s0, hs0⟩ : ∃ s0, s0 = xu (xu (xu (xu σ a 1 0) a 4 0) a 5 0) a 7 1 := ⟨_, rfl⟩
  have h0 : Xps σ s0 a ([], [], 0, σ a 6, 1) := by
    rw [hs0]
    refine ⟨fun c c1 _ _ => by rw [xu_row _ _ _ c1, xu_row _ _ _ c1, xu_row _ _ _ c1, xu_row _ _ _ c1], ?_, fun i hi => (nomatch hi), ?_, fun i hi => (nomatch hi), ?_, ?_, xu_same _ _ _ _⟩ <;> simp [xu]
  obtain ⟨c, S, s', Sx, g1, g2, g3, g4, g5⟩ := rule_35 (K := fun (l2_28 : Int) (s29 : xW) =>
    xjn (
      some ((s29 1 1), s29)
    ) fun j30 =>
    if (xw (s29 a 7)) = 0 then
      if 0 < (xw (s29 a 5)) then
        j30
      else
        xbp (F_X7_settle a 1 s29) fun s36 =>
        some (-1, s36)
    else
      j30) ha ht hb hE E 0 xN s0 ([], [], 0, σ a 6, 1) (by omega) (by omega) rfl h0
  have hF : F_X7_read a σ = F_X7_read_35 a xN ((0 : Nat) : Int) s0 (fun (l2_28 : Int) (s29 : xW) =>
    xjn (
      some ((s29 1 1), s29)
    ) fun j30 =>
    if (xw (s29 a 7)) = 0 then
      if 0 < (xw (s29 a 5)) then
        j30
      else
        xbp (F_X7_settle a 1 s29) fun s36 =>
        some (-1, s36)
    else
      j30) := by
    unfold F_X7_read
    rw [xgd_t hR, xw_sm (x := σ 1 1) (by omega) (by omega), if_neg hz]
    simp only [xls, xlt]
    rw [hs0]
    rfl
  have hv := xrn_v hb c S g2
  rcases g5 with ⟨w1, w2⟩ | ⟨w1, w2, w3⟩
  · refine ⟨c, S, s', Sx, g1, g2, g3, g4, ?_, fun w => by omega⟩
    rw [hF, w2, if_neg (fun w => by omega)]
  · subst w3
    obtain ⟨o, st, dep, dig, want⟩ := Sx
    obtain ⟨v1, v2, v3, v4, v5, v6⟩ := hv
    simp only at v1 v2 v3 v4 v5 v6
    have h1 : s' 1 = σ 1 := g4.1 1 (by omega) (by omega) (by omega)
    have h5 : s' a 5 = dep := g4.2.2.2.2.2.1
    have h7 : s' a 7 = want := g4.2.2.2.2.2.2.2
    by_cases z : (c : Int) = σ 1 1 ∧ want = 0 ∧ dep = 0
    · have hol := (v6 z.2.1).1
      have hol : 1 ≤ o.length := by
        cases o with
        | nil => exact absurd rfl hol
        | cons _ _ => rw [List.length_cons]; omega
      obtain ⟨s2, u1, u2⟩ := settle_c (L := 1) ha (by decide) (by omega) (by omega) (fun t ht => by have := v2 t ht; omega) g4
      refine ⟨c, (o, st, dep, dig, want), s2, _, g1, g2, g3, u2, ?_, fun _ => rfl⟩
      rw [if_pos z, hF, w2, h7, h5, z.2.1, z.2.2]
      simp only [xjn]
      rw [if_pos (show xw 0 = 0 by decide), if_neg (show ¬ 0 < xw 0 by decide), u1]
      rfl
    · refine ⟨c, (o, st, dep, dig, want), s', _, g1, g2, g3, g4, ?_, fun w => absurd w z⟩
      rw [if_neg z, hF, w2, h7, h5, h1, w1]
      simp only [xjn]
      rw [xw_sm (x := want) (by omega) (by omega), xw_sm (x := dep) (by omega) (by omega)]
      by_cases y : want = 0
      · rw [if_pos y, if_pos (by omega)]
      · rw [if_neg y]
/-! settling -/
theorem xstl_m {L M : Int} (h : L ≤ M) : ∀ (st o : List Int), xstl L (xstl M o st).1 (xstl M o st).2 = xstl L o st
  | [], o => rfl
  | t :: st, o => by
    rw [xstl_c M]
    by_cases z : M ≤ xbnd t
    · rw [if_pos z, xstl_m h st, xstl_c L, if_pos (by omega)]
    · rw [if_neg z]
theorem xstl_r {L : Int} (hL : L ≤ 4) (st : List Int) : ∀ (m : Nat) (o : List Int), xstl L o (List.replicate m 126 ++ st) = xstl L (o ++ List.replicate m 2126) st
  | 0, o => by simp
  | m + 1, o => by
    rw [List.replicate_succ, List.cons_append, xstl_c, if_pos (show L ≤ xbnd 126 from hL), xstl_r hL st m, List.replicate_succ, List.append_assoc]
    rfl
theorem xstl_h {L : Int} {o st : List Int} (h : xbnd (st.headD 0) < L) : xstl L o st = (o, st) := by
  cases st with
  | nil => rfl
  | cons t st =>
    have h' : xbnd t < L := h
    rw [xstl_c, if_neg (by omega)]
/-- a code leaves one value more -/
def xvd : List Int → Int → Option Int
  | [], d => some d
  | c :: K, d => if 0 ≤ c ∧ c < 1007 then xvd K (d + 1) else if (2000 ≤ c ∧ c ≤ 2006) ∧ 2 ≤ d then xvd K (d - 1) else if c = 3000 ∧ 1 ≤ d then xvd K d else none
theorem xvd_c (c : Int) (K : List Int) (d : Int) : xvd (c :: K) d = if 0 ≤ c ∧ c < 1007 then xvd K (d + 1) else if (2000 ≤ c ∧ c ≤ 2006) ∧ 2 ≤ d then xvd K (d - 1) else if c = 3000 ∧ 1 ≤ d then xvd K d else none := rfl
theorem xvd_a : ∀ (K J : List Int) (d e : Int), xvd K d = some e → xvd (K ++ J) d = xvd J e
  | [], J, d, e, h => by
    have : d = e := Option.some.inj h
    rw [this]
    rfl
  | c :: K, J, d, e, h => by
    rw [xvd_c] at h
    rw [List.cons_append, xvd_c]
    by_cases z1 : 0 ≤ c ∧ c < 1007
    · rw [if_pos z1] at h ⊢
      exact xvd_a K J _ e h
    · rw [if_neg z1] at h ⊢
      by_cases z2 : (2000 ≤ c ∧ c ≤ 2006) ∧ 2 ≤ d
      · rw [if_pos z2] at h ⊢
        exact xvd_a K J _ e h
      · rw [if_neg z2] at h ⊢
        by_cases z3 : c = 3000 ∧ 1 ≤ d
        · rw [if_pos z3] at h ⊢
          exact xvd_a K J _ e h
        · rw [if_neg z3] at h
          exact nomatch h
theorem xvd_rep : ∀ (m : Nat) (d : Int), 1 ≤ d → xvd (List.replicate m 3000) d = some d
  | 0, d, _ => rfl
  | m + 1, d, h => by
    rw [List.replicate_succ, xvd_c, if_neg (by decide), if_neg (by omega), if_pos ⟨rfl, h⟩]
    exact xvd_rep m d h
/-- nothing that begins at q goes on with an expression of this rank -/
def Xnx (f : Int → Int) (E q : Nat) (r : Int) (S : XPS) : Prop := (q : Int) < E → ¬ ((48 ≤ f q ∧ f q ≤ 57) ∧ S.2.2.2.1 < 3) ∧ ¬ (max (r + 1) 2 ≤ xbnd (f q) ∧ xbnd (f q) ≤ 3) ∧ (r = 0 → xbnd (f q) = 1 → xbnd ((xstl 2 S.1 S.2.1).2.headD 0) = 1)
theorem Xnx_0 {f : Int → Int} {E q : Nat} {S : XPS} (h : Xnx f E q 0 S) (hq : (q : Int) < E) (hw : S.2.2.2.2 = 0) (hp : f q ≠ 41 ∨ S.2.2.1 = 0) : xpst S (f q) = none := by
  obtain ⟨h1, h2, h3⟩ := h hq
  have hb := xbnd_r (f q)
  unfold xpst
  rw [if_neg (fun w => w hw)]
  by_cases z1 : 48 ≤ f q ∧ f q ≤ 57
  · rw [if_pos z1, if_neg (fun w => h1 ⟨z1, w⟩)]
  · rw [if_neg z1]
    by_cases z2 : f q = 41
    · rw [if_pos z2, if_neg (fun w => by omega)]
    · rw [if_neg z2]
      by_cases z3 : xbnd (f q) = 0 ∨ f q = 126
      · rw [if_pos z3]
      · rw [if_neg z3]
        have h4 : xbnd (f q) ≠ 4 := fun w => by
          unfold xbnd at w z3
          by_cases y1 : f q = 42 ∨ f q = 47
          · rw [if_pos y1] at w; omega
          · by_cases y2 : f q = 43 ∨ f q = 45
            · rw [if_neg y1, if_pos y2] at w; omega
            · by_cases y3 : f q = 60 ∨ f q = 61 ∨ f q = 62
              · rw [if_neg y1, if_neg y2, if_pos y3] at w; omega
              · by_cases y4 : f q = 126
                · omega
                · rw [if_neg y1, if_neg y2, if_neg y3, if_neg y4] at w; omega
        have h5 : xbnd (f q) = 1 := by omega
        rw [show max (xbnd (f q)) 2 = 2 by omega, if_pos ⟨h5, h3 rfl h5⟩]
