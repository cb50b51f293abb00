/-! rule -/
def W_rd : List (Int × Int) := [(121, 16), (121, 18), (121, 24), (132, -1)]
theorem fr_thg {rc : Int → xW → Option (Int × xW)} (hrc : ∀ r s q, rc r s = some q → xfm W_rd s q.2) {s0 : xW} {q : Int × xW} (h : F_X11_readsThing_b rc s0 = some q) : xfm W_rd s0 q.2 := by
  unfold F_X11_readsThing_b at h
  have hf : xfm W_rd s0 s0 := xfm_rf
  obtain ⟨r2, s3, e_, h⟩ := xbd_e h
  replace hf := xfm_c hf (fr_X11_takesSign e_) (by decide)
  rcases xif_o h with h | h
  · obtain ⟨r45, s46, e_, h⟩ := xbd_e h
    replace hf := xfm_c hf (hrc _ _ _ e_) (fun q hq => hq)
    obtain ⟨s48, e_, h⟩ := xbp_e h
    replace hf := xfm_c hf (fr_X11_codes e_) (by decide)
    replace h := (xgd_e h).2
    cases h
    exact hf
  · obtain ⟨r6, e_, h⟩ := xbp_e h
    rcases xif_o h with h | h
    · obtain ⟨r40, s41, e_, h⟩ := xbd_e h
      replace hf := xfm_c hf (fr_X11_number e_) (by decide)
      obtain ⟨s43, e_, h⟩ := xbp_e h
      replace hf := xfm_c hf (fr_X11_codes e_) (by decide)
      cases h
      exact hf
    · obtain ⟨r9, s10, e_, h⟩ := xbd_e h
      replace hf := xfm_c hf (fr_X11_takesOf e_) (by decide)
      rcases xif_o h with h | h
      · obtain ⟨s38, e_, h⟩ := xbp_e h
        replace hf := xfm_c hf (fr_X11_codes e_) (by decide)
        cases h
        exact hf
      · simp only [xjn] at h
        rcases xif_o h with h | h
        · obtain ⟨r18, s19, e_, h⟩ := xbd_e h
          replace hf := xfm_c hf (fr_X11_takesSign e_) (by decide)
          rcases xif_o h with h | h
          · cases h
            exact hf
          · obtain ⟨s21, e_, h⟩ := xlt_e h
            replace hf := xfm_uO hf (show ((121 : Int), (18 : Int)) ∈ W_rd by decide) e_
            obtain ⟨r24, s25, e_, h⟩ := xbd_e h
            replace hf := xfm_c hf (hrc _ _ _ e_) (fun q hq => hq)
            rcases xif_o h with h | h
            · obtain ⟨r32, s33, e_, h⟩ := xbd_e h
              replace hf := xfm_c hf (fr_X11_takesSign e_) (by decide)
              rcases xif_o h with h | h
              · cases h
                exact hf
              · obtain ⟨s35, e_, h⟩ := xlt_e h
                replace hf := xfm_uO hf (show ((121 : Int), (18 : Int)) ∈ W_rd by decide) e_
                cases h
                exact hf
            · cases h
              exact hf
        · cases h
          exact hf
theorem fr_rk24 {rc : Int → xW → Option (Int × xW)} (hrc : ∀ r s q, rc r s = some q → xfm W_rd s q.2) {s0 : xW} {a : Int} {q : Int × xW} {k : Int → xW → Option (Int × xW)} (hk : ∀ (x : Int) (y : xW), xfm W_rd s0 y → k x y = some q → xfm W_rd s0 q.2) : ∀ (f : Nat) (l : Int) (s : xW), xfm W_rd s0 s → F_X11_readsRank_24 rc a f l s k = some q → xfm W_rd s0 q.2 := by
  intro f
  induction f with
  | zero => intro l s hf h; cases h
  | succ f ih =>
    intro l s hf h
    unfold F_X11_readsRank_24 at h
    rcases xif_o h with h | h
    · simp only [xjn] at h
      have key : ∀ w : List Int, (xbd (F_X11_takesOf w s) fun r15 s16 =>
        if (xw r15) < 0 then
          some (1, s16)
        else
          xbd (rc (a + 1) s16) fun r19 s20 =>
          if (xw r19) = 0 then
            some (0, s20)
          else
            xli (if (xw a) = 0 then 0 else if (xw a) = 1 then 3 else 5) fun v24 =>
            xbp (F_X11_codes ((2000 + r15) + v24) s20) fun s28 =>
            xli (if 0 < (xw a) then 1 else 0) fun v30 =>
            F_X11_readsRank_24 rc a f v30 s28 k) = some q → xfm W_rd s0 q.2 := fun w h => by
        obtain ⟨r15, s16, e_, h⟩ := xbd_e h
        have hf := xfm_c hf (fr_X11_takesOf e_) (show ∀ q ∈ W_X11_takesOf, q ∈ W_rd by decide)
        rcases xif_o h with h | h
        · cases h
          exact hf
        · obtain ⟨r19, s20, e_, h⟩ := xbd_e h
          replace hf := xfm_c hf (hrc _ _ _ e_) (fun q hq => hq)
          rcases xif_o h with h | h
          · cases h
            exact hf
          · obtain ⟨v24, -, h⟩ := xlt_e h
            obtain ⟨s28, e_, h⟩ := xbp_e h
            replace hf := xfm_c hf (fr_X11_codes e_) (by decide)
            obtain ⟨v30, -, h⟩ := xlt_e h
            exact ih v30 s28 hf h
      rcases xif_o h with h | h
      · exact key _ h
      · rcases xif_o h with h | h
        · exact key _ h
        · exact key _ h
    · exact hk l s hf h
theorem fr_rk {rc : Int → xW → Option (Int × xW)} (hrc : ∀ r s q, rc r s = some q → xfm W_rd s q.2) {a : Int} {s0 : xW} {q : Int × xW} (h : F_X11_readsRank_b rc a s0 = some q) : xfm W_rd s0 q.2 := by
  unfold F_X11_readsRank_b at h
  have hf : xfm W_rd s0 s0 := xfm_rf
  rcases xif_o h with h | h
  · obtain ⟨r40, s41, e_, h⟩ := xbd_e h
    replace hf := xfm_c hf (hrc _ _ _ e_) (fun q hq => hq)
    replace h := (xgd_e h).2
    cases h
    exact hf
  · obtain ⟨r3, s4, e_, h⟩ := xbd_e h
    replace hf := xfm_c hf (hrc _ _ _ e_) (fun q hq => hq)
    rcases xif_o h with h | h
    · cases h
      exact hf
    · refine fr_rk24 hrc (fun l s hf h => ?_) xN _ _ hf h
      cases h
      exact hf
theorem fr_rd : ∀ (N : Nat) (r : Int) (s : xW) (q : Int × xW), F_rd N r s = some q → xfm W_rd s q.2
  | 0, r, s, q, h => nomatch h
  | N + 1, r, s, q, h => by
    rw [F_rd] at h
    rcases xif_o h with h | h
    · exact fr_thg (fr_rd N) h
    · exact fr_rk (fr_rd N) h
def W_rr : List (Int × Int) := [(121, 15), (121, 16), (121, 18), (121, 17), (121, 24), (132, -1)]
theorem fr_rr {s0 : xW} {q : Int × xW} (h : F_X11_readsRule s0 = some q) : xfm W_rr s0 q.2 := by
  unfold F_X11_readsRule F_X11_readsRank at h
  have hf : xfm W_rr s0 s0 := xfm_rf
  obtain ⟨r2, s3, e_, h⟩ := xbd_e h
  replace hf := xfm_c hf (fr_X11_begins e_) (by decide)
  obtain ⟨s4, e_, h⟩ := xlt_e h
  replace hf := xfm_uO hf (show ((121 : Int), (24 : Int)) ∈ W_rr by decide) e_
  simp only [xjn] at h
  rcases xif_o h with h | h
  · obtain ⟨r19, s20, e_, h⟩ := xbd_e h
    replace hf := xfm_c hf (fr_rd _ _ _ _ e_) (by decide)
    rcases xif_o h with h | h
    · obtain ⟨r12, -, h⟩ := xbp_e h
      cases h
      exact hf
    · obtain ⟨r12, -, h⟩ := xbp_e h
      cases h
      exact hf
  · obtain ⟨r12, -, h⟩ := xbp_e h
    cases h
    exact hf
theorem xcode_l {g : Int → Int} : ∀ (K : List Int) (j : Nat) (d e : Int), xvd K d = some e → (∀ i : Nat, i < K.length → K[i]? = some (g ((j + i : Nat) : Int))) → xdp g j = d → (∀ i : Nat, j ≤ i → i < j + K.length → ((0 ≤ g i ∧ g i < 1007) ∨ (2000 ≤ g i ∧ g i ≤ 2006 ∧ 2 ≤ xdp g i) ∨ (g i = 3000 ∧ 1 ≤ xdp g i))) ∧ xdp g (j + K.length) = e
  | [], j, d, e, h, _, hd => by
    have : d = e := Option.some.inj h
    exact ⟨fun i h1 h2 => by simp only [List.length_nil] at h2; omega, by rw [← this]; exact hd⟩
  | c :: K, j, d, e, h, hm, hd => by
    have hc : c = g (j : Int) := Option.some.inj (hm 0 (by rw [List.length_cons]; omega))
    have hs : xdp g (j + 1) = xdp g j + (if g j < 2000 then 1 else if g j = 3000 then 0 else -1) := rfl
    have hm' : ∀ i : Nat, i < K.length → K[i]? = some (g ((j + 1 + i : Nat) : Int)) := fun i hi => by
      have := hm (i + 1) (by rw [List.length_cons]; omega)
      rw [show j + (i + 1) = j + 1 + i by omega] at this
      exact this
    rw [xvd_c] at h
    rw [List.length_cons, show j + (K.length + 1) = j + 1 + K.length by omega]
    have go : ∀ d' : Int, xvd K d' = some e → xdp g (j + 1) = d' → ((0 ≤ g j ∧ g j < 1007) ∨ (2000 ≤ g j ∧ g j ≤ 2006 ∧ 2 ≤ xdp g j) ∨ (g j = 3000 ∧ 1 ≤ xdp g j)) → (∀ i : Nat, j ≤ i → i < j + 1 + K.length → ((0 ≤ g i ∧ g i < 1007) ∨ (2000 ≤ g i ∧ g i ≤ 2006 ∧ 2 ≤ xdp g i) ∨ (g i = 3000 ∧ 1 ≤ xdp g i))) ∧ xdp g (j + 1 + K.length) = e := fun d' h' e' hj => by
      obtain ⟨g1, g2⟩ := xcode_l K (j + 1) d' e h' hm' e'
      refine ⟨fun i h1 h2 => ?_, g2⟩
      by_cases w : i = j
      · rw [w]; exact hj
      · exact g1 i (by omega) h2
    by_cases z1 : 0 ≤ c ∧ c < 1007
    · rw [if_pos z1] at h
      exact go (d + 1) h (by rw [hs, hd, if_pos (by omega)]) (Or.inl (by omega))
    · rw [if_neg z1] at h
      by_cases z2 : (2000 ≤ c ∧ c ≤ 2006) ∧ 2 ≤ d
      · rw [if_pos z2] at h
        exact go (d - 1) h (by rw [hs, hd, if_neg (by omega), if_neg (by omega)]; omega) (Or.inr (Or.inl (by omega)))
      · rw [if_neg z2] at h
        by_cases z3 : c = 3000 ∧ 1 ≤ d
        · rw [if_pos z3] at h
          exact go d h (by rw [hs, hd, if_neg (by omega), if_pos (by omega)]; omega) (Or.inr (Or.inr (by omega)))
        · rw [if_neg z3] at h
          exact nomatch h
theorem xdp_c {g g' : Int → Int} : ∀ n : Nat, (∀ i : Int, 0 ≤ i → i < n → g' i = g i) → xdp g' n = xdp g n
  | 0, _ => rfl
  | n + 1, h => by
    show xdp g' n + _ = xdp g n + _
    rw [xdp_c n (fun i a b => h i a (by omega)), h n (by omega) (by omega)]
theorem XRC_c {n m : Int} {f g g' : Int → Int} (h : XRC n f m g) (e : ∀ i : Int, 0 ≤ i → i < m → g' i = g i) : XRC n f m g' := by
  rcases h with h | ⟨h1, h2, h3, h4, h5⟩
  · exact Or.inl h
  · refine Or.inr ⟨h1, h2, h3, ⟨fun i hi => ?_, ?_⟩, fun i i1 i2 => by rw [e i i1 i2]; exact h5 i i1 i2⟩
    · rw [e i (by omega) hi, xdp_c i (fun j a b => e j a (by omega))]
      exact h4.1 i hi
    · rw [xdp_c m.toNat (fun j a b => e j a (by omega))]
      exact h4.2
/-- both have read the text as a rule: the class into the rule that it doesn't use -/
theorem rule_d {B : Int} {σ τ : xW} (hR : XR B σ τ) : ∃ (c : Int) (s4 t5 : xW), (∀ x, x ≠ σ 0 5 → x ≠ σ 0 5 + 1 → x ≠ σ 0 5 + 3 → s4 x = σ x) ∧ t5 121 15 = 0 ∧ xfm W_rr (xu τ 121 0 0) t5 ∧ ((F_X7_read (σ 0 5) σ = some (c, s4) ∧ F_X11_readsRule (xu τ 121 0 0) = some (-1 - c, t5) ∧ 0 ≤ c ∧ c ≤ 80) ∨ (F_X7_read (σ 0 5) σ = some (-1, s4) ∧ F_X11_readsRule (xu τ 121 0 0) = some (0, t5) ∧ (0 ≤ t5 121 24 ∧ t5 121 24 ≤ 40) ∧ XRC (s4 (σ 0 5) 1) (s4 (σ 0 5 + 1)) (t5 121 24) (t5 132))) := by
  have hN := xN_ge
  obtain ⟨t1, t2, t3, t4⟩ := id hR.1
  have hru := hR.2.2.2.1.1
  have ha : σ 0 5 = 9 ∨ σ 0 5 = 13 := by omega
  obtain ⟨a, had⟩ : ∃ a, a = σ 0 5 := ⟨_, rfl⟩
  rw [← had] at ha ⊢
  have hRu : a ∈ xRules := by rcases ha with w | w <;> rw [w] <;> decide
  obtain ⟨E, hE⟩ : ∃ E : Nat, (E : Int) = min (σ 1 1) 40 := ⟨(min (σ 1 1) 40).toNat, by omega⟩
  obtain ⟨b1, b2⟩ := begin_at (t := xu τ 121 0 0) (f := σ 2) (lim := 40) t1 (by decide) (by rw [xu_slot _ _ _ (show (15 : Int) ≠ 0 by decide)]; exact t3) (fun x x1 x2 => ⟨by rw [xu_row _ _ _ (show (129 : Int) ≠ 121 by decide)]; exact t4 x x1 x2, t2 x⟩)
  obtain ⟨s0, hs0⟩ : ∃ s0, s0 = xu (xu (xu (xu (xu (xu τ 121 0 0) 121 15 0) 121 16 0) 121 18 0) 121 17 (min (σ 1 1) 40)) 121 24 0 := ⟨_, rfl⟩
  rw [← hE] at b2
  have h0 : Xrs s0 (σ 2) 0 E 0 [] := by
    refine ⟨Xat_o b2 (by rw [hs0, hE, xu_slot _ _ _ (show (16 : Int) ≠ 24 by decide)]) (by rw [hs0, hE, xu_slot _ _ _ (show (17 : Int) ≠ 24 by decide)]) (by rw [hs0, hE, xu_row _ _ _ (show (129 : Int) ≠ 121 by decide)]), ?_, ?_, ?_, fun i hi => (nomatch hi)⟩ <;> rw [hs0] <;> simp [xu]
  by_cases z : σ 1 1 = 0
  · have eC : F_X7_read a σ = some (-1, xu (xfirst σ (a + 1)) a 1 7) := by
      unfold F_X7_read F_X7_takeFirst
      rw [xgd_t hRu, z, if_pos (by decide), xgd_t hRu]
      rfl
    have eM : F_X11_readsRule (xu τ 121 0 0) = some (0, s0) := by
      unfold F_X11_readsRule
      rw [b1]
      simp only [xbp_s, xbd_s, xls, xli, xlt, xjn]
      rw [← hs0, z, if_neg (show ¬ xw 0 ≠ 0 by decide), fault_m (n := 0) (lim := 40) (ok := 1) h0.1 (by decide) (by decide) (by omega) (Or.inr rfl)]
      rfl
    refine ⟨0, xu (xfirst σ (a + 1)) a 1 7, s0, fun x x1 x2 x3 => ?_, h0.2.1, fr_rr eM, Or.inr ⟨eC, eM, ?_, ?_⟩⟩
    · rw [xu_row _ _ _ x1]
      funext y
      unfold xfirst
      rw [if_neg (fun w => x2 w.1)]
    · have : s0 121 24 = 0 := h0.2.2.2.1
      omega
    · refine Or.inl ⟨h0.2.2.2.1, xu_same _ _ _ _, fun i i1 i2 => ?_⟩
      rw [xu_row _ _ _ (show a + 1 ≠ a by omega)]
      unfold xfirst
      rw [if_pos ⟨rfl, i1, i2⟩]
      rfl
  · obtain ⟨c, S, s4, Sx, g1, g2, g3, g4, g5, g6⟩ := readRule_c ha t1 z t2 hE
    obtain ⟨v, t5, q, u1, u2, u3, u4⟩ := (rd_all (d0 := σ a 6) (f := σ 2) (E := E) t2 (by omega) 300).2 0 0 s0 [] 0 (σ a 6) [] (by decide) (by omega) h0 rfl (by decide) (by omega)
    have u1' : F_X11_readsRank 0 s0 = some (v, t5) := u1
    have hat : Xat t5 (σ 2) (q : Int) (E : Int) ∧ t5 121 15 = 0 ∧ (v = 0 ∨ v = 1) := by
      rcases u4 with ⟨w1, S', c1, c2, c3, c4, _⟩ | ⟨w1, K, o', st', dig', d1, d2, d3, _⟩
      · exact ⟨c3, c4, Or.inl w1⟩
      · exact ⟨d3.1, d3.2.1, Or.inr w1⟩
    have eM : F_X11_readsRule (xu τ 121 0 0) = some (if v = 1 ∧ (q : Int) = σ 1 1 ∧ σ 1 1 ≤ 40 then 0 else -1 - (q : Int), t5) := by
      unfold F_X11_readsRule
      rw [b1]
      simp only [xbp_s, xbd_s, xls, xli, xlt, xjn]
      rw [← hs0, xw_sm (x := σ 1 1) (by omega) (by omega), if_pos z, u1']
      simp only [xbp_s, xbd_s, xls, xli, xlt, xjn]
      rcases hat.2.2 with w | w
      · rw [w, if_neg (show ¬ xw 0 ≠ 0 by decide), fault_m (n := σ 1 1) (lim := 40) (ok := 0) hat.1 t1 (by decide) hE (Or.inl rfl)]
        rfl
      · rw [w, if_pos (show xw 1 ≠ 0 by decide), fault_m (n := σ 1 1) (lim := 40) (ok := 1) hat.1 t1 (by decide) hE (Or.inr rfl)]
        rfl
    have hfr := fr_rr eM
    have hpf : ∀ x, x ≠ a → x ≠ a + 1 → x ≠ a + 3 → s4 x = σ x := g4.1
    rcases u4 with ⟨w1, S', c1, c2, c3, c4, c5, c6⟩ | ⟨w1, K, o', st', dig', d1, d2, d3, d4, d5, d6⟩
    · -- both are stuck
      have hend : q = E ∨ xrn (σ a 6) (σ 2) (q + 1) = none := by
        rcases c2 with y | y
        · exact Or.inl y.1
        · exact Or.inr (by rw [xrn_s c1]; exact y.2)
      obtain ⟨e1, e2⟩ := xrn_u g2 g3 c1 hend g1 u3
      have hno : ¬ ((c : Int) = σ 1 1 ∧ S.2.2.2.2 = 0 ∧ S.2.2.1 = 0) := fun y => by
        rw [← e1, ← e2] at c2
        rcases c2 with x | x
        · omega
        · omega
      rw [if_neg hno] at g5
      rw [if_neg (by omega), ← e1] at eM
      exact ⟨c, s4, t5, hpf, c4, hfr, Or.inl ⟨g5, eM, by omega, by omega⟩⟩
    · have hend : q = E ∨ xrn (σ a 6) (σ 2) (q + 1) = none := by
        by_cases y : (q : Int) < E
        · exact Or.inr (by rw [xrn_s d1]; exact Xnx_0 d6 y rfl (Or.inr rfl))
        · exact Or.inl (by omega)
      obtain ⟨e1, e2⟩ := xrn_u g2 g3 d1 hend g1 u3
      rw [e2] at g5 g6
      by_cases y : (c : Int) = σ 1 1
      · rw [if_pos ⟨y, rfl, rfl⟩] at g5
        have g6' := g6 ⟨y, rfl, rfl⟩
        rw [if_pos (by omega)] at eM
        have d2' : xstl 1 o' st' = (K.map xsc, []) := d2
        simp only at g6'
        rw [d2'] at g6'
        have hK : Xmem t5 132 K := d3.2.2.2.2
        have hKl : t5 121 24 = (K.length : Int) := d3.2.2.2.1
        have hlen : K.length ≤ q := by
          have := rank_len (C := []) t2 d1 d2
          simp only [List.nil_append, List.length_nil] at this
          omega
        have hvd := d5 0 (by decide)
        obtain ⟨x1, x2⟩ := xcode_l (g := t5 132) K 0 0 1 hvd (fun i hi => by rw [Nat.zero_add]; exact hK i hi) rfl
        have hK0 : 1 ≤ K.length := by
          cases K with
          | nil => exact absurd (Option.some.inj hvd) (by decide)
          | cons _ _ => rw [List.length_cons]; omega
        refine ⟨0, s4, t5, hpf, d3.2.1, hfr, Or.inr ⟨g5, eM, by omega, Or.inr ⟨by omega, by omega, ?_, ⟨fun i hi => x1 i (by omega) (by omega), ?_⟩, fun i i1 i2 => ?_⟩⟩⟩
        · rw [g4.2.1, g6', hKl, List.length_map]
        · rw [hKl, show ((K.length : Int)).toNat = K.length by omega]
          rw [Nat.zero_add] at x2
          exact x2
        · have hm := g4.2.2.1 i.toNat (by rw [g6', List.length_map]; omega)
          rw [g6', List.getElem?_map, hK i.toNat (by omega)] at hm
          have := Option.some.inj hm
          rw [show ((i.toNat : Nat) : Int) = i by omega] at this
          exact this.symm
      · rw [if_neg (fun w => y w.1)] at g5
        rw [if_neg (by omega), ← e1] at eM
        exact ⟨c, s4, t5, hpf, d3.2.1, hfr, Or.inl ⟨g5, eM, by omega, by omega⟩⟩
theorem lays_loop2 {c m : Int} {t0 : xW} {k : Int → xW → Option xW} (hc : c ≠ 131) (hm : 0 ≤ m ∧ m ≤ 40) :
    ∀ (j i fu : Nat) (s : xW), (i : Int) + j = m → j < fu → (∀ x : Int, x ≠ 131 → s x = t0 x) → (∀ x : Int, 0 ≤ x → x < i → s 131 x = t0 c x) → ∃ s', F_X11_laysCode_7 c m fu (i : Int) s k = k m s' ∧ (∀ x : Int, x ≠ 131 → s' x = t0 x) ∧ (∀ x : Int, 0 ≤ x → x < m → s' 131 x = t0 c x) := by
  intro j
  induction j with
  | zero =>
    intro i fu s hi hfu h1 h2
    obtain ⟨fu, rfl⟩ : ∃ g, fu = g + 1 := ⟨fu - 1, by omega⟩
    have ei : (i : Int) = m := by omega
    rw [ei] at h2
    refine ⟨s, ?_, h1, h2⟩
    rw [ei, F_X11_laysCode_7, if_neg (Int.lt_irrefl _)]
  | succ j ih =>
    intro i fu s hi hfu h1 h2
    obtain ⟨fu, rfl⟩ : ∃ g, fu = g + 1 := ⟨fu - 1, by omega⟩
    rw [F_X11_laysCode_7, xw_sm (x := (i : Int)) (by omega) (by omega), xw_sm (x := m) (by omega) (by omega), if_pos (by omega), xgd_t (by omega), xgd_t (by omega), xls, xlt, h1 c hc, show ((i : Int) + 1) = ((i + 1 : Nat) : Int) by omega]
    refine ih (i + 1) fu _ (by omega) (by omega) (fun x z => by rw [xu_row _ _ _ z]; exact h1 x z) (fun x x1 x2 => ?_)
    by_cases z : x = i
    · rw [z, xu_same]
    · rw [xu_slot _ _ _ z]
      exact h2 x x1 (by omega)
theorem laysCode_m {c m : Int} {t : xW} (hc : c = 132 ∨ c = 150) (hm : 0 ≤ m ∧ m ≤ 40) : ∃ t', F_X11_laysCode c m t = some t' ∧ (∀ x : Int, x ≠ 131 → x ≠ 121 → t' x = t x) ∧ (∀ k, k ≠ 23 → t' 121 k = t 121 k) ∧ t' 121 23 = m ∧ (∀ x : Int, 0 ≤ x → x < m → t' 131 x = t c x) := by
  have hN := xN_ge
  obtain ⟨t', g1, g2, g3⟩ := lays_loop2 (c := c) (m := m) (t0 := xu t 121 23 m) (k := fun (l3_15 : Int) (s16 : xW) => some s16) (by omega) hm m.toNat 0 xN (xu t 121 23 m) (by omega) (by omega) (fun _ _ => rfl) (fun x x1 x2 => by omega)
  refine ⟨t', ?_, fun x x1 x2 => by rw [g2 x x1, xu_row _ _ _ x2], fun k k1 => by rw [g2 121 (by decide), xu_slot _ _ _ k1], by rw [g2 121 (by decide), xu_same], fun x x1 x2 => by rw [g3 x x1 x2, xu_row _ _ _ (by omega)]⟩
  unfold F_X11_laysCode
  rw [xgd_t (by rcases hc with w | w <;> rw [w] <;> decide)]
  simp only [xls, xlt]
  exact g1
