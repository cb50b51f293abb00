theorem xsr_b {f : Int → Int} {a b : Int} (h : ∀ x, 0 ≤ f x ∧ f x ≤ 1) : 0 ≤ xsr f a b ∧ xsr f a b ≤ ((b - a).toNat : Int) := by
  have := xsum_r (f := fun j => f (a + j)) (M := 1) (b - a).toNat (fun _ _ _ => h _)
  unfold xsr
  omega
/-! clashes: the first pair -/
def xfi (q : Int → Int → Bool) (a : Int) (st : Option (Int × Int)) : Nat → Option (Int × Int)
  | 0 => st
  | j + 1 => match xfi q a st j with
    | some p => some p
    | none => if q a (a + 1 + j) then some (a, a + 1 + j) else none
def xfo (q : Int → Int → Bool) (n : Int) : Nat → Option (Int × Int)
  | 0 => none
  | k + 1 => xfi q k (xfo q n k) (n - k - 1).toNat
theorem xfi_congr {p q : Int → Int → Bool} {n a : Int} (h : ∀ a b, 0 ≤ a → a < n → 0 ≤ b → b < n → p a b = q a b) (ha : 0 ≤ a ∧ a < n) (st : Option (Int × Int)) : ∀ j : Nat, a + 1 + j ≤ n → xfi p a st j = xfi q a st j
  | 0, _ => rfl
  | j + 1, hj => by
    unfold xfi
    rw [xfi_congr h ha st j (by omega), h a (a + 1 + j) ha.1 ha.2 (by omega) (by omega)]
theorem xfo_congr {p q : Int → Int → Bool} {n : Int} (h : ∀ a b, 0 ≤ a → a < n → 0 ≤ b → b < n → p a b = q a b) : ∀ k : Nat, (k : Int) ≤ n → xfo p n k = xfo q n k
  | 0, _ => rfl
  | k + 1, hk => by
    unfold xfo
    rw [xfo_congr h k (by omega), xfi_congr h (by omega) _ _ (by omega)]
def XstC (st : Option (Int × Int)) (s : xW) : Prop := match st with
  | none => s 3 1 = 0
  | some p => s 3 1 = 2 ∧ s 4 0 = p.1 ∧ s 4 1 = p.2
def XstM (st : Option (Int × Int)) (s : xW) : Prop := match st with
  | none => s 121 1 = 0
  | some p => s 121 1 = 2 ∧ s 122 0 = p.1 ∧ s 122 1 = p.2
theorem Xrow_st {σ τ : xW} (st : Option (Int × Int)) (h1 : XstC st σ) (h2 : XstM st τ) : Xrow σ τ := by
  cases st with
  | none =>
    have h1 : σ 3 1 = 0 := h1
    have h2 : τ 121 1 = 0 := h2
    exact ⟨by omega, by omega, fun i a b => by omega⟩
  | some p => exact Xrow_2 h1.1 h1.2 h2.1 h2.2
theorem clashes_loop1 {a n : Int} {s0 : xW} {k : Int → Int → xW → Option (Int × xW)} (h : Xpl s0) (e0 : s0 92 0 = n) (ha : 0 ≤ a ∧ a < n) (st0 : Option (Int × Int)) (c0 : Int) (hc0 : 0 ≤ c0 ∧ c0 ≤ 64) :
    ∀ (j i : Nat) (s : xW) (f : Nat) (b acc : Int), b = a + 1 + i → b + j = n → j < f → acc = c0 + xsum (fun x => b01 (xq (s0 94) (s0 95) (s0 20) a (a + 1 + x))) i → (∀ c, c ≠ 3 → c ≠ 4 → s c = s0 c) → XstC (xfi (xq (s0 94) (s0 95) (s0 20)) a st0 i) s → (acc = 0 ↔ xfi (xq (s0 94) (s0 95) (s0 20)) a st0 i = none) →
    ∃ s', F_X10_clashes_30 a f acc b s k = k (c0 + xsum (fun x => b01 (xq (s0 94) (s0 95) (s0 20) a (a + 1 + x))) (n - a - 1).toNat) n s' ∧ (∀ c, c ≠ 3 → c ≠ 4 → s' c = s0 c) ∧ XstC (xfi (xq (s0 94) (s0 95) (s0 20)) a st0 (n - a - 1).toNat) s' ∧ (c0 + xsum (fun x => b01 (xq (s0 94) (s0 95) (s0 20) a (a + 1 + x))) (n - a - 1).toNat = 0 ↔ xfi (xq (s0 94) (s0 95) (s0 20)) a st0 (n - a - 1).toNat = none) := by
  intro j
  have hn := h.1
  induction j with
  | zero =>
    intro i s f b acc hb hbn hf hacc hc hst hz
    obtain ⟨f, rfl⟩ : ∃ f', f = f' + 1 := ⟨f - 1, by omega⟩
    have e : (n - a - 1).toNat = i := by omega
    refine ⟨s, ?_, hc, by rw [e]; exact hst, by rw [e, ← hacc]; exact hz⟩
    unfold F_X10_clashes_30
    rw [hc 92 (by decide) (by decide), e0, xw_sm (by omega) (by omega), xw_sm (by omega) (by omega), if_neg (by omega), e, ← hacc, show b = n by omega]
  | succ j ih =>
    intro i s f b acc hb hbn hf hacc hc hst hz
    obtain ⟨f, rfl⟩ : ∃ f', f = f' + 1 := ⟨f - 1, by omega⟩
    have hsr := xsum_r (f := fun x => b01 (xq (s0 94) (s0 95) (s0 20) a (a + 1 + x))) (M := 1) i (fun x _ _ => b01_r _)
    have hpl : Xpl s := by
      unfold Xpl
      rw [hc 92 (by decide) (by decide), hc 95 (by decide) (by decide), hc 20 (by decide) (by decide), hc 96 (by decide) (by decide)]
      exact h
    have hcol := collide_c (a := a) (c := b) hpl (by rw [hc 92 (by decide) (by decide), e0]; exact ha) (by rw [hc 92 (by decide) (by decide), e0]; omega)
    rw [hc 94 (by decide) (by decide), hc 95 (by decide) (by decide), hc 20 (by decide) (by decide)] at hcol
    have hs1 := xsum_s (fun x => b01 (xq (s0 94) (s0 95) (s0 20) a (a + 1 + x))) i
    rw [← hb] at hs1
    unfold F_X10_clashes_30
    rw [hc 92 (by decide) (by decide), e0, xw_sm (by omega) (by omega), xw_sm (by omega) (by omega), if_pos (by omega), hcol]
    simp only [xbp_s, xbd_s, xls, xli, xlt, xjn]
    rw [xw_b01]
    have hx : xfi (xq (s0 94) (s0 95) (s0 20)) a st0 (i + 1) = (match xfi (xq (s0 94) (s0 95) (s0 20)) a st0 i with | some p => some p | none => if xq (s0 94) (s0 95) (s0 20) a b then some (a, b) else none) := by
      rw [xfi, ← hb]
    cases hq : xq (s0 94) (s0 95) (s0 20) a b
    · rw [hq] at hs1 hx
      rw [show b01 false = 0 from rfl, if_neg (by decide)]
      have hx2 : xfi (xq (s0 94) (s0 95) (s0 20)) a st0 (i + 1) = xfi (xq (s0 94) (s0 95) (s0 20)) a st0 i := by
        rw [hx]
        cases xfi (xq (s0 94) (s0 95) (s0 20)) a st0 i <;> rfl
      have hs2 : b01 false = 0 := rfl
      exact ih (i + 1) s f (b + 1) acc (by omega) (by omega) (by omega) (by omega) hc (by rw [hx2]; exact hst) (by rw [hx2]; exact hz)
    · rw [hq] at hs1 hx
      have hs2 : b01 true = 1 := rfl
      rw [hs2, if_pos (by decide), xw_sm (by omega) (by omega)]
      cases hst2 : xfi (xq (s0 94) (s0 95) (s0 20)) a st0 i with
      | none =>
        rw [hst2] at hx hst hz
        have hacc0 : acc = 0 := hz.mpr rfl
        rw [if_pos (by omega), tell_2]
        simp only [xbp_s, xbd_s, xls, xli, xlt, xjn]
        rw [xw_sm (by omega) (by omega)]
        have hx3 : xfi (xq (s0 94) (s0 95) (s0 20)) a st0 (i + 1) = some (a, b) := by rw [hx]; rfl
        refine ih (i + 1) _ f (b + 1) (acc + 1) (by omega) (by omega) (by omega) (by omega) (fun c c1 c2 => by rw [xt2_o c1 c2]; exact hc c c1 c2) ?_ ?_
        · rw [hx3]
          exact ⟨rfl, by simp [xt2, xt1, xu], by simp [xt2, xt1, xu]⟩
        · rw [hx3]
          constructor
          · intro z; omega
          · intro z; cases z
      | some p =>
        rw [hst2] at hx hst hz
        have hacc0 : acc ≠ 0 := fun z => nomatch hz.mp z
        rw [if_neg (by omega)]
        have hx3 : xfi (xq (s0 94) (s0 95) (s0 20)) a st0 (i + 1) = some p := by rw [hx]
        refine ih (i + 1) _ f (b + 1) (acc + 1) (by omega) (by omega) (by omega) (by omega) hc (by rw [hx3]; exact hst) ?_
        rw [hx3]
        constructor
        · intro z; omega
        · intro z; cases z
theorem clashes_loop2 {n : Int} {s0 : xW} {k : Int → Int → xW → Option (Int × xW)} (h : Xpl s0) (e0 : s0 92 0 = n) :
    ∀ (j i : Nat) (s : xW) (f : Nat), (i : Int) + j = n → j < f → (∀ c, c ≠ 3 → c ≠ 4 → s c = s0 c) → XstC (xfo (xq (s0 94) (s0 95) (s0 20)) n i) s → (xsum (fun a => xsr (fun b => b01 (xq (s0 94) (s0 95) (s0 20) a b)) (a + 1) n) i = 0 ↔ xfo (xq (s0 94) (s0 95) (s0 20)) n i = none) →
    ∃ s', F_X10_clashes_15 f (xsum (fun a => xsr (fun b => b01 (xq (s0 94) (s0 95) (s0 20) a b)) (a + 1) n) i) i s k = k (xsum (fun a => xsr (fun b => b01 (xq (s0 94) (s0 95) (s0 20) a b)) (a + 1) n) n.toNat) n s' ∧ (∀ c, c ≠ 3 → c ≠ 4 → s' c = s0 c) ∧ XstC (xfo (xq (s0 94) (s0 95) (s0 20)) n n.toNat) s' := by
  intro j
  have hn := h.1
  induction j with
  | zero =>
    intro i s f hi hf hc hst hz
    obtain ⟨f, rfl⟩ : ∃ f', f = f' + 1 := ⟨f - 1, by omega⟩
    have e : n.toNat = i := by omega
    refine ⟨s, ?_, hc, by rw [e]; exact hst⟩
    unfold F_X10_clashes_15
    rw [hc 92 (by decide) (by decide), e0, xw_sm (by omega) (by omega), xw_sm (by omega) (by omega), if_neg (by omega), e, show n = (i : Int) by omega]
  | succ j ih =>
    intro i s f hi hf hc hst hz
    obtain ⟨f, rfl⟩ : ∃ f', f = f' + 1 := ⟨f - 1, by omega⟩
    have hsr := xsum_r (f := fun a => xsr (fun b => b01 (xq (s0 94) (s0 95) (s0 20) a b)) (a + 1) n) (M := 8) i (fun x x1 x2 => by
      have := xsr_b (f := fun b => b01 (xq (s0 94) (s0 95) (s0 20) x b)) (a := x + 1) (b := n) (fun _ => b01_r _)
      omega)
    obtain ⟨s1, g1, g2, g3, g4⟩ := clashes_loop1 (a := i) (k := fun (l1_28 : Int) (l3_29 : Int) (s30 : xW) => F_X10_clashes_15 f l1_28 ((i : Int) + 1) s30 k) h e0 (by omega) (xfo (xq (s0 94) (s0 95) (s0 20)) n i) (xsum (fun a => xsr (fun b => b01 (xq (s0 94) (s0 95) (s0 20) a b)) (a + 1) n) i) (by omega) (n - i - 1).toNat 0 s xN (i + 1) _ (by omega) (by omega) (by have := xN_ge; omega) (by simp [xsum]) hc hst hz
    have e1 : xsum (fun a => xsr (fun b => b01 (xq (s0 94) (s0 95) (s0 20) a b)) (a + 1) n) i + xsum (fun x => b01 (xq (s0 94) (s0 95) (s0 20) i (i + 1 + x))) (n - i - 1).toNat = xsum (fun a => xsr (fun b => b01 (xq (s0 94) (s0 95) (s0 20) a b)) (a + 1) n) (i + 1) := by
      rw [xsum_s]
      unfold xsr
      rw [show n - ((i : Int) + 1) = n - i - 1 by omega]
    rw [e1] at g1 g4
    unfold F_X10_clashes_15
    rw [hc 92 (by decide) (by decide), e0, xw_sm (by omega) (by omega), xw_sm (by omega) (by omega), if_pos (by omega), g1, show ((i : Int) + 1) = ((i + 1 : Nat) : Int) by omega]
    exact ih (i + 1) s1 f (by omega) (by omega) g2 g3 g4
theorem clashesM_loop1 {many a n : Int} {s0 : xW} {k : Int → xW → Option (Int × xW)} (h : Xbg 127 s0) (e0 : s0 121 4 = n) (ha : 0 ≤ a ∧ a < n) (st0 : Option (Int × Int)) :
    ∀ (j i : Nat) (s : xW) (f : Nat) (b : Int), b = a + 1 + i → b + j = n → j < f → (∀ c, c ≠ 121 → c ≠ 122 → s c = s0 c) → (∀ k, k ≠ 1 → s 121 k = s0 121 k) → XstM (xfi (xq (s0 126) (s0 135) (fun d => s0 127 (24 + d))) a st0 i) s →
    ∃ s', F_X11_clashes_33 many a f b s k = k n s' ∧ (∀ c, c ≠ 121 → c ≠ 122 → s' c = s0 c) ∧ (∀ k, k ≠ 1 → s' 121 k = s0 121 k) ∧ XstM (xfi (xq (s0 126) (s0 135) (fun d => s0 127 (24 + d))) a st0 (n - a - 1).toNat) s' := by
  intro j
  have hn := h.1
  induction j with
  | zero =>
    intro i s f b hb hbn hf hc hk hst
    obtain ⟨f, rfl⟩ : ∃ f', f = f' + 1 := ⟨f - 1, by omega⟩
    have e : (n - a - 1).toNat = i := by omega
    refine ⟨s, ?_, hc, hk, by rw [e]; exact hst⟩
    unfold F_X11_clashes_33
    rw [hk 4 (by decide), e0, xw_sm (by omega) (by omega), xw_sm (by omega) (by omega), if_neg (by omega), show b = n by omega]
  | succ j ih =>
    intro i s f b hb hbn hf hc hk hst
    obtain ⟨f, rfl⟩ : ∃ f', f = f' + 1 := ⟨f - 1, by omega⟩
    have hbg : Xbg 127 s := by
      unfold Xbg
      rw [hk 4 (by decide), hc 135 (by decide) (by decide), hc 127 (by decide) (by decide)]
      exact h
    have hcl := clash_m (r := 127) (a := a) (c := b) (Or.inl rfl) hbg (by rw [hk 4 (by decide), e0]; exact ha) (by rw [hk 4 (by decide), e0]; omega) (by omega)
    rw [hc 126 (by decide) (by decide), hc 135 (by decide) (by decide), hc 127 (by decide) (by decide)] at hcl
    have hx : xfi (xq (s0 126) (s0 135) (fun d => s0 127 (24 + d))) a st0 (i + 1) = (match xfi (xq (s0 126) (s0 135) (fun d => s0 127 (24 + d))) a st0 i with | some p => some p | none => if xq (s0 126) (s0 135) (fun d => s0 127 (24 + d)) a b then some (a, b) else none) := by
      rw [xfi, ← hb]
    unfold F_X11_clashes_33
    simp only [xbp_s, xbd_s, xls, xli, xlt, xjn]
    rw [hk 4 (by decide), e0, xw_sm (by omega) (by omega), xw_sm (by omega) (by omega), if_pos (by omega)]
    cases hst2 : xfi (xq (s0 126) (s0 135) (fun d => s0 127 (24 + d))) a st0 i with
    | some p =>
      rw [hst2] at hx hst
      rw [hst.1, if_neg (by decide)]
      exact ih (i + 1) s f (b + 1) (by omega) (by omega) (by omega) hc hk (by rw [hx]; exact hst)
    | none =>
      rw [hst2] at hx hst
      have hst : s 121 1 = 0 := hst
      rw [hst, if_pos (by decide), hcl]
      simp only [xbp_s, xbd_s, xls, xli, xlt, xjn]
      rw [xw_b01]
      cases hq : xq (s0 126) (s0 135) (fun d => s0 127 (24 + d)) a b
      · rw [hq] at hx
        rw [show b01 false = 0 from rfl, if_neg (by decide)]
        exact ih (i + 1) s f (b + 1) (by omega) (by omega) (by omega) hc hk (by rw [hx]; exact hst)
      · rw [hq] at hx
        have es : s = xu s 121 1 0 := by
          funext c k
          by_cases hck : c = 121 ∧ k = 1
          · rw [hck.1, hck.2, xu_same, hst]
          · simp [xu, hck]
        rw [show b01 true = 1 from rfl, if_pos (by decide), es, ent_1]
        simp only [xbp_s, xbd_s, xls, xli, xlt, xjn]
        rw [ent_2]
        simp only [xbp_s, xbd_s, xls, xli, xlt, xjn]
        rw [xw_sm (by omega) (by omega)]
        refine ih (i + 1) _ f (b + 1) (by omega) (by omega) (by omega) (fun c c1 c2 => by rw [xe2_o c1 c2]; exact hc c c1 c2) (fun k hk' => by rw [xe2_k hk']; exact hk k hk') ?_
        rw [hx]
        exact ⟨rfl, by simp [xe2, xe1, xu], by simp [xe2, xe1, xu]⟩
theorem clashesM_loop2 {many n : Int} {s0 : xW} {k : Int → xW → Option (Int × xW)} (h : Xbg 127 s0) (e0 : s0 121 4 = n) :
    ∀ (j i : Nat) (s : xW) (f : Nat), (i : Int) + j = n → j < f → (∀ c, c ≠ 121 → c ≠ 122 → s c = s0 c) → (∀ k, k ≠ 1 → s 121 k = s0 121 k) → XstM (xfo (xq (s0 126) (s0 135) (fun d => s0 127 (24 + d))) n i) s →
    ∃ s', F_X11_clashes_21 many f i s k = k n s' ∧ XstM (xfo (xq (s0 126) (s0 135) (fun d => s0 127 (24 + d))) n n.toNat) s' := by
  intro j
  have hn := h.1
  induction j with
  | zero =>
    intro i s f hi hf hc hk hst
    obtain ⟨f, rfl⟩ : ∃ f', f = f' + 1 := ⟨f - 1, by omega⟩
    refine ⟨s, ?_, by rw [show n.toNat = i by omega]; exact hst⟩
    unfold F_X11_clashes_21
    rw [hk 4 (by decide), e0, xw_sm (by omega) (by omega), xw_sm (by omega) (by omega), if_neg (by omega), show n = (i : Int) by omega]
  | succ j ih =>
    intro i s f hi hf hc hk hst
    obtain ⟨f, rfl⟩ : ∃ f', f = f' + 1 := ⟨f - 1, by omega⟩
    obtain ⟨s1, g1, g2, g3, g4⟩ := clashesM_loop1 (many := many) (a := i) (k := fun (l3_31 : Int) (s32 : xW) => F_X11_clashes_21 many f ((i : Int) + 1) s32 k) h e0 (by omega) (xfo (xq (s0 126) (s0 135) (fun d => s0 127 (24 + d))) n i) (n - i - 1).toNat 0 s xN (i + 1) (by omega) (by omega) (by have := xN_ge; omega) hc hk hst
    unfold F_X11_clashes_21
    rw [hk 4 (by decide), e0, xw_sm (by omega) (by omega), xw_sm (by omega) (by omega), if_pos (by omega), g1, show ((i : Int) + 1) = ((i + 1 : Nat) : Int) by omega]
    exact ih (i + 1) s1 f (by omega) (by omega) g2 g3 g4
theorem today_c {m : Int} {cd : Int → Int} {s : xW} (h : Xcw m cd (s 0 4) s) (hg : 0 ≤ s 17 0 ∧ s 17 0 ≤ 99) (hday : 0 ≤ s 17 5 ∧ s 17 5 ≤ 2000000) : ∃ s1, F_X10_planToday s = some s1 ∧ Xpf m cd (s 0 4) (s 17 0) (s 17 5) s s1 := by
  obtain ⟨s1, g1, g2⟩ := planFor_d h hg hday
  refine ⟨s1, ?_, g2⟩
  unfold F_X10_planToday
  rw [xgd_t (by rcases h.1 with a | a <;> rw [a] <;> decide), g1]
  rfl
theorem op_clashes : XO F_X10_clashes F_X11_clashes := by
  intro B σ τ hB hB1 h
  have hcw := XR_cw h
  have hmw := XR_mw h
  have hmr := XR_mr hB1 h
  obtain ⟨h1, h2, h3, h4, h5, h6, h7, h8, h9, h10⟩ := id h
  have hday := h6.1.1.2.2.2.2.2
  have hgun := h6.1.1.1
  have hnd := h5.2.2.1
  obtain ⟨s2, a1, a2⟩ := today_c hcw hgun (by omega)
  obtain ⟨b1, b2, b3, b4, b5⟩ := a2
  have hr := hcw.1
  have e92 : s2 92 = σ 92 := b1 92 (by decide) (by decide) (by omega) (by decide) (by decide)
  obtain ⟨s3, g1, g2, g3⟩ := clashes_loop2 (n := σ 92 0) (k := fun (l1_34 : Int) (l2_35 : Int) (s36 : xW) => some (l1_34, s36)) b2 (by rw [e92]) (σ 92 0).toNat 0 (xu s2 3 1 0) xN (by omega) (by have := xN_ge; omega) (fun c c1 c2 => xu_row _ _ _ c1) (xu_same _ _ _ _) ⟨fun _ => rfl, fun _ => rfl⟩
  have eC : F_X10_clashes σ = some (xpr (τ 121 23) (τ 131) σ (σ 17 0) (σ 17 5), s3) := by
    unfold F_X10_clashes
    rw [a1]
    simp only [xbp_s, xbd_s, xls, xli, xlt, xjn, F_X6_clear]
    refine Eq.trans g1 ?_
    have hp := pairs_d hr h5.2.2.1 ⟨b1, b2, b3, b4, b5⟩
    rw [pairs_c b2, e92] at hp
    rw [← Option.some.inj hp, ← xPp_sr, show (((σ 92 0).toNat : Nat) : Int) = σ 92 0 by omega]
  have hmw1 : Xmw (τ 121 23) (τ 131) σ (xu τ 121 0 0) := Xmw_c hmw (fun c hc => xu_row _ _ _ (by omega)) (fun k hk => xu_slot _ _ _ (by omega))
  obtain ⟨t1, m1, m2, m3, m4, m5⟩ := lays_d (r := 127) hmw1 (Or.inl rfl) (by rw [xu_row _ _ _ (by decide)]; exact hmr)
  have e4 : t1 121 4 = σ 92 0 := by rw [m2 121 (by decide) (by decide) (by decide)]; exact hmw1.2.2.2.2.1
  have hcon := con_m (Or.inl rfl) m1 m3
  rw [e4, xPp_congr _ (fun a b x1 x2 y1 y2 => m5 a b x1 (by omega) y1 (by omega))] at hcon
  obtain ⟨t2, k1, k2⟩ := clashesM_loop2 (many := xpr (τ 121 23) (τ 131) σ (σ 17 0) (σ 17 5)) (n := σ 92 0) (s0 := t1) (k := fun (l2_35 : Int) (s36 : xW) => some (xpr (τ 121 23) (τ 131) σ (σ 17 0) (σ 17 5), s36)) m3 e4 (σ 92 0).toNat 0 (xu t1 121 1 0) xN (by omega) (by have := xN_ge; omega) (fun c c1 c2 => xu_row _ _ _ c1) (fun k hk => xu_slot _ _ _ hk) (xu_same _ _ _ _)
  have eM : F_X11_clashes τ = some (xpr (τ 121 23) (τ 131) σ (σ 17 0) (σ 17 5), t2) := by
    unfold F_X11_clashes
    simp only [xbp_s, xbd_s, xls, xli, xlt, xjn]
    rw [hcon]
    simp only [xbp_s, xbd_s, xls, xli, xlt, xjn]
    exact k1
  refine ⟨_, _, _, eC, eM, XR_W (fr_X10_clashes eC) (by decide +kernel) (fr_X11_clashes eM) (by decide +kernel) h (Xrow_st (xfo (xq (σ 94) (xbe (τ 121 23) (τ 131) σ (σ 17 0) (σ 17 5)) (σ 20)) (σ 92 0) (σ 92 0).toNat) ?_ ?_)⟩
  · rw [xfo_congr b5 _ (by omega)] at g3
    exact g3
  · rw [xfo_congr m5 _ (by omega)] at k2
    exact k2
