/-! sheet -/
theorem xent {kd v : Int} {s : xW} (hk : 0 ≤ kd ∧ kd ≤ 3) : F_X10_entry kd v s = some (if kd = 0 then xi2b v else if kd = 1 then xi2s v else v) := by
  unfold F_X10_entry
  simp only [xbp_s, xbd_s, xls, xli, xlt, xjn]
  rw [xw_sm (by omega) (by omega)]
  split <;> rfl
def xln (v : Int) : Int := max 1 (xw (min 9 (xw v)))
theorem xln_r (v : Int) : 1 ≤ xln v ∧ xln v ≤ 9 := by
  unfold xln
  have h := I32_xw v
  rw [xw_id (by omega)]
  omega
/-- the length that a sheet gives the deed d -/
def xsh1 (kd n f st d : Int) : Int := if kd = 3 ∨ n ≤ d then 1 else xln (if kd = 0 then xi2b (f + d * st) else if kd = 1 then xi2s (f + d * st) else f + d * st)
theorem xsh1_r (kd n f st d : Int) : 1 ≤ xsh1 kd n f st d ∧ xsh1 kd n f st d ≤ 9 := by
  unfold xsh1
  split
  · omega
  · exact xln_r _
theorem sheet_loopC {kd n f st nd : Int} {s0 : xW} {k : Int → Int → xW → Option (Int × xW)} (hk : 0 ≤ kd ∧ kd ≤ 3) (hn : I32 n) (hnd : 0 ≤ nd ∧ nd ≤ 8) (e0 : s0 92 0 = nd) :
    ∀ (j i : Nat) (arr : Int → Int) (fu : Nat), (i : Int) + j = nd → j < fu → (∀ d : Int, 0 ≤ d → d < i → arr d = xsh1 kd n f st d) → (∀ d : Int, (i : Int) ≤ d → arr d = s0 20 d) → ∃ arr', F_X10_sheet_47 kd n f st (if kd = 3 then 1 else 0) fu (xsum (xsh1 kd n f st) i) i (xrow s0 20 arr) k = k (xsum (xsh1 kd n f st) nd.toNat) nd (xrow s0 20 arr') ∧ (∀ d : Int, 0 ≤ d → d < nd → arr' d = xsh1 kd n f st d) ∧ (∀ d : Int, nd ≤ d → arr' d = s0 20 d) := by
  intro j
  induction j with
  | zero =>
    intro i arr fu hi hf ha hb
    obtain ⟨fu, rfl⟩ : ∃ g, fu = g + 1 := ⟨fu - 1, by omega⟩
    refine ⟨arr, ?_, fun d x y => ha d x (by omega), fun d x => hb d (by omega)⟩
    unfold F_X10_sheet_47
    rw [xrow_o (show (92 : Int) ≠ 20 by decide), e0, xw_sm (by omega) (by omega), xw_sm (by omega) (by omega), if_neg (by omega), show nd.toNat = i by omega, show nd = (i : Int) by omega]
  | succ j ih =>
    intro i arr fu hi hf ha hb
    obtain ⟨fu, rfl⟩ : ∃ g, fu = g + 1 := ⟨fu - 1, by omega⟩
    have go : ∀ v : Int, v = xsh1 kd n f st i → ∃ arr', F_X10_sheet_47 kd n f st (if kd = 3 then 1 else 0) fu (xsum (xsh1 kd n f st) i + xu (xrow s0 20 arr) 20 i v 20 i) ((i : Int) + 1) (xu (xrow s0 20 arr) 20 i v) k = k (xsum (xsh1 kd n f st) nd.toNat) nd (xrow s0 20 arr') ∧ (∀ d : Int, 0 ≤ d → d < nd → arr' d = xsh1 kd n f st d) ∧ (∀ d : Int, nd ≤ d → arr' d = s0 20 d) := fun v hv => by
      rw [xu_same, xrow_u, hv, show ((i : Int) + 1) = ((i + 1 : Nat) : Int) by omega]
      refine ih (i + 1) _ fu (by omega) (by omega) (fun d x y => ?_) (fun d x => ?_)
      · by_cases q : d = i
        · rw [if_pos q, q]
        · rw [if_neg q]; exact ha d x (by omega)
      · rw [if_neg (by omega)]; exact hb d (by omega)
    unfold F_X10_sheet_47
    simp only [xbp_s, xbd_s, xls, xli, xlt, xjn]
    rw [xrow_o (show (92 : Int) ≠ 20 by decide), e0, xw_sm (x := (i : Int)) (by omega) (by omega), xw_sm (x := nd) (by omega) (by omega), if_pos (by omega), xif01, xw_id hn]
    have hx : xsh1 kd n f st i = if kd = 3 ∨ n ≤ i then 1 else xln (if kd = 0 then xi2b (f + i * st) else if kd = 1 then xi2s (f + i * st) else f + i * st) := rfl
    by_cases q1 : kd = 3
    · rw [if_pos (show kd = 3 ∨ n ≤ (i : Int) from Or.inl q1)] at hx
      rw [if_pos q1, if_neg (show ¬ (1 : Int) = 0 by decide), if_neg (show ¬ xw 0 ≠ 0 by decide), xgd_t (by omega), xgd_t (by omega)]
      have z := go 1 hx.symm
      rw [if_pos q1] at z
      exact z
    · rw [if_neg q1, if_pos (show (0 : Int) = 0 from rfl)]
      have z := fun v hv => go v hv
      rw [if_neg q1] at z
      by_cases q2 : (i : Int) < n
      · rw [if_neg (show ¬ (kd = 3 ∨ n ≤ (i : Int)) by omega)] at hx
        rw [if_pos q2, if_pos (show xw 1 ≠ 0 by decide), xent hk]
        simp only [xbp_s, xbd_s, xls, xli, xlt, xjn, F_X10_lengthOf]
        rw [xgd_t (by omega), xgd_t (by omega)]
        exact z _ hx.symm
      · rw [if_pos (show kd = 3 ∨ n ≤ (i : Int) from Or.inr (by omega))] at hx
        rw [if_neg q2, if_neg (show ¬ xw 0 ≠ 0 by decide), xgd_t (by omega), xgd_t (by omega)]
        exact z 1 hx.symm
theorem sheet_loopM {kd n f st nd : Int} {s0 : xW} {k : Int → Int → Int → xW → Option (Int × xW)} (hk : 0 ≤ kd ∧ kd ≤ 3) (hn : I32 n) (hnd : 0 ≤ nd ∧ nd ≤ 8) (e0 : s0 121 4 = nd) :
    ∀ (j i : Nat) (arr : Int → Int) (fu : Nat), (i : Int) + j = nd → j < fu → (∀ d : Int, 0 ≤ d → d < i → arr (24 + d) = xsh1 kd n f st d) → (∀ x : Int, x < 24 ∨ 32 ≤ x → arr x = s0 127 x) → ∃ arr' v', F_X11_sheet_46 kd n st fu (xsum (xsh1 kd n f st) i) (f + i * st) i (xrow s0 127 arr) k = k (xsum (xsh1 kd n f st) nd.toNat) v' nd (xrow s0 127 arr') ∧ (∀ d : Int, 0 ≤ d → d < nd → arr' (24 + d) = xsh1 kd n f st d) ∧ (∀ x : Int, x < 24 ∨ 32 ≤ x → arr' x = s0 127 x) := by
  intro j
  induction j with
  | zero =>
    intro i arr fu hi hf ha hb
    obtain ⟨fu, rfl⟩ : ∃ g, fu = g + 1 := ⟨fu - 1, by omega⟩
    refine ⟨arr, f + i * st, ?_, fun d x y => ha d x (by omega), hb⟩
    unfold F_X11_sheet_46
    rw [xrow_o (show (121 : Int) ≠ 127 by decide), e0, xw_sm (by omega) (by omega), xw_sm (by omega) (by omega), if_neg (by omega), show nd.toNat = i by omega, show nd = (i : Int) by omega]
  | succ j ih =>
    intro i arr fu hi hf ha hb
    obtain ⟨fu, rfl⟩ : ∃ g, fu = g + 1 := ⟨fu - 1, by omega⟩
    have hst : f + (i : Int) * st + st = f + ((i + 1 : Nat) : Int) * st := by
      rw [show ((i + 1 : Nat) : Int) = (i : Int) + 1 by omega, Int.add_mul, Int.one_mul]
      omega
    have go : ∀ v : Int, v = xsh1 kd n f st i → ∃ arr' v', F_X11_sheet_46 kd n st fu (xsum (xsh1 kd n f st) i + xu (xrow s0 127 arr) 127 (24 + i) v 127 (24 + i)) (f + i * st + st) ((i : Int) + 1) (xu (xrow s0 127 arr) 127 (24 + i) v) k = k (xsum (xsh1 kd n f st) nd.toNat) v' nd (xrow s0 127 arr') ∧ (∀ d : Int, 0 ≤ d → d < nd → arr' (24 + d) = xsh1 kd n f st d) ∧ (∀ x : Int, x < 24 ∨ 32 ≤ x → arr' x = s0 127 x) := fun v hv => by
      rw [xu_same, xrow_u, hv, hst, show ((i : Int) + 1) = ((i + 1 : Nat) : Int) by omega]
      refine ih (i + 1) _ fu (by omega) (by omega) (fun d x y => ?_) (fun x hx => ?_)
      · by_cases q : d = i
        · rw [if_pos (by omega), q]
        · rw [if_neg (by omega)]; exact ha d x (by omega)
      · rw [if_neg (by omega)]; exact hb x hx
    unfold F_X11_sheet_46
    simp only [xbp_s, xbd_s, xls, xli, xlt, xjn]
    rw [xrow_o (show (121 : Int) ≠ 127 by decide), e0, xw_sm (x := (i : Int)) (by omega) (by omega), xw_sm (x := nd) (by omega) (by omega), if_pos (by omega), xw_sm (x := kd) (by omega) (by omega), xw_id hn]
    have hx : xsh1 kd n f st i = if kd = 3 ∨ n ≤ i then 1 else xln (if kd = 0 then xi2b (f + i * st) else if kd = 1 then xi2s (f + i * st) else f + i * st) := rfl
    by_cases q1 : kd = 3
    · rw [if_pos (show kd = 3 ∨ n ≤ (i : Int) from Or.inl q1)] at hx
      rw [if_neg (fun z => z q1), xgd_t (by omega), xgd_t (by omega)]
      exact go 1 hx.symm
    · rw [if_pos q1]
      by_cases q2 : n ≤ (i : Int)
      · rw [if_pos (show kd = 3 ∨ n ≤ (i : Int) from Or.inr q2)] at hx
        rw [if_pos q2, xgd_t (by omega), xgd_t (by omega)]
        exact go 1 hx.symm
      · rw [if_neg (show ¬ (kd = 3 ∨ n ≤ (i : Int)) by omega)] at hx
        rw [if_neg q2, xgd_t (by omega), xgd_t (by omega)]
        exact go _ hx.symm
theorem xsh_if {α : Type} {p q : Prop} [Decidable p] [Decidable q] {x l : α} (h : ¬ (p ∧ q)) : (if p then if q then x else l else l) = l := by
  by_cases a : p
  · rw [if_pos a, if_neg (fun b => h ⟨a, b⟩)]
  · rw [if_neg a]
theorem op_sheet {a1 a2 a3 a4 : Int} (c1 : I32 a1) (c2 : I32 a2) : XO (F_X10_sheet a1 a2 a3 a4) (F_X11_sheet a1 a2 a3 a4) := by
  intro B σ τ hB hB1 hR
  by_cases q : (0 ≤ a1 ∧ a1 ≤ 3) ∧ a2 ≤ 8
  · by_cases q2 : a1 ≠ 3 ∧ a2 < 0
    · refine ⟨-2, σ, xu τ 121 0 0, ?_, ?_, XR_mono (by omega) (XR_thr hR)⟩
      · unfold F_X10_sheet
        simp only [xbp_s, xbd_s, xls, xli, xlt, xjn]
        rw [xw_id c1, xw_id c2, if_pos (show 0 ≤ a1 from q.1.1), if_pos (show a1 ≤ 3 from q.1.2), if_neg (show ¬ 8 < a2 by omega), xif01, if_neg q2.1, if_pos (show (0 : Int) = 0 from rfl), if_pos q2.2]
      · unfold F_X11_sheet
        simp only [xbp_s, xbd_s, xls, xli, xlt, xjn]
        rw [xw_id c1, xw_id c2, in_eq (by omega) (by omega) (by omega), if_pos q.1]
        simp only [xbp_s, xbd_s, xls, xli, xlt, xjn]
        rw [if_pos (show xw 1 ≠ 0 by decide), if_neg (show ¬ 8 < a2 by omega), if_pos q2.1, if_pos q2.2]
    · obtain ⟨h1, h2, h3, h4, h5, h6, h7, h8, h9, h10⟩ := id hR
      have hnh := h5.1
      have hnd := h5.2.2.1
      have hnm : (xu τ 121 0 0) 121 4 = σ 92 0 := h5.2.2.2.1
      have hxN := xN_ge
      obtain ⟨arrC, b1, b2, b3⟩ := sheet_loopC (f := a3) (st := a4) (nd := σ 92 0) (s0 := σ) (k := fun (l6 : Int) (l7 : Int) (s46 : xW) => some (if (if a1 = 3 then (1 : Int) else 0) ≠ 0 then -3 else l6, s46)) q.1 c2 hnd rfl (σ 92 0).toNat 0 (σ 20) xN (by omega) (by omega) (fun d x y => by omega) (fun d x => rfl)
      obtain ⟨arrM, v', d1, d2, d3⟩ := sheet_loopM (f := a3) (st := a4) (nd := σ 92 0) (s0 := xu τ 121 0 0) (k := fun (l5 : Int) (l6 : Int) (l7 : Int) (s46 : xW) => some (if a1 = 3 then -3 else l5, s46)) q.1 c2 hnd hnm (σ 92 0).toNat 0 ((xu τ 121 0 0) 127) xN (by omega) (by omega) (fun d x y => by omega) (fun d x => rfl)
      rw [xrow_i] at b1 d1
      rw [show a3 + ((0 : Nat) : Int) * a4 = a3 by simp] at d1
      have er : (if (if a1 = 3 then (1 : Int) else 0) ≠ 0 then (-3 : Int) else xsum (xsh1 a1 a2 a3 a4) (σ 92 0).toNat) = if a1 = 3 then -3 else xsum (xsh1 a1 a2 a3 a4) (σ 92 0).toNat := by
        by_cases z : a1 = 3
        · rw [if_pos z, if_pos (by decide), if_pos z]
        · rw [if_neg z, if_neg (by decide), if_neg z]
      have eC : F_X10_sheet a1 a2 a3 a4 σ = some (if a1 = 3 then -3 else xsum (xsh1 a1 a2 a3 a4) (σ 92 0).toNat, xrow σ 20 arrC) := by
        rw [← er]
        unfold F_X10_sheet
        simp only [xbp_s, xbd_s, xls, xli, xlt, xjn]
        rw [xw_id c1, xw_id c2, if_pos (show 0 ≤ a1 from q.1.1), if_pos (show a1 ≤ 3 from q.1.2), if_neg (show ¬ 8 < a2 by omega), xif01, xsh_if (show ¬ ((if a1 = 3 then (1 : Int) else 0) = 0 ∧ a2 < 0) by split <;> omega)]
        exact b1
      have eM : F_X11_sheet a1 a2 a3 a4 τ = some (if a1 = 3 then -3 else xsum (xsh1 a1 a2 a3 a4) (σ 92 0).toNat, xrow (xu τ 121 0 0) 127 arrM) := by
        unfold F_X11_sheet
        simp only [xbp_s, xbd_s, xls, xli, xlt, xjn]
        rw [xw_id c1, xw_id c2, in_eq (by omega) (by omega) (by omega), if_pos q.1]
        simp only [xbp_s, xbd_s, xls, xli, xlt, xjn]
        rw [if_pos (show xw 1 ≠ 0 by decide), if_neg (show ¬ 8 < a2 by omega), xsh_if q2]
        exact d1
      refine ⟨_, _, _, eC, eM, ?_⟩
      have hfC := fr_X10_sheet eC
      have hfM := fr_X11_sheet eM
      have e3 : ∀ x : Int, x < 24 ∨ 32 ≤ x → arrM x = τ 127 x := fun x hx => by rw [d3 x hx, xu_row _ _ _ (by decide)]
      refine XR_mono (show _ ≤ B + 300 by omega) ⟨Xtext_cW hfC (by decide +kernel) (Xtext_mW hfM (by decide +kernel) h1), Xrow_cW hfC (by decide +kernel) (Xrow_mW hfM (by decide +kernel) h2), Xsky_cW hfC (by decide +kernel) (Xsky_mW hfM (by decide +kernel) h3), Xrule_cW hfC (by decide +kernel) (Xrule_mW hfM (by decide +kernel) h4), Xplan_cW hfC (by decide +kernel) (Xplan_mW hfM (by decide +kernel) h5), ?_, Xpast_cW hfC (by decide +kernel) (Xpast_mW hfM (by decide +kernel) h7), Xkept_cW hfC (by decide +kernel) (Xkept_mW hfM (by decide +kernel) h8), Xrep_cW hfC (by decide +kernel) (Xrep_mW hfM (by decide +kernel) h9), Xforts_cW hfC (by decide +kernel) h10⟩
      obtain ⟨⟨t1, t2, t3, t4⟩, t5, t6, t7⟩ := id h6
      unfold Xtown
      rw [show xrow σ 20 arrC 17 = σ 17 from xrow_o (by decide), show xrow σ 20 arrC 18 = σ 18 from xrow_o (by decide), show xrow σ 20 arrC 19 = σ 19 from xrow_o (by decide), show xrow σ 20 arrC 20 = arrC from xrow_s, show xrow σ 20 arrC 0 = σ 0 from xrow_o (by decide), show xrow σ 20 arrC 92 = σ 92 from xrow_o (by decide), show xrow (xu τ 121 0 0) 127 arrM 127 = arrM from xrow_s]
      refine ⟨⟨t1, t2, t3, fun d x y => ?_⟩, ?_, fun u x y => ?_, fun d x y => ?_⟩
      · by_cases z : d < σ 92 0
        · have := xsh1_r a1 a2 a3 a4 d
          rw [b2 d x z]
          omega
        · rw [b3 d (by omega)]; exact t4 d x y
      · rw [e3 32 (by decide), e3 33 (by decide), e3 34 (by decide), e3 35 (by decide), e3 36 (by decide), e3 37 (by decide), e3 38 (by decide), e3 39 (by decide)]
        exact t5
      · rw [e3 u (by omega), e3 (8 + u) (by omega), e3 (16 + u) (by omega)]
        exact t6 u x y
      · rw [b2 d x y, d2 d x y]
        exact ⟨rfl, (xsh1_r _ _ _ _ _).1⟩
  · refine ⟨-1, σ, xu τ 121 0 0, ?_, ?_, XR_mono (by omega) (XR_thr hR)⟩
    · unfold F_X10_sheet
      simp only [xbp_s, xbd_s, xls, xli, xlt, xjn]
      rw [xw_id c1, xw_id c2]
      by_cases z1 : 0 ≤ a1
      · rw [if_pos z1]
        by_cases z2 : a1 ≤ 3
        · rw [if_pos z2, if_pos (show 8 < a2 by omega)]
        · rw [if_neg z2]
      · rw [if_neg z1]
    · unfold F_X11_sheet
      simp only [xbp_s, xbd_s, xls, xli, xlt, xjn]
      rw [xw_id c1, xw_id c2, in_eq (by omega) (by omega) (by omega)]
      by_cases z1 : 0 ≤ a1 ∧ a1 ≤ 3
      · rw [if_pos z1]
        simp only [xbp_s, xbd_s, xls, xli, xlt, xjn]
        rw [if_pos (show xw 1 ≠ 0 by decide), if_pos (show 8 < a2 by omega)]
      · rw [if_neg z1]
        simp only [xbp_s, xbd_s, xls, xli, xlt, xjn]
        rw [if_neg (show ¬ xw 0 ≠ 0 by decide)]
