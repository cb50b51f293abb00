/-! sheet -/
theorem xent {kd v : Int} {s : xW} (hk : 0 ≤ kd ∧ kd ≤ 3) : F_X10_entry kd v s = some (if kd = 0 then xi2b v else if kd = 1 then xi2s v else v) := by
  unfold F_X10_entry
  simp only [xbp_s, xbd_s, xls, xli, xlt, xjn]
  rw [xw_sm (by omega) (by omega)]
  split <;> rfl
def xln (v : Int) : Int := max 1 (xw (min 9 (xw v)))
theorem xln_r (v : Int) : 1 ≤ xln v ∧ xln v ≤ 9 := by
  unfold xln
  have h := I32_xw v
  rw [xw_id (by omega)]
  omega
/-- the length that a sheet gives the deed d -/
def xsh1 (kd n f st d : Int) : Int := if kd = 3 ∨ n ≤ d then 1 else xln (if kd = 0 then xi2b (f + d * st) else if kd = 1 then xi2s (f + d * st) else f + d * st)
theorem xsh1_r (kd n f st d : Int) : 1 ≤ xsh1 kd n f st d ∧ xsh1 kd n f st d ≤ 9 := by
  unfold xsh1
  split
  · omega
  · exact xln_r _
theorem sheet_loopC {kd n f st nd : Int} {s0 : xW} {k : Int → Int → xW → Option (Int × xW)} (hk : 0 ≤ kd ∧ kd ≤ 3) (hn : I32 n) (hnd : 0 ≤ nd ∧ nd ≤ 8) (e0 : s0 92 0 = nd) :
    ∀ (j i : Nat) (arr : Int → Int) (fu : Nat), (i : Int) + j = nd → j < fu → (∀ d : Int, 0 ≤ d → d < i → arr d = xsh1 kd n f st d) → (∀ d : Int, (i : Int) ≤ d → arr d = s0 20 d) → ∃ arr', F_X10_sheet_47 kd n f st (if kd = 3 then 1 else 0) fu (xsum (xsh1 kd n f st) i) i (xrow s0 20 arr) k = k (xsum (xsh1 kd n f st) nd.toNat) nd (xrow s0 20 arr') ∧ (∀ d : Int, 0 ≤ d → d < nd → arr' d = xsh1 kd n f st d) ∧ (∀ d : Int, nd ≤ d → arr' d = s0 20 d) := by
  intro j
  induction j with
  | zero =>
    intro i arr fu hi hf ha hb
    obtain ⟨fu, rfl⟩ : ∃ g, fu = g + 1 := ⟨fu - 1, by omega⟩
    refine ⟨arr, ?_, fun d x y => ha d x (by omega), fun d x => hb d (by omega)⟩
    unfold F_X10_sheet_47
    rw [xrow_o (show (92 : Int) ≠ 20 by decide), e0, xw_sm (by omega) (by omega), xw_sm (by omega) (by omega), if_neg (by omega), show nd.toNat = i by omega, show nd = (i : Int) by omega]
  | succ j ih =>
    intro i arr fu hi hf ha hb
    obtain ⟨fu, rfl⟩ : ∃ g, fu = g + 1 := ⟨fu - 1, by omega⟩
    have go : ∀ v : Int, v = xsh1 kd n f st i → ∃ arr', F_X10_sheet_47 kd n f st (if kd = 3 then 1 else 0) fu (xsum (xsh1 kd n f st) i + xu (xrow s0 20 arr) 20 i v 20 i) ((i : Int) + 1) (xu (xrow s0 20 arr) 20 i v) k = k (xsum (xsh1 kd n f st) nd.toNat) nd (xrow s0 20 arr') ∧ (∀ d : Int, 0 ≤ d → d < nd → arr' d = xsh1 kd n f st d) ∧ (∀ d : Int, nd ≤ d → arr' d = s0 20 d) := fun v hv => by
      rw [xu_same, xrow_u, hv, show ((i : Int) + 1) = ((i + 1 : Nat) : Int) by omega]
      refine ih (i + 1) _ fu (by omega) (by omega) (fun d x y => ?_) (fun d x => ?_)
      · by_cases q : d = i
        · rw [if_pos q, q]
        · rw [if_neg q]; exact ha d x (by omega)
      · rw [if_neg (by omega)]; exact hb d (by omega)
    unfold F_X10_sheet_47
    simp only [xbp_s, xbd_s, xls, xli, xlt, xjn]
    rw [xrow_o (show (92 : Int) ≠ 20 by decide), e0, xw_sm (x := (i : Int)) (by omega) (by omega), xw_sm (x := nd) (by omega) (by omega), if_pos (by omega), xif01, xw_id hn]
    have hx : xsh1 kd n f st i = if kd = 3 ∨ n ≤ i then 1 else xln (if kd = 0 then xi2b (f + i * st) else if kd = 1 then xi2s (f + i * st) else f + i * st) := rfl
    by_cases q1 : kd = 3
    · rw [if_pos (show kd = 3 ∨ n ≤ (i : Int) from Or.inl q1)] at hx
      rw [if_pos q1, if_neg (show ¬ (1 : Int) = 0 by decide), if_neg (show ¬ xw 0 ≠ 0 by decide), xgd_t (by omega), xgd_t (by omega)]
      have z := go 1 hx.symm
      rw [if_pos q1] at z
      exact z
    · rw [if_neg q1, if_pos (show (0 : Int) = 0 from rfl)]
      have z := fun v hv => go v hv
      rw [if_neg q1] at z
      by_cases q2 : (i : Int) < n
      · rw [if_neg (show ¬ (kd = 3 ∨ n ≤ (i : Int)) by omega)] at hx
        rw [if_pos q2, if_pos (show xw 1 ≠ 0 by decide), xent hk]
        simp only [xbp_s, xbd_s, xls, xli, xlt, xjn, F_X10_lengthOf]
        rw [xgd_t (by omega), xgd_t (by omega)]
        exact z _ hx.symm
      · rw [if_pos (show kd = 3 ∨ n ≤ (i : Int) from Or.inr (by omega))] at hx
        rw [if_neg q2, if_neg (show ¬ xw 0 ≠ 0 by decide), xgd_t (by omega), xgd_t (by omega)]
        exact z 1 hx.symm
theorem sheet_loopM {kd n f st nd : Int} {s0 : xW} {k : Int → Int → Int → xW → Option (Int × xW)} (hk : 0 ≤ kd ∧ kd ≤ 3) (hn : I32 n) (hnd : 0 ≤ nd ∧ nd ≤ 8) (e0 : s0 121 4 = nd) :
    ∀ (j i : Nat) (arr : Int → Int) (fu : Nat), (i : Int) + j = nd → j < fu → (∀ d : Int, 0 ≤ d → d < i → arr (24 + d) = xsh1 kd n f st d) → (∀ x : Int, x < 24 ∨ 32 ≤ x → arr x = s0 127 x) → ∃ arr' v', F_X11_sheet_46 kd n st fu (xsum (xsh1 kd n f st) i) (f + i * st) i (xrow s0 127 arr) k = k (xsum (xsh1 kd n f st) nd.toNat) v' nd (xrow s0 127 arr') ∧ (∀ d : Int, 0 ≤ d → d < nd → arr' (24 + d) = xsh1 kd n f st d) ∧ (∀ x : Int, x < 24 ∨ 32 ≤ x → arr' x = s0 127 x) := by
  intro j
  induction j with
  | zero =>
    intro i arr fu hi hf ha hb
    obtain ⟨fu, rfl⟩ : ∃ g, fu = g + 1 := ⟨fu - 1, by omega⟩
    refine ⟨arr, f + i * st, ?_, fun d x y => ha d x (by omega), hb⟩
    unfold F_X11_sheet_46
    rw [xrow_o (show (121 : Int) ≠ 127 by decide), e0, xw_sm (by omega) (by omega), xw_sm (by omega) (by omega), if_neg (by omega), show nd.toNat = i by omega, show nd = (i : Int) by omega]
  | succ j ih =>
    intro i arr fu hi hf ha hb
    obtain ⟨fu, rfl⟩ : ∃ g, fu = g + 1 := ⟨fu - 1, by omega⟩
    have hst : f + (i : Int) * st + st = f + ((i + 1 : Nat) : Int) * st := by
      rw [show ((i + 1 : Nat) : Int) = (i : Int) + 1 by omega, Int.add_mul, Int.one_mul]
      omega
    have go : ∀ v : Int, v = xsh1 kd n f st i → ∃ arr' v', F_X11_sheet_46 kd n st fu (xsum (xsh1 kd n f st) i + xu (xrow s0 127 arr) 127 (24 + i) v 127 (24 + i)) (f + i * st + st) ((i : Int) + 1) (xu (xrow s0 127 arr) 127 (24 + i) v) k = k (xsum (xsh1 kd n f st) nd.toNat) v' nd (xrow s0 127 arr') ∧ (∀ d : Int, 0 ≤ d → d < nd → arr' (24 + d) = xsh1 kd n f st d) ∧ (∀ x : Int, x < 24 ∨ 32 ≤ x → arr' x = s0 127 x) := fun v hv => by
      rw [xu_same, xrow_u, hv, hst, show ((i : Int) + 1) = ((i + 1 : Nat) : Int) by omega]
      refine ih (i + 1) _ fu (by omega) (by omega) (fun d x y => ?_) (fun x hx => ?_)
      · by_cases q : d = i
        · rw [if_pos (by omega), q]
        · rw [if_neg (by omega)]; exact ha d x (by omega)
      · rw [if_neg (by omega)]; exact hb x hx
    unfold F_X11_sheet_46
    simp only [xbp_s, xbd_s, xls, xli, xlt, xjn]
    rw [xrow_o (show (121 : Int) ≠ 127 by decide), e0, xw_sm (x := (i : Int)) (by omega) (by omega), xw_sm (x := nd) (by omega) (by omega), if_pos (by omega), xw_sm (x := kd) (by omega) (by omega), xw_id hn]
    have hx : xsh1 kd n f st i = if kd = 3 ∨ n ≤ i then 1 else xln (if kd = 0 then xi2b (f + i * st) else if kd = 1 then xi2s (f + i * st) else f + i * st) := rfl
    by_cases q1 : kd = 3
    · rw [if_pos (show kd = 3 ∨ n ≤ (i : Int) from Or.inl q1)] at hx
      rw [if_neg (fun z => z q1), xgd_t (by omega), xgd_t (by omega)]
      exact go 1 hx.symm
    · rw [if_pos q1]
      by_cases q2 : n ≤ (i : Int)
      · rw [if_pos (show kd = 3 ∨ n ≤ (i : Int) from Or.inr q2)] at hx
        rw [if_pos q2, xgd_t (by omega), xgd_t (by omega)]
        exact go 1 hx.symm
      · rw [if_neg (show ¬ (kd = 3 ∨ n ≤ (i : Int)) by omega)] at hx
        rw [if_neg q2, xgd_t (by omega), xgd_t (by omega)]
        exact go _ hx.symm
