/-- the town t made like the town u -/
def xtc (σ : xW) (t u : Int) : xW := fun c j =>
  if c = t ∧ 0 ≤ j ∧ j < 6 then σ u j else if (c = t + 1 ∨ c = t + 2 ∨ c = t + 3) ∧ 0 ≤ j ∧ j < 8 then σ (u + (c - t)) j else σ c j
theorem xtc_eq {σ : xW} {t u : Int} (h1 : 17 ≤ t ∧ t ≤ 117) (h2 : 17 ≤ u ∧ u ≤ 117) (h3 : t + 4 ≤ u ∨ u + 4 ≤ t) : xcp (xcp (xcp (xu (xu (xu (xu (xu (xu σ t 0 (σ u 0)) t 1 (σ u 1)) t 2 (σ u 2)) t 3 (σ u 3)) t 4 (σ u 4)) t 5 (σ u 5)) (u + 1) (t + 1) 8) (u + 2) (t + 2) 8) (u + 3) (t + 3) 8 = xtc σ t u := by
  have e : ∀ c j, c ≠ t → xu (xu (xu (xu (xu (xu σ t 0 (σ u 0)) t 1 (σ u 1)) t 2 (σ u 2)) t 3 (σ u 3)) t 4 (σ u 4)) t 5 (σ u 5) c j = σ c j := fun c j hc => by simp [xu, hc]
  have e2 : ∀ j, xu (xu (xu (xu (xu (xu σ t 0 (σ u 0)) t 1 (σ u 1)) t 2 (σ u 2)) t 3 (σ u 3)) t 4 (σ u 4)) t 5 (σ u 5) t j = if 0 ≤ j ∧ j < 6 then σ u j else σ t j := fun j => by
    by_cases hj : 0 ≤ j ∧ j < 6
    · rw [if_pos hj]
      rcases (by omega : j = 0 ∨ j = 1 ∨ j = 2 ∨ j = 3 ∨ j = 4 ∨ j = 5) with rfl | rfl | rfl | rfl | rfl | rfl <;> simp [xu]
    · rw [if_neg hj]
      simp only [xu]
      rw [if_neg (by omega), if_neg (by omega), if_neg (by omega), if_neg (by omega), if_neg (by omega), if_neg (by omega)]
  generalize xu (xu (xu (xu (xu (xu σ t 0 (σ u 0)) t 1 (σ u 1)) t 2 (σ u 2)) t 3 (σ u 3)) t 4 (σ u 4)) t 5 (σ u 5) = M at e e2
  funext c j
  unfold xtc
  by_cases hc : c = t
  · subst hc
    simp only [xcp]
    rw [if_neg (by omega), if_neg (by omega), if_neg (by omega), e2]
    by_cases hj : 0 ≤ j ∧ j < 6
    · rw [if_pos hj, if_pos ⟨by first | trivial | rfl, hj⟩]
    · rw [if_neg hj, if_neg (fun z => hj z.2), if_neg (by omega)]
  · rw [if_neg (fun z => hc z.1)]
    by_cases hq : (c = t + 1 ∨ c = t + 2 ∨ c = t + 3) ∧ 0 ≤ j ∧ j < 8
    · rw [if_pos hq]
      simp only [xcp]
      rcases hq with ⟨rfl | rfl | rfl, hj⟩
      · rw [if_neg (by omega), if_neg (by omega), if_pos ⟨rfl, hj⟩, e _ _ (by omega), show u + (t + 1 - t) = u + 1 by omega]
      · rw [if_neg (by omega), if_pos ⟨rfl, hj⟩, if_neg (by omega), e _ _ (by omega), show u + (t + 2 - t) = u + 2 by omega]
      · rw [if_pos ⟨rfl, hj⟩, if_neg (by omega), if_neg (by omega), e _ _ (by omega), show u + (t + 3 - t) = u + 3 by omega]
    · rw [if_neg hq]
      simp only [xcp]
      rw [if_neg (by omega), if_neg (by omega), if_neg (by omega), e _ _ hc]
theorem towns_r {t : Int} (ht : t ∈ xTowns) : 17 ≤ t ∧ t ≤ 117 := by
  unfold xTowns at ht
  simp only [List.mem_cons, List.not_mem_nil, or_false] at ht
  omega
theorem towns_ap {t u : Int} (ht : t ∈ xTowns) (hu : u ∈ xTowns) (h : t ≠ u) : t + 4 ≤ u ∨ u + 4 ≤ t := by
  unfold xTowns at ht hu
  simp only [List.mem_cons, List.not_mem_nil, or_false] at ht hu
  omega
theorem towns_past {i : Int} (h : 0 ≤ i ∧ i < 16) : 23 + 4 * i ∈ xTowns := by
  unfold xTowns
  simp only [List.mem_cons, List.not_mem_nil, or_false]
  omega
theorem towns_kept {i : Int} (h : 0 ≤ i ∧ i < 3) : 109 + 4 * i ∈ xTowns := by
  unfold xTowns
  simp only [List.mem_cons, List.not_mem_nil, or_false]
  omega
theorem towns_17 : (17 : Int) ∈ xTowns := by decide
theorem copy_c {t u : Int} {σ : xW} (ht : t ∈ xTowns) (hu : u ∈ xTowns) (h : t ≠ u) : F_X9_copy t u σ = some (xtc σ t u) := by
  have h1 := towns_r ht
  have h2 := towns_r hu
  have h3 := towns_ap ht hu h
  unfold F_X9_copy
  rw [xgd_t ht, xgd_t hu]
  simp only [xbp_s, xbd_s, xls, xli, xlt, xjn]
  have hut : u ≠ t := Ne.symm h
  simp only [xu_cell _ _ _ _ hut]
  rw [xtc_eq h1 h2 h3]
theorem xtc_far {σ : xW} {t u c : Int} (h : c < t ∨ t + 3 < c) : xtc σ t u c = σ c := by
  funext j
  unfold xtc
  rw [if_neg (by omega), if_neg (by omega)]
theorem xtc_g {σ : xW} {t u j : Int} (h : 0 ≤ j ∧ j < 6) : xtc σ t u t j = σ u j := by
  unfold xtc
  rw [if_pos ⟨rfl, h⟩]
theorem xtc_a {σ : xW} {t u j k : Int} (hk : k = 1 ∨ k = 2 ∨ k = 3) (h : 0 ≤ j ∧ j < 8) : xtc σ t u (t + k) j = σ (u + k) j := by
  unfold xtc
  rw [if_neg (by omega), if_pos (by omega), show t + k - t = k by omega]
theorem xtc_b {σ : xW} {t u j k : Int} (hk : k = 1 ∨ k = 2 ∨ k = 3) (h : ¬ (0 ≤ j ∧ j < 8)) : xtc σ t u (t + k) j = σ (t + k) j := by
  unfold xtc
  rw [if_neg (by omega), if_neg (by omega)]
theorem Xti_tc {B : Int} {σ : xW} {t u : Int} (hu : Xti B (σ u) (σ (u + 1)) (σ (u + 2)) (σ (u + 3))) : Xti B (xtc σ t u t) (xtc σ t u (t + 1)) (xtc σ t u (t + 2)) (xtc σ t u (t + 3)) := by
  obtain ⟨a, b, c, d⟩ := hu
  refine ⟨?_, fun h x y => ?_, fun h x y => ?_, fun h x y => ?_⟩
  · rw [xtc_g (by omega), xtc_g (by omega), xtc_g (by omega), xtc_g (by omega), xtc_g (by omega), xtc_g (by omega)]
    exact a
  · rw [xtc_a (by omega) ⟨x, y⟩]; exact b h x y
  · rw [xtc_a (by omega) ⟨x, y⟩]; exact c h x y
  · rw [xtc_a (by omega) ⟨x, y⟩]; exact d h x y
theorem Xtr_tc {nh nd : Int} {σ : xW} {t u : Int} {r : Int → Int} (hn : nh ≤ 8) (hd : nd ≤ 8) (hu : Xtr nh nd (σ u) (σ (u + 1)) (σ (u + 2)) (σ (u + 3)) r) : Xtr nh nd (xtc σ t u t) (xtc σ t u (t + 1)) (xtc σ t u (t + 2)) (xtc σ t u (t + 3)) r := by
  obtain ⟨a, b, c⟩ := hu
  refine ⟨?_, fun h x y => ?_, fun h x y => ?_⟩
  · rw [xtc_g (by omega), xtc_g (by omega), xtc_g (by omega), xtc_g (by omega), xtc_g (by omega), xtc_g (by omega)]
    exact a
  · rw [xtc_a (by omega) (by omega), xtc_a (by omega) (by omega)]; exact b h x y
  · rw [xtc_a (by omega) (by omega)]; exact c h x y
theorem Xtr_row {nh nd : Int} {g p w l r r' : Int → Int} (hn : nh ≤ 8) (hd : nd ≤ 8) (h : Xtr nh nd g p w l r) (e : ∀ k, 0 ≤ k → k < 40 → r' k = r k) : Xtr nh nd g p w l r' := by
  obtain ⟨a, b, c⟩ := h
  refine ⟨?_, fun h x y => ?_, fun h x y => ?_⟩
  · rw [e 32 (by decide) (by decide), e 33 (by decide) (by decide), e 34 (by decide) (by decide), e 35 (by decide) (by decide), e 36 (by decide) (by decide), e 37 (by decide) (by decide), e 38 (by decide) (by decide), e 39 (by decide) (by decide)]
    exact a
  · rw [e h (by omega) (by omega), e (8 + h) (by omega) (by omega), e (16 + h) (by omega) (by omega)]; exact b h x y
  · rw [e (24 + h) (by omega) (by omega)]; exact c h x y
