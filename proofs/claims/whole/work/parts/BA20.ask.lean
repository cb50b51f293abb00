theorem XR_W {B : Int} {V W : List (Int × Int)} {σ σ1 τ τ1 : xW} (hf : xfm V σ σ1) (hv : xoc V = true) (hg : xfm W τ τ1) (hw : xom W = true) (h : XR B σ τ) (hr : Xrow σ1 τ1) : XR (B + 300) σ1 τ1 := by
  unfold xoc at hv
  unfold xom at hw
  simp only [Bool.and_eq_true] at hv hw
  obtain ⟨⟨t1, t2⟩, ⟨s1, s2, s3, s4⟩, ⟨r1, r2, r3, r4, r5, r6⟩, ⟨p1, p2, p3, p4⟩, ⟨o1, o2, o3, o4⟩, ⟨a1, a2, a3⟩, ⟨k1, k2⟩, ⟨e1, e2, e3⟩, f1, f2⟩ := hv
  obtain ⟨⟨t1', t2'⟩, ⟨s1', s2', s3', s4'⟩, ⟨r1', r2'⟩, ⟨p1', p2', p3', p4'⟩, o1', ⟨a1', a2'⟩, ⟨k1', k2', k3', k4'⟩, e1', e2', e3'⟩ := hw
  obtain ⟨h1, h2, h3, h4, h5, h6, h7, h8, h9, h10⟩ := h
  have n0 := xfm_slot hf p1
  have n1 := xfm_slot hf p2
  exact XR_mono (by omega) ⟨Xtext_c (xfm_slot hf t1) (xfm_cell hf t2) (Xtext_m (xfm_slot hg t1') (xfm_cell hg t2') h1), hr, Xsky_c (xfm_slot hf s1) (xfm_cell hf s2) (xfm_slot hf s3) (xfm_cell hf s4) (Xsky_m (xfm_slot hg s1') (xfm_cell hg s2') (xfm_slot hg s3') (xfm_cell hg s4') h3),
    Xrule_c (xfm_slot hf r1) (xfm_slot hf r2) (fun _ => ⟨xfm_slot hf r3, xfm_cell hf r4⟩) (fun _ => ⟨xfm_slot hf r5, xfm_cell hf r6⟩) (Xrule_m (xfm_slot hg r1') (xfm_cell hg r2') h4),
    Xplan_c n0 n1 (xfm_cell hf p3) (xfm_cell hf p4) (Xplan_m (xfm_slot hg p1') (xfm_slot hg p2') (xfm_cell hg p3') (xfm_cell hg p4') h5), Xtown_c n0 n1 (xfm_cell hf o1) (xfm_cell hf o2) (xfm_cell hf o3) (xfm_cell hf o4) (Xtown_m (xfm_cell hg o1') h6),
    Xpast_c (xfm_slot hf a1) (xfm_slot hf a2) (xfm_rng hf a3) n0 n1 (Xpast_m (xfm_slot hg a1') (xfm_cell hg a2') h7), Xkept_c (xfm_cell hf k1) (xfm_rng hf k2) n0 n1 (Xkept_m (xfm_slot hg k1') (xfm_cell hg k2') (xfm_cell hg k3') (xfm_cell hg k4') h8), Xrep_c (xfm_slot hf e1) (xfm_cell hf e2) (xfm_cell hf e3) n0 (Xrep_m (xfm_slot hg e1') (xfm_cell hg e2') (xfm_cell hg e3') h9), Xforts_c (xfm_slot hf f1) (xfm_cell hf f2) h10⟩
/-- as above, and the row as it was -/
theorem XR_W0 {B : Int} {V W : List (Int × Int)} {σ σ1 τ τ1 : xW} (hf : xfm V σ σ1) (hv : (xoc V && (xns V 3 1 && xnw V 4)) = true) (hg : xfm W τ τ1) (hw : (xom W && (xns W 121 1 && xnw W 122)) = true) (h : XR B σ τ) : XR (B + 300) σ1 τ1 := by
  simp only [Bool.and_eq_true] at hv hw
  exact XR_W hf hv.1 hg hw.1 h (Xrow_c (xfm_slot hf hv.2.1) (xfm_cell hf hv.2.2) (Xrow_m (xfm_slot hg hw.2.1) (xfm_cell hg hw.2.2) h.2.1))
/-! telling -/
def xt1 (s : xW) (a : Int) : xW := xu (xu (xu s 3 1 0) 4 0 a) 3 1 1
def xt2 (s : xW) (a b : Int) : xW := xu (xu (xt1 s a) 4 1 b) 3 1 2
def xt3 (s : xW) (a b c : Int) : xW := xu (xu (xt2 s a b) 4 2 c) 3 1 3
theorem add_c {s : xW} {v : Int} (h : 0 ≤ s 3 1 ∧ s 3 1 < 16) : F_X6_add v s = some (xu (xu s 4 (s 3 1) v) 3 1 (s 3 1 + 1)) := by
  unfold F_X6_add
  simp only [xbp_s, xbd_s, xls, xli, xlt, xjn]
  rw [xw_sm (by omega) (by omega), if_pos h.2, xgd_t h]
  simp [xu]
theorem tell_1 {s : xW} {a : Int} : F_X6_tell a s = some (xt1 s a) := by
  unfold F_X6_tell F_X6_clear
  simp only [xbp_s, xbd_s, xls, xli, xlt, xjn]
  rw [add_c (by simp [xu])]
  simp [xu, xbp_s, xt1]
theorem tell_2 {s : xW} {a b : Int} : F_X6_tell_ a b s = some (xt2 s a b) := by
  unfold F_X6_tell_
  rw [tell_1]
  simp only [xbp_s, xbd_s, xls, xli, xlt, xjn]
  rw [add_c (by simp [xu, xt1])]
  simp [xu, xbp_s, xt1, xt2]
theorem tell_3 {s : xW} {a b c : Int} : F_X6_tell__ a b c s = some (xt3 s a b c) := by
  unfold F_X6_tell__
  rw [tell_2]
  simp only [xbp_s, xbd_s, xls, xli, xlt, xjn]
  rw [add_c (by simp [xu, xt1, xt2])]
  simp [xu, xbp_s, xt1, xt2, xt3]
theorem enters_m {s : xW} {v : Int} (h : 0 ≤ s 121 1 ∧ s 121 1 < 24) : F_X11_enters v s = some (xu (xu s 122 (s 121 1) v) 121 1 (s 121 1 + 1)) := by
  unfold F_X11_enters
  simp only [xbp_s, xbd_s, xls, xli, xlt, xjn]
  rw [xgd_t h]
  simp [xu]
def xe1 (s : xW) (a : Int) : xW := xu (xu (xu s 121 1 0) 122 0 a) 121 1 1
def xe2 (s : xW) (a b : Int) : xW := xu (xu (xe1 s a) 122 1 b) 121 1 2
def xe3 (s : xW) (a b c : Int) : xW := xu (xu (xe2 s a b) 122 2 c) 121 1 3
theorem ent_1 {s : xW} {a : Int} : F_X11_enters a (xu s 121 1 0) = some (xe1 s a) := by
  rw [enters_m (by simp [xu])]
  simp [xu, xe1]
theorem ent_2 {s : xW} {a b : Int} : F_X11_enters b (xe1 s a) = some (xe2 s a b) := by
  rw [enters_m (by simp [xu, xe1])]
  simp [xu, xe1, xe2]
theorem ent_3 {s : xW} {a b c : Int} : F_X11_enters c (xe2 s a b) = some (xe3 s a b c) := by
  rw [enters_m (by simp [xu, xe1, xe2])]
  simp [xu, xe1, xe2, xe3]
theorem Xrow_1 {σ τ : xW} {a : Int} (h1 : σ 3 1 = 1) (h2 : σ 4 0 = a) (h3 : τ 121 1 = 1) (h4 : τ 122 0 = a) : Xrow σ τ := by
  refine ⟨by omega, by omega, fun i x y => ?_⟩
  rw [show i = 0 by omega, h2, h4]
theorem Xrow_2 {σ τ : xW} {a b : Int} (h1 : σ 3 1 = 2) (h2 : σ 4 0 = a ∧ σ 4 1 = b) (h3 : τ 121 1 = 2) (h4 : τ 122 0 = a ∧ τ 122 1 = b) : Xrow σ τ := by
  refine ⟨by omega, by omega, fun i x y => ?_⟩
  rcases (by omega : i = 0 ∨ i = 1) with rfl | rfl
  · rw [h2.1, h4.1]
  · rw [h2.2, h4.2]
theorem Xrow_3 {σ τ : xW} {a b c : Int} (h1 : σ 3 1 = 3) (h2 : σ 4 0 = a ∧ σ 4 1 = b ∧ σ 4 2 = c) (h3 : τ 121 1 = 3) (h4 : τ 122 0 = a ∧ τ 122 1 = b ∧ τ 122 2 = c) : Xrow σ τ := by
  refine ⟨by omega, by omega, fun i x y => ?_⟩
  rcases (by omega : i = 0 ∨ i = 1 ∨ i = 2) with rfl | rfl | rfl
  · rw [h2.1, h4.1]
  · rw [h2.2.1, h4.2.1]
  · rw [h2.2.2, h4.2.2]
theorem copies_loop {s0 : xW} {k : Int → xW → Option xW} :
    ∀ (j i : Nat) (arr : Int → Int) (f : Nat), i + j = 40 → j < f → (∀ x : Int, 0 ≤ x → x < i → arr x = s0 127 x) → ∃ arr', (∀ x : Int, 0 ≤ x → x < 40 → arr' x = s0 127 x) ∧ F_X11_copies_2 f i (xrow s0 128 arr) k = k 40 (xrow s0 128 arr') := by
  intro j
  induction j with
  | zero =>
    intro i arr f hi hf ha
    obtain ⟨f, rfl⟩ : ∃ f', f = f' + 1 := ⟨f - 1, by omega⟩
    refine ⟨arr, fun x a b => ha x a (by omega), ?_⟩
    unfold F_X11_copies_2
    rw [xw_sm (by omega) (by omega), if_neg (by omega), show (i : Int) = 40 by omega]
  | succ j ih =>
    intro i arr f hi hf ha
    obtain ⟨f, rfl⟩ : ∃ f', f = f' + 1 := ⟨f - 1, by omega⟩
    unfold F_X11_copies_2
    simp only [xbp_s, xbd_s, xls, xli, xlt, xjn]
    rw [xw_sm (by omega) (by omega), if_pos (by omega), xgd_t (by omega), xgd_t (by omega), xrow_u, xrow_o (show (127 : Int) ≠ 128 by decide), show ((i : Int) + 1) = ((i + 1 : Nat) : Int) by omega]
    refine ih (i + 1) _ f (by omega) (by omega) (fun x a b => ?_)
    by_cases hx : x = i
    · rw [if_pos hx, hx]
    · rw [if_neg hx]
      exact ha x a (by omega)
theorem copies_m {s : xW} : ∃ arr, (∀ x : Int, 0 ≤ x → x < 40 → arr x = s 127 x) ∧ F_X11_copies s = some (xrow s 128 arr) := by
  obtain ⟨arr, h1, h2⟩ := copies_loop (s0 := s) (k := fun (l1_10 : Int) (s11 : xW) => some s11) 40 0 (s 128) xN (by omega) (by have := xN_ge; omega) (fun x a b => by omega)
  refine ⟨arr, h1, ?_⟩
  unfold F_X11_copies
  rw [xrow_i] at h2
  exact h2
theorem Xmr_cp {σ : xW} {gun day : Int} {r r' : Int → Int} (hn : (0 ≤ σ 0 14 ∧ σ 0 14 ≤ 8) ∧ (0 ≤ σ 92 0 ∧ σ 92 0 ≤ 8)) (h : Xmr σ gun day r) (e : ∀ x : Int, 0 ≤ x → x < 40 → r' x = r x) : Xmr σ gun day r' := by
  obtain ⟨⟨a1, a2, a3, a4, a5, a6⟩, b, c, d, f⟩ := h
  refine ⟨⟨?_, ?_, ?_, ?_, ?_, fun h x y => ?_⟩, ?_, ?_, fun h x y => ?_, fun d x y => ?_⟩
  · rw [e 32 (by decide) (by decide)]; exact a1
  · rw [e 33 (by decide) (by decide)]; exact a2
  · rw [e 34 (by decide) (by decide)]; exact a3
  · rw [e 35 (by decide) (by decide)]; exact a4
  · rw [e 39 (by decide) (by decide)]; exact a5
  · rw [e h (by omega) (by omega), e (8 + h) (by omega) (by omega)]; exact a6 h x y
  · rw [e 32 (by decide) (by decide), e 33 (by decide) (by decide)]; exact b
  · rw [e 39 (by decide) (by decide)]; exact c
  · rw [e h (by omega) (by omega), e (8 + h) (by omega) (by omega)]; exact d h x y
  · rw [e (24 + d) (by omega) (by omega)]; exact f d x y
theorem Xmr_day {σ : xW} {gun day day' : Int} {r r' : Int → Int} (h : Xmr σ gun day r) (hd : 0 ≤ day' ∧ day' ≤ 2000000) (e : ∀ x : Int, x ≠ 39 → r' x = r x) (e2 : r' 39 = day') (hn : σ 0 14 ≤ 8 ∧ σ 92 0 ≤ 8) : Xmr σ gun day' r' := by
  obtain ⟨⟨a1, a2, a3, a4, a5, a6⟩, b, c, d, f⟩ := h
  refine ⟨⟨?_, ?_, ?_, ?_, ?_, fun h x y => ?_⟩, ?_, e2, fun h x y => ?_, fun d x y => ?_⟩
  · rw [e 32 (by decide)]; exact a1
  · rw [e 33 (by decide)]; exact a2
  · rw [e 34 (by decide)]; exact a3
  · rw [e 35 (by decide)]; exact a4
  · rw [e2]; exact hd
  · rw [e h (by omega), e (8 + h) (by omega)]; exact a6 h x y
  · rw [e 32 (by decide), e 33 (by decide)]; exact b
  · rw [e h (by omega), e (8 + h) (by omega)]; exact d h x y
  · rw [e (24 + d) (by omega)]; exact f d x y
