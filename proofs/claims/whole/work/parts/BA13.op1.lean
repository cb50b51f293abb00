/-- a call of both: the same answer, and they stay alike -/
def XO (cf mf : xW → Option (Int × xW)) : Prop := ∀ (B : Int) (σ τ : xW), 0 ≤ B → B ≤ 1000000 → XR B σ τ → ∃ r σ1 τ1, cf σ = some (r, σ1) ∧ mf τ = some (r, τ1) ∧ XR (B + 300) σ1 τ1
def XOp (cf : xW → Option Int) (mf : xW → Option (Int × xW)) : Prop := ∀ (B : Int) (σ τ : xW), 0 ≤ B → B ≤ 1000000 → XR B σ τ → ∃ r τ1, cf σ = some r ∧ mf τ = some (r, τ1) ∧ XR (B + 300) σ τ1
theorem op_forget : XO F_X10_forget F_X11_forget := by
  intro B σ τ hB hB1 h
  obtain ⟨h1, h2, h3, h4, h5, h6, h7, h8, h9, h10⟩ := h
  have eC : F_X10_forget σ = some (σ 100 2, xu σ 100 2 0) := by simp only [F_X10_forget, xbd, xbp, xls, xli, xlt, xjn]
  have eM : F_X11_forget τ = some (σ 100 2, xu (xu τ 121 0 0) 121 42 0) := by
    simp only [F_X11_forget, xbd, xbp, xls, xli, xlt, xjn]
    rw [← h9.2.1]
    rfl
  have hfC := fr_X10_forget eC
  have hfM := fr_X11_forget eM
  refine ⟨_, _, _, eC, eM, ?_⟩
  refine XR_mono (show _ ≤ B + 300 by omega) ⟨Xtext_cW hfC (by decide +kernel) (Xtext_mW hfM (by decide +kernel) h1), Xrow_cW hfC (by decide +kernel) (Xrow_mW hfM (by decide +kernel) h2), Xsky_cW hfC (by decide +kernel) (Xsky_mW hfM (by decide +kernel) h3), Xrule_cW hfC (by decide +kernel) (Xrule_mW hfM (by decide +kernel) h4), Xplan_cW hfC (by decide +kernel) (Xplan_mW hfM (by decide +kernel) h5), Xtown_cW hfC (by decide +kernel) (Xtown_mW hfM (by decide +kernel) h6), Xpast_cW hfC (by decide +kernel) (Xpast_mW hfM (by decide +kernel) h7), Xkept_cW hfC (by decide +kernel) (Xkept_mW hfM (by decide +kernel) h8), ?_, Xforts_cW hfC (by decide +kernel) h10⟩
  unfold Xrep
  simp only [xu]
  refine ⟨by simp, by simp, fun i a b => ?_⟩
  simp at b
  omega
theorem in_eq {a b c : Int} {s : xW} (ha : I64 a) (hb : I64 b) (hc : I64 c) : F_X11_in a b c s = some (if b ≤ a ∧ a ≤ c then 1 else 0) := by
  unfold F_X11_in
  rw [xwl_id ha, xwl_id hb, xwl_id hc]
  repeat' split
  all_goals first | rfl | omega
theorem isHouse_c {a : Int} {σ : xW} (ha : I32 a) (h : 0 ≤ σ 0 14 ∧ σ 0 14 ≤ 8) : F_X10_isHouse a σ = some (if 0 ≤ a ∧ a < σ 0 14 then 1 else 0) := by
  unfold F_X10_isHouse
  simp only [xbd, xbp, xls, xli, xlt, xjn]
  rw [xw_id ha, xw_id (by omega : I32 (σ 0 14)), xgd_t (by (repeat' split) <;> simp)]
  repeat' split
  all_goals first | rfl | omega
theorem isDeed_c {a : Int} {σ : xW} (ha : I32 a) (h : 0 ≤ σ 92 0 ∧ σ 92 0 ≤ 8) : F_X10_isDeed a σ = some (if 0 ≤ a ∧ a < σ 92 0 then 1 else 0) := by
  unfold F_X10_isDeed
  simp only [xbd, xbp, xls, xli, xlt, xjn]
  rw [xw_id ha, xw_id (by omega : I32 (σ 92 0)), xgd_t (by (repeat' split) <;> simp)]
  repeat' split
  all_goals first | rfl | omega
theorem isHouse_m {a : Int} {τ : xW} (ha : I32 a) (h : 0 ≤ τ 121 3 ∧ τ 121 3 ≤ 8) : F_X11_isHouse a τ = some (if 0 ≤ a ∧ a < τ 121 3 then 1 else 0) := by
  unfold F_X11_isHouse
  rw [xw_id ha, xw_id (by omega), in_eq (by omega) (by omega) (by omega)]
  simp only [xbd, xbp, xls, xli, xlt, xjn]
  rw [xgd_t (by split <;> simp)]
  repeat' split
  all_goals first | rfl | omega
theorem isDeed_m {a : Int} {τ : xW} (ha : I32 a) (h : 0 ≤ τ 121 4 ∧ τ 121 4 ≤ 8) : F_X11_isDeed a τ = some (if 0 ≤ a ∧ a < τ 121 4 then 1 else 0) := by
  unfold F_X11_isDeed
  rw [xw_id ha, xw_id (by omega), in_eq (by omega) (by omega) (by omega)]
  simp only [xbd, xbp, xls, xli, xlt, xjn]
  rw [xgd_t (by split <;> simp)]
  repeat' split
  all_goals first | rfl | omega
theorem xif01 {p : Prop} [Decidable p] : xw (if p then 1 else 0) = if p then 1 else 0 := by split <;> rfl
theorem op_end {a : Int} (ha : I32 a) : XO (F_X10_end a) (F_X11_end a) := by
  intro B σ τ hB hB1 h
  obtain ⟨h1, h2, h3, h4, h5, h6, h7, h8, h9, h10⟩ := h
  have h1' := h1
  obtain ⟨t1, t2, t3, t4⟩ := h1'
  by_cases hc : 0 ≤ a ∧ a ≤ σ 1 1
  · have eC : F_X10_end a σ = some (1, xu σ 1 1 a) := by
      simp only [F_X10_end, F_X8_cut, xbd, xbp, xls, xli, xlt, xjn]
      rw [xw_id ha, xw_id (by omega), if_pos hc.1, if_neg (by omega)]
      rfl
    have eM : F_X11_end a τ = some (1, xu (xu τ 121 0 0) 121 15 a) := by
      simp only [F_X11_end, xbd, xbp, xls, xli, xlt, xjn]
      rw [xu_slot _ _ _ (by decide), t3, xw_id ha, xw_id (by omega), in_eq (by omega) (by omega) (by omega), if_pos hc]
      rfl
    have hfC := fr_X10_end eC
    have hfM := fr_X11_end eM
    refine ⟨_, _, _, eC, eM, ?_⟩
    refine XR_mono (show _ ≤ B + 300 by omega) ⟨?_, Xrow_cW hfC (by decide +kernel) (Xrow_mW hfM (by decide +kernel) h2), Xsky_cW hfC (by decide +kernel) (Xsky_mW hfM (by decide +kernel) h3), Xrule_cW hfC (by decide +kernel) (Xrule_mW hfM (by decide +kernel) h4), Xplan_cW hfC (by decide +kernel) (Xplan_mW hfM (by decide +kernel) h5), Xtown_cW hfC (by decide +kernel) (Xtown_mW hfM (by decide +kernel) h6), Xpast_cW hfC (by decide +kernel) (Xpast_mW hfM (by decide +kernel) h7), Xkept_cW hfC (by decide +kernel) (Xkept_mW hfM (by decide +kernel) h8), Xrep_cW hfC (by decide +kernel) (Xrep_mW hfM (by decide +kernel) h9), Xforts_cW hfC (by decide +kernel) h10⟩
    unfold Xtext
    simp only [xu]
    refine ⟨by simp; omega, fun i => by simp; exact t2 i, by simp, fun i a1 b => ?_⟩
    simp at b ⊢
    exact t4 i a1 (by omega)
  · have eC : F_X10_end a σ = some (0, σ) := by
      simp only [F_X10_end, F_X8_cut, xbd, xbp, xls, xli, xlt, xjn]
      rw [xw_id ha, xw_id (by omega)]
      by_cases q : 0 ≤ a
      · rw [if_pos q, if_pos (by omega)]
        rfl
      · rw [if_neg q]
        rfl
    have eM : F_X11_end a τ = some (0, xu τ 121 0 0) := by
      simp only [F_X11_end, xbd, xbp, xls, xli, xlt, xjn]
      rw [xu_slot _ _ _ (by decide), t3, xw_id ha, xw_id (by omega), in_eq (by omega) (by omega) (by omega), if_neg hc]
      rfl
    have hfC := fr_X10_end eC
    have hfM : xfm [(121, 0)] τ (xu τ 121 0 0) := xfm_uO xfm_rf (by decide) rfl
    refine ⟨_, _, _, eC, eM, ?_⟩
    exact XR_mono (by omega) (XR_mW hfM (by decide +kernel) ⟨h1, h2, h3, h4, h5, h6, h7, h8, h9, h10⟩ (Xrow_mW hfM (by decide +kernel) h2))
theorem XR_thr {B : Int} {σ τ : xW} (h : XR B σ τ) : XR B σ (xu τ 121 0 0) := by
  have hfM : xfm [(121, 0)] τ (xu τ 121 0 0) := xfm_uO xfm_rf (by decide) rfl
  exact XR_mW hfM (by decide +kernel) h (Xrow_mW hfM (by decide +kernel) h.2.1)
theorem op_heard {a v : Int} (ha : I32 a) (hv : I32 v) : XO (F_X10_heard a v) (F_X11_heard a v) := by
  intro B σ τ hB hB1 h
  have hh := h
  obtain ⟨h1, h2, h3, h4, h5, h6, h7, h8, h9, h10⟩ := h
  obtain ⟨p1, p2, -⟩ := id h5
  obtain ⟨r1, r2, r3⟩ := id h9
  have m1 : (xu τ 121 0 0) 121 3 = σ 0 14 := by rw [xu_slot _ _ _ (by decide)]; exact p2
  have m2 : (xu τ 121 0 0) 121 42 = σ 100 2 := by rw [xu_slot _ _ _ (by decide)]; exact r2
  by_cases hc : (0 ≤ a ∧ a < σ 0 14) ∧ (0 ≤ v ∧ v ≤ 199) ∧ σ 100 2 < 10
  · obtain ⟨c1, c2, c3⟩ := hc
    have eC : F_X10_heard a v σ = some (σ 100 2 + 1, xu (xu (xu σ 101 (σ 100 2) a) 102 (σ 100 2) v) 100 2 (σ 100 2 + 1)) := by
      simp only [F_X10_heard, F_X5_add, xbd, xbp, xls, xli, xlt, xjn]
      rw [isHouse_c ha p1, if_pos c1]
      simp only []
      rw [xw_id hv, if_pos (by decide), if_pos c2.1, if_pos c2.2, xw_id (by omega), if_neg (by omega), xgd_t (by omega), xgd_t (by simp only [xu]; simp; omega)]
      simp only []
      rw [if_neg (by decide)]
      simp [xu]
    have eM : F_X11_heard a v τ = some (σ 100 2 + 1, xu (xu (xu (xu τ 121 0 0) 146 (σ 100 2) a) 147 (σ 100 2) v) 121 42 (σ 100 2 + 1)) := by
      simp only [F_X11_heard, xbd, xbp, xls, xli, xlt, xjn]
      rw [isHouse_m ha (by rw [m1]; exact p1), m1, if_pos c1]
      simp only []
      rw [if_pos (by decide), xw_id hv, in_eq (by omega) (by omega) (by omega), if_pos c2]
      simp only []
      rw [if_pos (by decide), m2, xw_id (by omega), if_neg (by omega), xgd_t (by omega), xgd_t (by simp only [xu]; simp; omega)]
      simp [xu, r2]
    have hfC := fr_X10_heard eC
    have hfM := fr_X11_heard eM
    refine ⟨_, _, _, eC, eM, ?_⟩
    refine XR_mono (show _ ≤ B + 300 by omega) ⟨Xtext_cW hfC (by decide +kernel) (Xtext_mW hfM (by decide +kernel) h1), Xrow_cW hfC (by decide +kernel) (Xrow_mW hfM (by decide +kernel) h2), Xsky_cW hfC (by decide +kernel) (Xsky_mW hfM (by decide +kernel) h3), Xrule_cW hfC (by decide +kernel) (Xrule_mW hfM (by decide +kernel) h4), Xplan_cW hfC (by decide +kernel) (Xplan_mW hfM (by decide +kernel) h5), Xtown_cW hfC (by decide +kernel) (Xtown_mW hfM (by decide +kernel) h6), Xpast_cW hfC (by decide +kernel) (Xpast_mW hfM (by decide +kernel) h7), Xkept_cW hfC (by decide +kernel) (Xkept_mW hfM (by decide +kernel) h8), ?_, Xforts_cW hfC (by decide +kernel) h10⟩
    unfold Xrep
    refine ⟨by simp [xu]; omega, by simp [xu], fun i x y => ?_⟩
    simp [xu] at y
    by_cases hi : i = σ 100 2
    · subst hi
      simp [xu]
      omega
    · have := r3 i x (by omega)
      simp [xu, hi]
      exact this
  · have eC : F_X10_heard a v σ = some (-1, σ) := by
      simp only [F_X10_heard, F_X5_add, xbd, xbp, xls, xli, xlt, xjn]
      rw [isHouse_c ha p1]
      simp only []
      rw [xif01]
      by_cases q1 : 0 ≤ a ∧ a < σ 0 14
      · rw [if_pos q1, if_pos (by decide), xw_id hv]
        by_cases q2 : 0 ≤ v
        · rw [if_pos q2]
          by_cases q3 : v ≤ 199
          · rw [if_pos q3, xw_id (by omega), if_pos (by omega)]
            rfl
          · rw [if_neg q3]
        · rw [if_neg q2]
      · rw [if_neg q1, if_neg (by decide)]
    have eM : F_X11_heard a v τ = some (-1, xu τ 121 0 0) := by
      simp only [F_X11_heard, xbd, xbp, xls, xli, xlt, xjn]
      rw [isHouse_m ha (by rw [m1]; exact p1), m1]
      simp only []
      rw [xif01]
      by_cases q1 : 0 ≤ a ∧ a < σ 0 14
      · rw [if_pos q1, if_pos (by decide), xw_id hv, in_eq (by omega) (by omega) (by omega)]
        simp only []
        rw [xif01]
        by_cases q2 : 0 ≤ v ∧ v ≤ 199
        · rw [if_pos q2, if_pos (by decide), m2, xw_id (by omega), if_pos (by omega)]
        · rw [if_neg q2, if_neg (by decide)]
      · rw [if_neg q1, if_neg (by decide)]
    exact ⟨_, _, _, eC, eM, XR_mono (by omega) (XR_thr hh)⟩
/-! winds and damps on a day -/
def xday (n : Int) (f : Int → Int) (d : Int) : Int := f (d % n)
theorem of_c {a d : Int} {σ : xW} (ha : a = 5 ∨ a = 7) (hn : 1 ≤ σ a 1 ∧ σ a 1 ≤ 20) (hd : 0 ≤ d ∧ d ≤ 2000000) : F_X1_of a d σ = some (xday (σ a 1) (σ (a + 1)) d) := by
  have e1 := Int.emod_nonneg d (show σ a 1 ≠ 0 by omega)
  have e2 := Int.emod_lt_of_pos d (show 0 < σ a 1 by omega)
  simp only [F_X1_of, xbd, xbp, xls, xli, xlt, xjn]
  rw [xgd_t (by rcases ha with rfl | rfl <;> decide), xw_id (by omega), xw_id (by omega), Int.tmod_eq_emod_of_nonneg hd.1, if_pos (by omega), if_pos (by omega), xgd_t (by omega), xgd_t (by omega)]
  rfl
theorem windOn_m {d n : Int} {f : Int → Int} {τ : xW} (h : Xdig n f (τ 121 6) (τ 123)) (hd : 0 ≤ d ∧ d ≤ 2000000) : F_X11_windOn d τ = some (xday n f d) := by
  obtain ⟨n1, n2, n3, n4⟩ := h
  have e1 := Int.emod_nonneg d (show n ≠ 0 by omega)
  have e2 := Int.emod_lt_of_pos d (show 0 < n by omega)
  simp only [F_X11_windOn]
  rw [n3, xw_id (by omega), xw_id (by omega), Int.tmod_eq_emod_of_nonneg hd.1, xgd_t (by omega), xgd_t (by omega), n4 _ e1 e2]
  rfl
theorem dampOn_m {d n : Int} {f : Int → Int} {τ : xW} (h : Xdig n f (τ 121 7) (τ 124)) (hd : 0 ≤ d ∧ d ≤ 2000000) : F_X11_dampOn d τ = some (xday n f d) := by
  obtain ⟨n1, n2, n3, n4⟩ := h
  have e1 := Int.emod_nonneg d (show n ≠ 0 by omega)
  have e2 := Int.emod_lt_of_pos d (show 0 < n by omega)
  simp only [F_X11_dampOn]
  rw [n3, xw_id (by omega), xw_id (by omega), Int.tmod_eq_emod_of_nonneg hd.1, xgd_t (by omega), xgd_t (by omega), n4 _ e1 e2]
  rfl
theorem xday_r {n m : Int} {f g : Int → Int} (h : Xdig n f m g) (d : Int) : 0 ≤ xday n f d ∧ xday n f d ≤ 9 := h.2.1 _
theorem op_count {a : Int} (ha : I32 a) : XOp (F_X10_count a) (F_X11_count a) := by
  intro B σ τ hB hB1 h
  have hh := h
  obtain ⟨h1, h2, h3, h4, h5, h6, h7, h8, h9, h10⟩ := h
  have hd := h6.1.1.2.2.2.2.2
  have hg := h6.1.1.1
  obtain ⟨⟨⟨g1, g2, g3⟩, -, b2, b3, b4, b5⟩, -⟩ := h6.2
  have hr := XR_thr hh
  have w1 := windOn_m (d := σ 17 5) (τ := xu τ 121 0 0) hr.2.2.1.1 (by omega)
  have w2 := dampOn_m (d := σ 17 5) (τ := xu τ 121 0 0) hr.2.2.1.2 (by omega)
  have w3 := of_c (a := 5) (d := σ 17 5) (σ := σ) (Or.inl rfl) h3.1.1 (by omega)
  have w4 := of_c (a := 7) (d := σ 17 5) (σ := σ) (Or.inr rfl) h3.2.1 (by omega)
  have key : ∃ r, F_X10_count a σ = some r ∧ F_X11_count a τ = some (r, xu τ 121 0 0) := by
    simp only [F_X10_count, F_X11_count, xbd, xbp, xls, xli, xlt, xjn]
    rw [xw_id ha]
    have q : ∀ k, (xu τ 121 0 0) 127 k = τ 127 k := fun k => by simp [xu]
    have q2 : ∀ k, k ≠ 0 → (xu τ 121 0 0) 121 k = τ 121 k := fun k hk => by simp [xu, hk]
    simp only [q, q2 3 (by decide), q2 4 (by decide), q2 42 (by decide), q2 28 (by decide), q2 1 (by decide), q2 15 (by decide), h5.2.1, h5.2.2.2.1, ← b5, ← b2, ← b3, ← b4, h9.2.1, h7.2.2.1, h2.2.1, h1.2.2.1, w1, w2, w3, w4]
    rw [xw_id (by omega), Int.tdiv_eq_ediv_of_nonneg hg.1, Int.tmod_eq_emod_of_nonneg hg.1, show σ 17 0 / 10 = τ 127 32 by omega, show σ 17 0 % 10 = τ 127 33 by omega]
    by_cases q0 : a = 0
    · rw [if_pos q0, if_pos q0]
      exact ⟨_, rfl, rfl⟩
    rw [if_neg q0, if_neg q0]
    by_cases q1 : a = 1
    · rw [if_pos q1, if_pos q1]
      exact ⟨_, rfl, rfl⟩
    rw [if_neg q1, if_neg q1]
    by_cases q2 : a = 2
    · rw [if_pos q2, if_pos q2]
      exact ⟨_, rfl, rfl⟩
    rw [if_neg q2, if_neg q2]
    by_cases q3 : a = 3
    · rw [if_pos q3, if_pos q3]
      exact ⟨_, rfl, rfl⟩
    rw [if_neg q3, if_neg q3]
    by_cases q4 : a = 4
    · rw [if_pos q4, if_pos q4]
      exact ⟨_, rfl, rfl⟩
    rw [if_neg q4, if_neg q4]
    by_cases q5 : a = 5
    · rw [if_pos q5, if_pos q5]
      exact ⟨_, rfl, rfl⟩
    rw [if_neg q5, if_neg q5]
    by_cases q6 : a = 6
    · rw [if_pos q6, if_pos q6]
      exact ⟨_, rfl, rfl⟩
    rw [if_neg q6, if_neg q6]
    by_cases q7 : a = 7
    · rw [if_pos q7, if_pos q7]
      exact ⟨_, rfl, rfl⟩
    rw [if_neg q7, if_neg q7]
    by_cases q8 : a = 8
    · rw [if_pos q8, if_pos q8]
      exact ⟨_, rfl, rfl⟩
    rw [if_neg q8, if_neg q8]
    by_cases q9 : a = 9
    · rw [if_pos q9, if_pos q9]
      exact ⟨_, rfl, rfl⟩
    rw [if_neg q9, if_neg q9]
    by_cases q10 : a = 10
    · rw [if_pos q10, if_pos q10]
      exact ⟨_, rfl, rfl⟩
    rw [if_neg q10, if_neg q10]
    by_cases q11 : a = 11
    · rw [if_pos q11, if_pos q11]
      exact ⟨_, rfl, rfl⟩
    rw [if_neg q11, if_neg q11]
    by_cases q12 : a = 12
    · rw [if_pos q12, if_pos q12]
      exact ⟨_, rfl, rfl⟩
    rw [if_neg q12, if_neg q12]
    by_cases q13 : a = 13
    · rw [if_pos q13, if_pos q13]
      exact ⟨_, rfl, rfl⟩
    rw [if_neg q13, if_neg q13]
    exact ⟨_, rfl, rfl⟩
  obtain ⟨r, k1, k2⟩ := key
  exact ⟨r, _, k1, k2, XR_mono (by omega) hr⟩
