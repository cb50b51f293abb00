/-! rule: a sign of the class -/
def Xpv (S : XPS) (i : Nat) : Prop := S.1.length + S.2.1.length ≤ i ∧ (∀ t ∈ S.2.1, (40 ≤ t ∧ t ≤ 126) ∧ (t = 40 ∨ 1 ≤ xbnd t)) ∧ ((S.2.1.count 40 : Nat) : Int) = S.2.2.1 ∧ S.2.2.1 ≤ 4 ∧ (S.2.2.2.2 = 0 ∨ S.2.2.2.2 = 1) ∧ (S.2.2.2.2 = 0 → S.1 ≠ [] ∧ 1 ≤ S.2.2.2.1 ∧ S.2.2.2.1 ≤ 3)
theorem snoc_of {l : List Int} (h : l ≠ []) : ∃ a b, l = a ++ [b] := ⟨l.dropLast, l.getLast h, (List.dropLast_concat_getLast h).symm⟩
theorem begins_c {σ s : xW} {a ch : Int} {o st : List Int} {dep dig : Int} {i : Nat} (ha : a = 9 ∨ a = 13) (hi : i < 40) (hc : 0 ≤ ch ∧ ch ≤ 255) (hv : Xpv (o, st, dep, dig, 1) i) (h : Xps σ s a (o, st, dep, dig, 1)) : ∃ r s' S', F_X7_beginsThing a ch s = some (r, s') ∧ Xps σ s' a S' ∧ ((r = 1 ∧ xpst (o, st, dep, dig, 1) ch = some S') ∨ (r = 0 ∧ xpst (o, st, dep, dig, 1) ch = none)) := by
  have hR : a ∈ xRules := by rcases ha with w | w <;> rw [w] <;> decide
  obtain ⟨v1, v2, v3, v4, v5, v6⟩ := hv
  simp only at v1 v2 v3 v4
  have hl := xlet_r ch
  unfold F_X7_beginsThing
  rw [xgd_t hR, xlet_c hc, xw_sm (x := ch) (by omega) (by omega)]
  unfold xpst
  simp only
  rw [if_pos (show (1 : Int) ≠ 0 by decide)]
  by_cases z1 : ch = 45
  · obtain ⟨s', u1, u2⟩ := await_c (v := 126) ha h (by omega) (by decide)
    rw [if_pos z1, if_pos z1, u1]
    exact ⟨1, s', _, rfl, u2, Or.inl ⟨rfl, rfl⟩⟩
  · rw [if_neg z1, if_neg z1]
    by_cases z2 : ch = 40
    · have h5 : s a 5 = dep := h.2.2.2.2.2.1
      obtain ⟨s', u1, u2⟩ := await_c (v := ch) ha (set5_c (v := dep + 1) h).1 (by omega) hc
      have h5' : s' a 5 = dep + 1 := u2.2.2.2.2.2.1
      rw [if_pos z2, if_pos z2, h5]
      simp only [xls, xlt]
      rw [u1]
      simp only [xbp_s, xbd_s, xls, xli, xlt, xjn]
      rw [h5', xw_sm (x := dep + 1) (by omega) (by omega)]
      by_cases z3 : dep + 1 ≤ 4
      · rw [if_pos z3, if_pos z3, xgd_t (by decide)]
        rw [z2] at u2
        exact ⟨1, s', _, rfl, u2, Or.inl ⟨rfl, rfl⟩⟩
      · rw [if_neg z3, if_neg z3, xgd_t (by decide)]
        exact ⟨0, s', _, rfl, u2, Or.inr ⟨rfl, rfl⟩⟩
    · rw [if_neg z2, if_neg z2]
      by_cases z3 : 48 ≤ ch ∧ ch ≤ 57
      · obtain ⟨s', u1, u2⟩ := step_c (v := ch - 48) ha h (by omega)
        rw [if_pos z3.1, if_pos z3.2, if_pos z3]
        simp only [xbp_s, xbd_s, xls, xli, xlt, xjn]
        rw [if_neg (show ¬ xw 1 = 0 by decide), if_pos (show xw 1 ≠ 0 by decide), u1]
        simp only [xbp_s, xbd_s, xls, xli, xlt, xjn]
        rw [if_pos (show xw 1 ≠ 0 by decide)]
        exact ⟨1, _, _, rfl, (set5_c (v := 0) (set5_c (v := 1) u2).2.1).2.2, Or.inl ⟨rfl, rfl⟩⟩
      · have e0 : (if 48 ≤ ch then if ch ≤ 57 then (1 : Int) else 0 else 0) = 0 := by
          by_cases w : 48 ≤ ch
          · rw [if_pos w, if_neg (fun u => z3 ⟨w, u⟩)]
          · rw [if_neg w]
        rw [e0, if_neg z3]
        simp only [xbp_s, xbd_s, xls, xli, xlt, xjn]
        rw [if_pos (show xw 0 = 0 by decide), xw_sm (x := xlet ch) (by omega) (by omega)]
        by_cases z4 : xlet ch < 0
        · rw [if_pos z4, if_pos z4]
          exact ⟨0, s, _, rfl, h, Or.inr ⟨rfl, rfl⟩⟩
        · obtain ⟨s', u1, u2⟩ := step_c (v := 1000 + xlet ch) ha h (by omega)
          rw [if_neg z4, if_neg z4, if_neg (show ¬ xw 0 ≠ 0 by decide), u1]
          simp only [xbp_s, xbd_s, xls, xli, xlt, xjn]
          rw [if_neg (show ¬ xw 0 ≠ 0 by decide)]
          exact ⟨1, _, _, rfl, (set5_c (v := 0) (set5_c (v := 3) u2).2.1).2.2, Or.inl ⟨rfl, rfl⟩⟩
theorem goes_c {σ s : xW} {a ch : Int} {o st : List Int} {dep dig : Int} {i : Nat} (ha : a = 9 ∨ a = 13) (hi : i < 40) (hc : 48 ≤ ch ∧ ch ≤ 57) (hv : Xpv (o, st, dep, dig, 0) i) (h : Xps σ s a (o, st, dep, dig, 0)) : ∃ r s' S', F_X7_goesOnNumber a ch s = some (r, s') ∧ Xps σ s' a S' ∧ ((r = 1 ∧ xpst (o, st, dep, dig, 0) ch = some S') ∨ (r = 0 ∧ xpst (o, st, dep, dig, 0) ch = none)) := by
  have hR : a ∈ xRules := by rcases ha with w | w <;> rw [w] <;> decide
  obtain ⟨v1, v2, v3, v4, v5, v6⟩ := hv
  obtain ⟨v7, v8⟩ := v6 rfl
  simp only at v1 v7 v8
  obtain ⟨o1, x, hox⟩ := snoc_of v7
  have h6 : s a 6 = dig := h.2.2.2.2.2.2.1
  have h2 : s a 1 = (o.length : Int) := h.2.1
  have hol : o.length = o1.length + 1 := by rw [hox, List.length_append]; rfl
  unfold F_X7_goesOnNumber
  rw [xgd_t hR, h6, h2, xw_sm (x := dig) (by omega) (by omega), xw_sm (x := (o.length : Int)) (by omega) (by omega)]
  simp only [xbp_s, xbd_s, xls, xli, xlt, xjn]
  unfold xpst
  simp only
  rw [if_neg (show ¬ (0 : Int) ≠ 0 by decide), if_pos hc]
  by_cases z : dig < 3
  · have hx : s (a + 1) (o1.length : Int) = x := by
      have := h.2.2.1
      simp only at this
      rw [hox] at this
      exact (Xmem_i this).2
    have e1 : ∀ v : Int, (xu s a 6 v) a 1 = (o1.length : Int) + 1 := fun v => by rw [xu_slot _ _ _ (show (1 : Int) ≠ 6 by decide), h2]; omega
    have e2 : ∀ v : Int, (xu s a 6 v) (a + 1) (o1.length : Int) = x := fun v => by rw [xu_row _ _ _ (show a + 1 ≠ a by omega)]; exact hx
    rw [if_pos z, if_pos z, if_neg (by omega), e1, show (o1.length : Int) + 1 - 1 = o1.length by omega, e2, xgd_t (by omega), xgd_t (by omega)]
    have ed : o.dropLast = o1 := by rw [hox]; simp
    have el : o.getLastD 0 = x := by rw [hox]; simp
    rw [ed, el]
    refine ⟨1, _, (o1 ++ [x * 10 + (ch - 48)], st, dep, dig + 1, 0), rfl, ?_, Or.inl ⟨rfl, rfl⟩⟩
    obtain ⟨p1, p2, p3, p4, p5, p6, p7, p8⟩ := (set5_c (v := dig + 1) h).2.1
    simp only at p2 p3 p4 p5 p6 p7 p8
    rw [hox] at p3
    refine ⟨fun c c1 c2 c3 => by rw [xu_row _ _ _ c2]; exact p1 c c1 c2 c3, ?_, ?_, ?_, ?_, ?_, ?_, ?_⟩
    · simp only
      rw [xu_row _ _ _ (show a ≠ a + 1 by omega), p2, hol, List.length_append]
      rfl
    · simp only
      exact Xmem_p (Xmem_i p3).1
    · simp only
      rw [xu_row _ _ _ (show a ≠ a + 1 by omega)]; exact p4
    · simp only
      exact Xmem_o p5 (fun j _ => by rw [xu_row _ _ _ (show a + 3 ≠ a + 1 by omega)])
    · simp only
      rw [xu_row _ _ _ (show a ≠ a + 1 by omega)]; exact p6
    · simp only
      rw [xu_row _ _ _ (show a ≠ a + 1 by omega)]; exact p7
    · simp only
      rw [xu_row _ _ _ (show a ≠ a + 1 by omega)]; exact p8
  · rw [if_neg z, if_neg z]
    exact ⟨0, s, _, rfl, h, Or.inr ⟨rfl, rfl⟩⟩
theorem closes_c {σ s : xW} {a : Int} {o st : List Int} {dep dig : Int} {i : Nat} (ha : a = 9 ∨ a = 13) (hi : i < 40) (hv : Xpv (o, st, dep, dig, 0) i) (h : Xps σ s a (o, st, dep, dig, 0)) : ∃ r s' S', F_X7_closes a s = some (r, s') ∧ Xps σ s' a S' ∧ ((r = 1 ∧ xpst (o, st, dep, dig, 0) 41 = some S') ∨ (r = 0 ∧ xpst (o, st, dep, dig, 0) 41 = none)) := by
  have hR : a ∈ xRules := by rcases ha with w | w <;> rw [w] <;> decide
  obtain ⟨v1, v2, v3, v4, v5, v6⟩ := hv
  obtain ⟨v7, v8⟩ := v6 rfl
  simp only at v1 v2 v3 v4 v7 v8
  have h5 : s a 5 = dep := h.2.2.2.2.2.1
  have h4 : s a 4 = (st.length : Int) := h.2.2.2.1
  have hol : 1 ≤ o.length := by
    cases o with
    | nil => exact absurd rfl v7
    | cons _ _ => rw [List.length_cons]; omega
  unfold F_X7_closes
  rw [xgd_t hR, h5, h4, xw_sm (x := dep) (by omega) (by omega), xw_sm (x := (st.length : Int)) (by omega) (by omega)]
  simp only [xbp_s, xbd_s, xls, xli, xlt, xjn]
  unfold xpst
  simp only
  rw [if_neg (show ¬ (0 : Int) ≠ 0 by decide), if_neg (show ¬ ((48 : Int) ≤ 41 ∧ (41 : Int) ≤ 57) by decide), if_pos trivial]
  by_cases z : dep ≠ 0
  · have hst : ¬ (st.length : Int) = 0 := fun w => by
      have : st = [] := List.eq_nil_of_length_eq_zero (by omega)
      rw [this] at v3
      exact z v3.symm
    rw [if_pos z, if_pos z, if_neg hst]
    obtain ⟨s1, u1, u2⟩ := settle_c (L := 1) ha (by decide) (by omega) (by omega) (fun t ht => by have := v2 t ht; omega) h
    have hl := xstl_l 1 st o
    have h40 := xstl_40 1 (by decide) st o
    rw [u1]
    simp only [xbp_s, xbd_s, xls, xli, xlt, xjn]
    cases hq : (xstl 1 o st).2 with
    | nil =>
      rw [hq] at h40
      have h40' : st.count 40 = 0 := h40.symm
      rw [h40'] at v3
      exact absurd v3.symm z
    | cons t st' =>
      rw [hq] at u2
      have p := pop_c u2
      have e5 : (xu s1 a 4 (s1 a 4 - 1)) a 5 = dep := p.1.2.2.2.2.2.1
      rw [e5]
      exact ⟨1, _, _, rfl, (set5_c (v := 3) (set5_c (v := dep - 1) p.1).1).2.1, Or.inl ⟨rfl, rfl⟩⟩
  · rw [if_neg z, if_neg z]
    exact ⟨0, s, _, rfl, h, Or.inr ⟨rfl, rfl⟩⟩
theorem joins_c {σ s : xW} {a ch : Int} {o st : List Int} {dep dig : Int} {i : Nat} (ha : a = 9 ∨ a = 13) (hi : i < 40) (hc : 0 ≤ ch ∧ ch ≤ 255) (hd : ¬ (48 ≤ ch ∧ ch ≤ 57)) (h41 : ¬ ch = 41) (hv : Xpv (o, st, dep, dig, 0) i) (h : Xps σ s a (o, st, dep, dig, 0)) : ∃ r s' S', F_X7_joins a ch s = some (r, s') ∧ Xps σ s' a S' ∧ ((r = 1 ∧ xpst (o, st, dep, dig, 0) ch = some S') ∨ (r = 0 ∧ xpst (o, st, dep, dig, 0) ch = none)) := by
  have hR : a ∈ xRules := by rcases ha with w | w <;> rw [w] <;> decide
  obtain ⟨v1, v2, v3, v4, v5, v6⟩ := hv
  obtain ⟨v7, v8⟩ := v6 rfl
  simp only at v1 v2 v3 v4 v7 v8
  have hol : 1 ≤ o.length := by
    cases o with
    | nil => exact absurd rfl v7
    | cons _ _ => rw [List.length_cons]; omega
  have hb := xbnd_r ch
  unfold F_X7_joins
  rw [xgd_t hR, binding_c (by omega)]
  simp only [xbp_s, xbd_s, xls, xli, xlt, xjn]
  rw [xw_sm (x := ch) (by omega) (by omega), xw_sm (x := xbnd ch) (by omega) (by omega)]
  unfold xpst
  simp only
  rw [if_neg (show ¬ (0 : Int) ≠ 0 by decide), if_neg hd, if_neg h41]
  by_cases z : xbnd ch = 0 ∨ ch = 126
  · rw [if_pos z]
    refine ⟨0, s, _, ?_, h, Or.inr ⟨rfl, rfl⟩⟩
    by_cases w : xbnd ch = 0
    · rw [if_neg (fun u => u w)]
    · rw [if_pos w, if_pos (by omega)]
  · rw [if_neg z, if_pos (show xbnd ch ≠ 0 by omega), if_neg (show ¬ ch = 126 by omega)]
    have hL : 1 ≤ max (xbnd ch) 2 ∧ max (xbnd ch) 2 ≤ 4 := by omega
    obtain ⟨s1, u1, u2⟩ := settle_c (L := max (xbnd ch) 2) ha hL (by omega) (by omega) (fun t ht => by have := v2 t ht; omega) h
    have hl := xstl_l (max (xbnd ch) 2) st o
    obtain ⟨q, hq⟩ : ∃ q, q = xstl (max (xbnd ch) 2) o st := ⟨_, rfl⟩
    rw [← hq] at u2 hl ⊢
    obtain ⟨l1, l2, l3⟩ := hl
    have hlast := last_c ha u2 (by simp only; omega) (fun t ht => by have := v2 t (l3 t ht); omega)
    simp only at hlast
    have hhd : 0 ≤ q.2.headD 0 ∧ q.2.headD 0 ≤ 255 := by
      cases hq2 : q.2 with
      | nil => decide
      | cons t st' =>
        have := v2 t (l3 t (by rw [hq2]; exact List.mem_cons_self))
        show 0 ≤ t ∧ t ≤ 255
        omega
    obtain ⟨s2, u3, u4⟩ := await_c (v := ch) ha u2 (by omega) hc
    have hp := (set5_c (v := 1) u4).2.2
    rw [u1]
    simp only [xbp_s, xbd_s, xls, xli, xlt, xjn]
    rw [hlast]
    simp only [xbp_s, xbd_s, xls, xli, xlt, xjn]
    rw [binding_c (by omega)]
    simp only [xbp_s, xbd_s, xls, xli, xlt, xjn]
    have hb2 := xbnd_r (q.2.headD 0)
    rw [u3, xw_sm (x := xbnd (q.2.headD 0)) (by omega) (by omega)]
    simp only [xbp_s, xbd_s, xls, xli, xlt, xjn]
    rw [if_neg (show ¬ xw 1 = 0 by decide), if_pos (show xw 0 = 0 by decide), xgd_t (by decide), xgd_t (by decide)]
    by_cases z1 : xbnd ch = 1
    · rw [if_pos z1]
      by_cases z2 : xbnd (q.2.headD 0) = 1
      · rw [if_pos z2, if_pos ⟨z1, z2⟩]
        exact ⟨0, _, _, rfl, hp, Or.inr ⟨rfl, rfl⟩⟩
      · rw [if_neg z2, if_neg (fun w => z2 w.2)]
        exact ⟨1, _, _, rfl, hp, Or.inl ⟨rfl, rfl⟩⟩
    · rw [if_neg z1, if_neg (fun w => z1 w.1)]
      exact ⟨1, _, _, rfl, hp, Or.inl ⟨rfl, rfl⟩⟩
theorem accepts_c {σ s : xW} {a ch : Int} {S : XPS} {i : Nat} (ha : a = 9 ∨ a = 13) (hi : i < 40) (hc : 0 ≤ ch ∧ ch ≤ 255) (hv : Xpv S i) (h : Xps σ s a S) : ∃ r s' S', F_X7_accepts a ch s = some (r, s') ∧ Xps σ s' a S' ∧ ((r = 1 ∧ xpst S ch = some S') ∨ (r = 0 ∧ xpst S ch = none)) := by
  obtain ⟨o, st, dep, dig, want⟩ := S
  have hR : a ∈ xRules := by rcases ha with w | w <;> rw [w] <;> decide
  have h7 : s a 7 = want := h.2.2.2.2.2.2.2
  unfold F_X7_accepts
  rw [xgd_t hR, h7, xw_sm (x := ch) (by omega) (by omega)]
  rcases hv.2.2.2.2.1 with w | w
  · have w : want = 0 := w
    subst w
    rw [if_neg (show ¬ xw 0 ≠ 0 by decide)]
    simp only [xjn]
    by_cases z : 48 ≤ ch ∧ ch ≤ 57
    · obtain ⟨r, s', S', u1, u2, u3⟩ := goes_c ha hi z hv h
      rw [if_pos z.1, if_pos z.2, u1]
      simp only [xbd_n]
      rw [xgd_t (by omega)]
      exact ⟨r, s', S', rfl, u2, u3⟩
    · have e : ∀ x y : Option (Int × xW), (if 48 ≤ ch then if ch ≤ 57 then x else y else y) = y := fun x y => by
        by_cases w : 48 ≤ ch
        · rw [if_pos w, if_neg (fun u => z ⟨w, u⟩)]
        · rw [if_neg w]
      rw [e]
      by_cases z2 : ch = 41
      · obtain ⟨r, s', S', u1, u2, u3⟩ := closes_c ha hi hv h
        rw [if_pos z2, u1]
        simp only [xbd_n]
        rw [xgd_t (by omega), z2]
        exact ⟨r, s', S', rfl, u2, u3⟩
      · obtain ⟨r, s', S', u1, u2, u3⟩ := joins_c ha hi hc z z2 hv h
        rw [if_neg z2, u1]
        simp only [xbd_n]
        rw [xgd_t (by omega)]
        exact ⟨r, s', S', rfl, u2, u3⟩
  · have w : want = 1 := w
    subst w
    obtain ⟨r, s', S', u1, u2, u3⟩ := begins_c ha hi hc hv h
    rw [if_pos (show xw 1 ≠ 0 by decide), u1]
    simp only [xbd_n]
    rw [xgd_t (by omega)]
    exact ⟨r, s', S', rfl, u2, u3⟩
theorem Xpv_s {S S' : XPS} {ch : Int} {i : Nat} (hc : 0 ≤ ch ∧ ch ≤ 255) (hv : Xpv S i) (h : xpst S ch = some S') : Xpv S' (i + 1) := by
  obtain ⟨o, st, dep, dig, want⟩ := S
  obtain ⟨v1, v2, v3, v4, v5, v6⟩ := hv
  simp only at v1 v2 v3 v4 v5 v6
  unfold xpst at h
  simp only at h
  by_cases z : want ≠ 0
  · rw [if_pos z] at h
    by_cases z1 : ch = 45
    · rw [if_pos z1] at h
      injection h with h
      rw [← h]
      refine ⟨by simp only [List.length_cons]; omega, fun t ht => ?_, ?_, v4, Or.inr rfl, fun w => by simp only at w; omega⟩
      · rcases List.mem_cons.1 ht with w | w
        · rw [w]; decide
        · exact v2 t w
      · simp only
        rw [List.count_cons]
        exact v3
    · rw [if_neg z1] at h
      by_cases z2 : ch = 40
      · rw [if_pos z2] at h
        by_cases z3 : dep + 1 ≤ 4
        · rw [if_pos z3] at h
          injection h with h
          rw [← h]
          refine ⟨by simp only [List.length_cons]; omega, fun t ht => ?_, ?_, z3, Or.inr rfl, fun w => by simp only at w; omega⟩
          · rcases List.mem_cons.1 ht with w | w
            · rw [w]; decide
            · exact v2 t w
          · simp only
            rw [List.count_cons]
            simp only [beq_self_eq_true, if_true]
            omega
        · rw [if_neg z3] at h
          exact nomatch h
      · rw [if_neg z2] at h
        by_cases z3 : 48 ≤ ch ∧ ch ≤ 57
        · rw [if_pos z3] at h
          injection h with h
          rw [← h]
          exact ⟨by simp only [List.length_append, List.length_cons, List.length_nil]; omega, v2, v3, v4, Or.inl rfl, fun _ => ⟨by simp, (by decide : (1 : Int) ≤ 1), (by decide : (1 : Int) ≤ 3)⟩⟩
        · rw [if_neg z3] at h
          by_cases z4 : xlet ch < 0
          · rw [if_pos z4] at h
            exact nomatch h
          · rw [if_neg z4] at h
            injection h with h
            rw [← h]
            exact ⟨by simp only [List.length_append, List.length_cons, List.length_nil]; omega, v2, v3, v4, Or.inl rfl, fun _ => ⟨by simp, (by decide : (1 : Int) ≤ 3), (by decide : (3 : Int) ≤ 3)⟩⟩
  · rw [if_neg z] at h
    have v7 := v6 (by omega)
    by_cases z1 : 48 ≤ ch ∧ ch ≤ 57
    · rw [if_pos z1] at h
      by_cases z2 : dig < 3
      · rw [if_pos z2] at h
        injection h with h
        rw [← h]
        refine ⟨by simp only [List.length_append, List.length_cons, List.length_nil, List.length_dropLast]; omega, v2, v3, v4, Or.inl rfl, fun _ => ⟨by simp, by simp only; omega, by simp only; omega⟩⟩
      · rw [if_neg z2] at h
        exact nomatch h
    · rw [if_neg z1] at h
      by_cases z2 : ch = 41
      · rw [if_pos z2] at h
        by_cases z3 : dep ≠ 0
        · rw [if_pos z3] at h
          injection h with h
          rw [← h]
          have hl := xstl_l 1 st o
          have h40 := xstl_40 1 (by decide) st o
          cases hq : (xstl 1 o st).2 with
          | nil =>
            rw [hq] at h40
            have h40' : st.count 40 = 0 := h40.symm
            rw [h40'] at v3
            exact absurd v3.symm z3
          | cons t st' =>
            have hall : ∀ (st o : List Int) (t : Int) (st' : List Int), (∀ x ∈ st, (40 ≤ x ∧ x ≤ 126) ∧ (x = 40 ∨ 1 ≤ xbnd x)) → (xstl 1 o st).2 = t :: st' → xbnd t = 0 := fun st => by
              induction st with
              | nil => intro o t st' _ w; exact nomatch w
              | cons x st ih =>
                intro o t st' hx w
                rw [xstl_c] at w
                by_cases y : 1 ≤ xbnd x
                · rw [if_pos y] at w
                  exact ih _ t st' (fun u hu => hx u (List.mem_cons_of_mem _ hu)) w
                · rw [if_neg y] at w
                  injection w with w1 w2
                  rw [← w1]
                  have := xbnd_r x
                  omega
            rw [hq] at hl h40
            rw [List.length_cons] at hl
            rw [List.count_cons] at h40
            refine ⟨by simp only [List.tail_cons]; omega, fun x hx => ?_, ?_, by simp only; omega, Or.inl rfl, fun _ => ⟨?_, (by decide : (1 : Int) ≤ 3), (by decide : (3 : Int) ≤ 3)⟩⟩
            · simp only [List.tail_cons] at hx
              exact v2 x (hl.2.2 x (List.mem_cons_of_mem _ hx))
            · simp only [List.tail_cons]
              have h0 := hall st o t st' v2 hq
              have ht := v2 t (hl.2.2 t List.mem_cons_self)
              have h1 : t = 40 := by omega
              rw [h1] at h40
              simp only [beq_self_eq_true, if_true] at h40
              omega
            · simp only
              intro w
              have := hl.2.1
              rw [w] at this
              have ho : o.length = 0 := by simpa using this
              exact v7.1 (List.eq_nil_of_length_eq_zero ho)
        · rw [if_neg z3] at h
          exact nomatch h
      · rw [if_neg z2] at h
        by_cases z3 : xbnd ch = 0 ∨ ch = 126
        · rw [if_pos z3] at h
          exact nomatch h
        · rw [if_neg z3] at h
          by_cases z4 : xbnd ch = 1 ∧ xbnd ((xstl (max (xbnd ch) 2) o st).2.headD 0) = 1
          · rw [if_pos z4] at h
            exact nomatch h
          · rw [if_neg z4] at h
            injection h with h
            rw [← h]
            have hl := xstl_l (max (xbnd ch) 2) st o
            have h40 := xstl_40 (max (xbnd ch) 2) (by omega) st o
            have hch : 42 ≤ ch ∧ ch ≤ 62 := by
              unfold xbnd at z3
              by_cases y1 : ch = 42 ∨ ch = 47
              · omega
              · by_cases y2 : ch = 43 ∨ ch = 45
                · omega
                · by_cases y3 : ch = 60 ∨ ch = 61 ∨ ch = 62
                  · omega
                  · rw [if_neg y1, if_neg y2, if_neg y3] at z3
                    by_cases y4 : ch = 126
                    · omega
                    · rw [if_neg y4] at z3; omega
            refine ⟨by simp only [List.length_cons]; omega, fun t ht => ?_, ?_, v4, Or.inr rfl, fun w => by simp only at w; omega⟩
            · rcases List.mem_cons.1 ht with w | w
              · have hbr := xbnd_r ch
                rw [w]
                omega
              · exact v2 t (hl.2.2 t w)
            · simp only
              rw [List.count_cons, h40]
              have : (ch == (40 : Int)) = false := by
                rw [beq_eq_false_iff_ne]
                omega
              rw [this]
              simp only [Bool.false_eq_true, if_false]
              exact v3
