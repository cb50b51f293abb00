/-! the world behind the constructors -/
def xTw : List Int := [17, 23, 27, 31, 35, 39, 43, 47, 51, 55, 59, 63, 67, 71, 75, 79, 83, 109, 113, 117]
def xw0 : xW := fun c k => if c = 0 then (if k = 4 then 9 else if k = 5 then 13 else 0) else if c = 5 ∨ c = 7 then (if k = 1 then 1 else 0) else if c = 9 ∨ c = 13 then (if k = 1 then 7 else if k = 7 then 1 else 0) else if c = 10 ∨ c = 14 then (if 0 ≤ k then xFst.getD k.toNat 0 else 0)
  else if c = 121 then (if k = 6 then 1 else if k = 7 then 1 else 0) else if c = 127 then (if k = 34 then 9 else if k = 35 then 9 else if k = 36 then 20 else 0) else if c ∈ xTw then (if k = 1 then 99 else if k = 2 then 20 else 0) else 0
/-- cell c of the one world with 154 cells is as cell c of the other with 155 -/
def xck (f g : xW) (c : Nat) : Bool := match (xsh c).1 with
  | 0 => (List.range (xsh c).2.2.length).all fun k => if 10 ≤ (xsh c).2.2.getD k 0 then f c k == (((xsh c).2.2.getD k 0 : Nat) : Int) - 10 else f c k == g c k
  | 5 => (List.range (xsh c).2.1).all fun j => f c j == (((xsh c).2.2.getD 0 0 : Nat) : Int) + 4 * j
  | _ => (List.range (xsh c).2.1).all fun j => f c j == g c j
theorem arrV_eq {cA : ClassId} {N : Nat} {f g : Nat → Value} (h : ∀ j, j < N → f j = g j) : arrV cA N f = arrV cA N g := by
  unfold arrV
  congr 1
  apply Array.ext
  · simp
  · intro j h1 h2
    simp
    exact h j (by simpa using h1)
theorem xck_tags : ∀ s ∈ xshL, s.1 = 0 → ∀ t ∈ s.2.2, t = 0 ∨ t = 1 ∨ t = 2 ∨ t = 3 ∨ 10 ≤ t := by decide +kernel
theorem xck_no {c k t : Nat} (h0 : (xsh (c : Int)).1 = 0) (ht : (xsh (c : Int)).2.2[k]? = some t) (z0 : t ≠ 0) (z1 : t ≠ 1) (z2 : t ≠ 2) (z3 : t ≠ 3) (z4 : ¬ 10 ≤ t) : False := by
  unfold xsh at h0 ht
  rw [if_neg (by omega), Int.toNat_natCast] at h0 ht
  by_cases hc : c < xshL.length
  · have hm : xshL.getD c (9, 0, []) ∈ xshL := by
      rw [List.getD_eq_getElem?_getD, List.getElem?_eq_getElem hc]
      exact List.getElem_mem hc
    rcases xck_tags _ hm h0 t (List.mem_of_getElem? ht) with h | h | h | h | h <;> omega
  · rw [List.getD_eq_getElem?_getD, List.getElem?_eq_none (by omega)] at h0
    cases h0
theorem xck_at {E : xE} {f g : xW} {c : Nat} {H : Heap} (hk : xck f g c = true) (h : va_at E.2.2.1 xcls (E.1 + c, xe E 154 (xsh c) (f c)) H) : va_at E.2.2.1 xcls (E.1 + c, xe E 155 (xsh c) (g c)) H := by
  unfold xck at hk
  split at hk
  · rename_i h0
    have e : xfs E 154 (f c) 0 (xsh c).2.2 = xfs E 155 (g c) 0 (xsh c).2.2 := by
      apply List.ext_getElem?
      intro k
      rw [xfs_get, xfs_get]
      cases ht : (xsh (c : Int)).2.2[k]? with
      | none => rfl
      | some t =>
        simp only [Option.map_some, Nat.zero_add]
        congr 1
        have hlt : k < (xsh (c : Int)).2.2.length := (List.getElem?_eq_some_iff.mp ht).1
        have q := List.all_eq_true.mp hk k (List.mem_range.mpr hlt)
        have hd : (xsh (c : Int)).2.2.getD k 0 = t := by rw [List.getD_eq_getElem?_getD, ht]; rfl
        rw [hd] at q
        by_cases h10 : 10 ≤ t
        · rw [if_pos h10] at q
          have q : f c k = (t : Int) - 10 := by simpa using q
          rw [q]
          unfold xfv
          rw [if_neg (by omega), if_neg (by omega), if_neg (by omega), if_neg (by omega), if_neg (by omega), if_neg (by omega), if_neg (by omega), if_neg (by omega), if_neg (by omega), if_pos rfl]
        · rw [if_neg h10] at q
          have q : f c k = g c k := by simpa using q
          rw [q]
          unfold xfv
          by_cases z0 : t = 0
          · rw [if_pos z0, if_pos z0]
          · by_cases z1 : t = 1
            · rw [if_neg z0, if_pos z1, if_neg z0, if_pos z1]
            · by_cases z2 : t = 2
              · rw [if_neg z0, if_neg z1, if_pos z2, if_neg z0, if_neg z1, if_pos z2]
              · by_cases z3 : t = 3
                · rw [if_neg z0, if_neg z1, if_neg z2, if_pos z3, if_neg z0, if_neg z1, if_neg z2, if_pos z3]
                · exfalso
                  exact xck_no h0 ht z0 z1 z2 z3 h10
    rw [xe_obj h0] at h
    rw [xe_obj h0, ← e]
    exact h
  · rename_i h5
    rw [xe_townN (by decide) h5] at h
    rw [xe_town h5]
    have h : H[E.1 + c]? = some (vp_cell (E.2.2.2 5) ((xsh c).2.1, .inr (.inr (.inr (.inr fun j => xrf E (f c j)))))) := h
    show H[E.1 + c]? = some (vp_cell (E.2.2.2 5) ((xsh c).2.1, .inr (.inr (.inr (.inr fun j => xrf E ((((xsh c).2.2.getD 0 0 : Nat) : Int) + 4 * j))))))
    rw [h]
    congr 1
    rw [vp_cell_q, vp_cell_q]
    refine arrV_eq fun j hj => ?_
    have q := List.all_eq_true.mp hk j (List.mem_range.mpr hj)
    have q : f c j = (((xsh c).2.2.getD 0 0 : Nat) : Int) + 4 * j := by simpa using q
    simp only [q]
  · rename_i h0 h5
    by_cases h2 : (xsh (c : Int)).1 = 2
    · rw [xe_long h2] at h
      rw [xe_long h2]
      have h : H[E.1 + c]? = some (arrV (E.2.2.2 2) (xsh c).2.1 (fun j => .long (Int64.ofInt (f c j)))) := h
      show H[E.1 + c]? = some (arrV (E.2.2.2 2) (xsh c).2.1 (fun j => .long (Int64.ofInt (g c j))))
      rw [h]
      congr 1
      refine arrV_eq fun j hj => ?_
      have q := List.all_eq_true.mp hk j (List.mem_range.mpr hj)
      have q : f c j = g c j := by simpa using q
      rw [q]
    · have ex : ∀ (n : Nat) (u : Int → Int), xe E n (xsh c) u = .inl (E.2.2.2 (xsh c).1, (xsh c).2.1, .inl fun j => Int32.ofInt (u j)) := by
        intro n u
        unfold xe
        rw [if_neg (fun z => h0 z), if_neg h2, if_neg (fun z => h5 z)]
      rw [ex] at h
      rw [ex]
      have h : H[E.1 + c]? = some (arrV (E.2.2.2 (xsh c).1) (xsh c).2.1 (fun j => .int (Int32.ofInt (f c j)))) := h
      show H[E.1 + c]? = some (arrV (E.2.2.2 (xsh c).1) (xsh c).2.1 (fun j => .int (Int32.ofInt (g c j))))
      rw [h]
      congr 1
      refine arrV_eq fun j hj => ?_
      have q := List.all_eq_true.mp hk j (List.mem_range.mpr hj)
      have q : f c j = g c j := by simpa using q
      rw [q]
def xwF : xW := w_X11_121 (xnO (w_X10_0 (xnO (fun _ _ => 0) 0)) 121)
theorem xwF_a : ∀ c : Nat, c < 23 → xck xwF xw0 c = true := by decide +kernel
theorem xwF_b : ∀ c : Nat, c < 64 → xck xwF xw0 (23 + c) = true := by decide +kernel
theorem xwF_c : ∀ c : Nat, c < 34 → xck xwF xw0 (87 + c) = true := by decide +kernel
theorem xwF_d : ∀ c : Nat, c < 33 → xck xwF xw0 (121 + c) = true := by decide +kernel
theorem xwF_ok {c : Nat} (h : c < 154) : xck xwF xw0 c = true := by
  by_cases h1 : c < 23
  · exact xwF_a c h1
  · by_cases h2 : c < 87
    · have q := xwF_b (c - 23) (by omega)
      rwa [show 23 + (c - 23) = c by omega] at q
    · by_cases h3 : c < 121
      · have q := xwF_c (c - 87) (by omega)
        rwa [show 87 + (c - 87) = c by omega] at q
      · have q := xwF_d (c - 121) (by omega)
        rwa [show 121 + (c - 121) = c by omega] at q
theorem xw0_XR : XR 0 xw0 xw0 := by
  have z : ∀ c : Int, c ≠ 0 → c ≠ 5 → c ≠ 7 → c ≠ 9 → c ≠ 13 → c ≠ 10 → c ≠ 14 → c ≠ 121 → c ≠ 127 → c ∉ xTw → xw0 c = fun _ => 0 := by
    intro c a1 a2 a3 a4 a5 a6 a7 a8 a9 a10
    funext k
    unfold xw0
    rw [if_neg a1, if_neg (by omega), if_neg (by omega), if_neg (by omega), if_neg a8, if_neg a9, if_neg a10]
  have z2 : xw0 2 = fun _ => 0 := z 2 (by decide) (by decide) (by decide) (by decide) (by decide) (by decide) (by decide) (by decide) (by decide) (by decide)
  have z6 : xw0 6 = fun _ => 0 := z 6 (by decide) (by decide) (by decide) (by decide) (by decide) (by decide) (by decide) (by decide) (by decide) (by decide)
  have z8 : xw0 8 = fun _ => 0 := z 8 (by decide) (by decide) (by decide) (by decide) (by decide) (by decide) (by decide) (by decide) (by decide) (by decide)
  have z18 : xw0 18 = fun _ => 0 := z 18 (by decide) (by decide) (by decide) (by decide) (by decide) (by decide) (by decide) (by decide) (by decide) (by decide)
  have z19 : xw0 19 = fun _ => 0 := z 19 (by decide) (by decide) (by decide) (by decide) (by decide) (by decide) (by decide) (by decide) (by decide) (by decide)
  have z20 : xw0 20 = fun _ => 0 := z 20 (by decide) (by decide) (by decide) (by decide) (by decide) (by decide) (by decide) (by decide) (by decide) (by decide)
  have z88 : xw0 88 = fun _ => 0 := z 88 (by decide) (by decide) (by decide) (by decide) (by decide) (by decide) (by decide) (by decide) (by decide) (by decide)
  have z106 : xw0 106 = fun _ => 0 := z 106 (by decide) (by decide) (by decide) (by decide) (by decide) (by decide) (by decide) (by decide) (by decide) (by decide)
  have z123 : xw0 123 = fun _ => 0 := z 123 (by decide) (by decide) (by decide) (by decide) (by decide) (by decide) (by decide) (by decide) (by decide) (by decide)
  have z124 : xw0 124 = fun _ => 0 := z 124 (by decide) (by decide) (by decide) (by decide) (by decide) (by decide) (by decide) (by decide) (by decide) (by decide)
  have z151 : xw0 151 = fun _ => 0 := z 151 (by decide) (by decide) (by decide) (by decide) (by decide) (by decide) (by decide) (by decide) (by decide) (by decide)
  have z152 : xw0 152 = fun _ => 0 := z 152 (by decide) (by decide) (by decide) (by decide) (by decide) (by decide) (by decide) (by decide) (by decide) (by decide)
  have w11 : xw0 1 1 = 0 := by decide +kernel
  have w31 : xw0 3 1 = 0 := by decide +kernel
  have w014 : xw0 0 14 = 0 := by decide +kernel
  have w920 : xw0 92 0 = 0 := by decide +kernel
  have w212 : xw0 21 2 = 0 := by decide +kernel
  have w1002 : xw0 100 2 = 0 := by decide +kernel
  refine ⟨⟨by decide +kernel, fun i => ?_, by decide +kernel, fun i h1 h2 => ?_⟩, ⟨by decide +kernel, by decide +kernel, fun i h1 h2 => ?_⟩, ⟨⟨by decide +kernel, fun i => ?_, by decide +kernel, fun i h1 h2 => ?_⟩, ⟨by decide +kernel, fun i => ?_, by decide +kernel, fun i h1 h2 => ?_⟩⟩, ⟨Or.inl (by decide +kernel), Or.inl ⟨by decide +kernel, by decide +kernel, fun i h1 h2 => ?_⟩⟩, ⟨by decide +kernel, by decide +kernel, by decide +kernel, by decide +kernel, fun d h1 h2 => ?_⟩, ⟨⟨by decide +kernel, fun h h1 h2 => ?_, fun h h1 h2 => ?_, fun h h1 h2 => ?_⟩, ⟨by decide +kernel, fun h h1 h2 => ?_, fun d h1 h2 => ?_⟩⟩, ⟨by decide +kernel, by decide +kernel, by decide +kernel, fun j h1 h2 => ?_⟩, ⟨by decide +kernel, fun i h1 h2 => ?_⟩, ⟨by decide +kernel, by decide +kernel, fun i h1 h2 => ?_⟩, Or.inl ⟨by decide +kernel, fun i h1 h2 => ?_⟩⟩
  · rw [z2]; exact (by decide : (0 : Int) ≤ 0 ∧ (0 : Int) ≤ 255)
  · exfalso; rw [w11] at h2; omega
  · exfalso; rw [w31] at h2; omega
  · rw [z6]; exact (by decide : (0 : Int) ≤ 0 ∧ (0 : Int) ≤ 9)
  · exact (congrFun z123 i).trans (congrFun z6 i).symm
  · rw [z8]; exact (by decide : (0 : Int) ≤ 0 ∧ (0 : Int) ≤ 9)
  · exact (congrFun z124 i).trans (congrFun z8 i).symm
  · obtain ⟨n, rfl⟩ : ∃ n : Nat, i = n := ⟨i.toNat, by omega⟩
    have q : ∀ m : Fin 7, xw0 (xw0 0 4 + 1) ((m.val : Nat) : Int) = xfirstL.getD ((m.val : Nat) : Int).toNat 0 := by decide +kernel
    exact q ⟨n, by omega⟩
  · exfalso; rw [w920] at h2; omega
  · rw [z18]; exact (by decide : (0 : Int) ≤ 0 ∧ (0 : Int) ≤ 99)
  · rw [z19]; exact (by decide : (0 : Int) ≤ 0 ∧ (0 : Int) ≤ 108)
  · rw [z20]; exact (by decide : (-1 : Int) ≤ 0 ∧ (0 : Int) ≤ 9)
  · exfalso; rw [w014] at h2; omega
  · exfalso; rw [w920] at h2; omega
  · exfalso; rw [w212] at h2; omega
  · have y88 : xw0 88 i = 0 := congrFun z88 i
    have y151 : xw0 151 i = 0 := congrFun z151 i
    refine ⟨Or.inl y88, Or.inl y151, fun h => ?_, ⟨fun h => ?_, fun h => ?_⟩, fun h => ?_⟩
    · exfalso; omega
    · exfalso; omega
    · exfalso; have := h.1; omega
    · exfalso; omega
  · exfalso; rw [w1002] at h2; omega
  · exact congrFun z106 i
