theorem mm_max : Cond.static Lib.Math.max.name ∈ xTB ∧ Cond.initialized "java/lang/Math" ∈ xTB ∧ Cond.code Lib.Math.max.name Lib.Math.max.code 2 (some .int) ∈ xTB := ⟨x_tb (tb2 169 (by decide +kernel)) rfl, x_tb (tb1 15 (by decide +kernel)) rfl, x_tb (tb2 170 (by decide +kernel)) rfl⟩
theorem mm_min : Cond.static Lib.Math.min.name ∈ xTB ∧ Cond.initialized "java/lang/Math" ∈ xTB ∧ Cond.code Lib.Math.min.name Lib.Math.min.code 2 (some .int) ∈ xTB := ⟨x_tb (tb2 235 (by decide +kernel)) rfl, x_tb (tb1 15 (by decide +kernel)) rfl, x_tb (tb2 236 (by decide +kernel)) rfl⟩
theorem mm_abs : Cond.static Lib.Math.abs.name ∈ xTB ∧ Cond.initialized "java/lang/Math" ∈ xTB ∧ Cond.code Lib.Math.abs.name Lib.Math.abs.code 1 (some .int) ∈ xTB := ⟨x_tb (tb3 125 (by decide +kernel)) rfl, x_tb (tb1 15 (by decide +kernel)) rfl, x_tb (tb3 126 (by decide +kernel)) rfl⟩
theorem mx_X10_392 : Cond.methodLink RX10 392 Lib.Math.max.name ∈ xTB := x_tb (tb2 168 (by decide +kernel)) rfl
theorem mx_X7_100 : Cond.methodLink RX7 100 Lib.Math.max.name ∈ xTB := x_tb (tb3 76 (by decide +kernel)) rfl
theorem mx_X10_423 : Cond.methodLink RX10 423 Lib.Math.min.name ∈ xTB := x_tb (tb3 87 (by decide +kernel)) rfl
theorem mx_X10_349 : Cond.methodLink RX10 349 Lib.Math.abs.name ∈ xTB := x_tb (tb3 124 (by decide +kernel)) rfl
theorem mx_X7_118 : Cond.methodLink RX7 118 Lib.Math.min.name ∈ xTB := x_tb (tb3 141 (by decide +kernel)) rfl
theorem mx_X3_27 : Cond.methodLink RX3 27 Lib.Math.min.name ∈ xTB := x_tb (tb3 179 (by decide +kernel)) rfl
theorem mx_X4_41 : Cond.methodLink RX4 41 Lib.Math.min.name ∈ xTB := x_tb (tb4 41 (by decide +kernel)) rfl
theorem mx_X4_47 : Cond.methodLink RX4 47 Lib.Math.max.name ∈ xTB := x_tb (tb4 46 (by decide +kernel)) rfl
theorem mx_X11_150 : Cond.methodLink RX11 150 Lib.Math.min.name ∈ xTB := x_tb (tb6 89 (by decide +kernel)) rfl
theorem mx_X11_269 : Cond.methodLink RX11 269 Lib.Math.abs.name ∈ xTB := x_tb (tb7 67 (by decide +kernel)) rfl
theorem mx_X11_279 : Cond.methodLink RX11 279 Lib.Math.max.name ∈ xTB := x_tb (tb7 75 (by decide +kernel)) rfl
section XM
variable {d bc bs : Nat} {Y : xMD} {pc : Nat} {L S : List xV} {n : Nat} {σ : xW} {K : List xV → Nat → xW → Prop}
theorem g_max {a b : Int} {i : Nat} (hd : decode Y.2.1 pc = .ok (.invokestatic i, 3)) (hm : Cond.methodLink Y.1.cls i Lib.Math.max.name ∈ xTB) (ha : I32 a) (hb : I32 b) (hdd : 1 ≤ d) (hrest : decide ((S.map (fun v => if v.1 = 1 then 2 else 1)).sum ≤ 8) = true) (k : xG d bc bs Y (pc + 3) L (vI (max a b) :: S) n σ K) : xG d bc bs Y pc L (vI b :: vI a :: S) n σ K := by
  intro E p l e R s m args below meth c mc ms Q F H locs cells slots ls hH hS h1 h2 hl
  obtain ⟨Fx, Fb, Fml, Fo, Ft, FK, ⟨Fr1, Fr2, Fr3, Fr4⟩, -, -⟩ := id F
  have hr : ((S.map (xr E)).map fun v => v.category).sum ≤ 8 := by rw [xcat]; exact of_decide_eq_true hrest
  have k2 := k E p l e R s m args below meth c mc ms Q F H locs cells slots ls hH hS h1 h2 hl
  have e1 : xr E (vI (max a b)) = .int (if Int32.ofInt a < Int32.ofInt b then Int32.ofInt b else Int32.ofInt a) := by
    show Value.int (Int32.ofInt (max a b)) = _
    congr 1
    by_cases h : a < b
    · rw [if_pos ((w32_lt ha hb).mpr h)]; congr 1; omega
    · rw [if_neg (fun z => h ((w32_lt ha hb).mp z))]; congr 1; omega
  rw [List.map_cons, e1] at k2
  exact va_mmax Fx Fb (by rw [Fml, hl.1]) Fo (Ft _ hm) (Ft _ mm_max.1) (Ft _ mm_max.2.1) (Ft _ mm_max.2.2) (by omega) (by omega) (by omega) (by omega) hd k2
theorem g_min {a b : Int} {i : Nat} (hd : decode Y.2.1 pc = .ok (.invokestatic i, 3)) (hm : Cond.methodLink Y.1.cls i Lib.Math.min.name ∈ xTB) (ha : I32 a) (hb : I32 b) (hdd : 1 ≤ d) (hrest : decide ((S.map (fun v => if v.1 = 1 then 2 else 1)).sum ≤ 8) = true) (k : xG d bc bs Y (pc + 3) L (vI (min a b) :: S) n σ K) : xG d bc bs Y pc L (vI b :: vI a :: S) n σ K := by
  intro E p l e R s m args below meth c mc ms Q F H locs cells slots ls hH hS h1 h2 hl
  obtain ⟨Fx, Fb, Fml, Fo, Ft, FK, ⟨Fr1, Fr2, Fr3, Fr4⟩, -, -⟩ := id F
  have hr : ((S.map (xr E)).map fun v => v.category).sum ≤ 8 := by rw [xcat]; exact of_decide_eq_true hrest
  have k2 := k E p l e R s m args below meth c mc ms Q F H locs cells slots ls hH hS h1 h2 hl
  have e1 : xr E (vI (min a b)) = .int (if Int32.ofInt b < Int32.ofInt a then Int32.ofInt b else Int32.ofInt a) := by
    show Value.int (Int32.ofInt (min a b)) = _
    congr 1
    by_cases h : b < a
    · rw [if_pos ((w32_lt hb ha).mpr h)]; congr 1; omega
    · rw [if_neg (fun z => h ((w32_lt hb ha).mp z))]; congr 1; omega
  rw [List.map_cons, e1] at k2
  exact va_mmin Fx Fb (by rw [Fml, hl.1]) Fo (Ft _ hm) (Ft _ mm_min.1) (Ft _ mm_min.2.1) (Ft _ mm_min.2.2) (by omega) (by omega) (by omega) (by omega) hd k2
theorem g_abs {a : Int} {i : Nat} (hd : decode Y.2.1 pc = .ok (.invokestatic i, 3)) (hm : Cond.methodLink Y.1.cls i Lib.Math.abs.name ∈ xTB) (ha : I32 a) (hdd : 1 ≤ d) (hrest : decide ((S.map (fun v => if v.1 = 1 then 2 else 1)).sum ≤ 8) = true) (k : xG d bc bs Y (pc + 3) L (vI (if a < 0 then -a else a) :: S) n σ K) : xG d bc bs Y pc L (vI a :: S) n σ K := by
  intro E p l e R s m args below meth c mc ms Q F H locs cells slots ls hH hS h1 h2 hl
  obtain ⟨Fx, Fb, Fml, Fo, Ft, FK, ⟨Fr1, Fr2, Fr3, Fr4⟩, -, -⟩ := id F
  have hr : ((S.map (xr E)).map fun v => v.category).sum ≤ 8 := by rw [xcat]; exact of_decide_eq_true hrest
  have k2 := k E p l e R s m args below meth c mc ms Q F H locs cells slots ls hH hS h1 h2 hl
  have q : (0 : Int32) ≤ Int32.ofInt a ↔ 0 ≤ a := w32_le (show I32 0 by decide) ha
  have e1 : xr E (vI (if a < 0 then -a else a)) = .int (if 0 ≤ Int32.ofInt a then Int32.ofInt a else 0 - Int32.ofInt a) := by
    show Value.int (Int32.ofInt (if a < 0 then -a else a)) = _
    congr 1
    by_cases h : a < 0
    · rw [if_pos h, if_neg (fun z => absurd (q.mp z) (by omega)), Int32.ofInt_neg, Int32.zero_sub]
    · rw [if_neg h, if_pos (q.mpr (by omega))]
  rw [List.map_cons, e1] at k2
  exact va_mabs Fx Fb (by rw [Fml, hl.1]) Fo (Ft _ hm) (Ft _ mm_abs.1) (Ft _ mm_abs.2.1) (Ft _ mm_abs.2.2) (by omega) (by omega) (by omega) (by omega) hd k2
end XM
theorem mm_copy : Cond.native arraycopyName ∈ xTB ∧ Cond.static arraycopyName ∈ xTB ∧ Cond.initialized "java/lang/System" ∈ xTB := ⟨x_tb (tb1 95 (by decide +kernel)) rfl, x_tb (tb1 94 (by decide +kernel)) rfl, x_tb (tb1 6 (by decide +kernel)) rfl⟩
theorem mc_X7_45 : Cond.methodLink RX7 45 arraycopyName ∈ xTB := x_tb (tb1 93 (by decide +kernel)) rfl
theorem mc_X9_40 : Cond.methodLink RX9 40 arraycopyName ∈ xTB := x_tb (tb3 100 (by decide +kernel)) rfl
theorem mc_X10_426 : Cond.methodLink RX10 426 arraycopyName ∈ xTB := x_tb (tb3 154 (by decide +kernel)) rfl
def xcp (σ : xW) (a0 a k : Int) : xW := fun c j => if c = a ∧ 0 ≤ j ∧ j < k then σ a0 j else σ c j
def xw (x : Int) : Int := (Int32.ofInt x).toInt
theorem I32_xw (x : Int) : I32 (xw x) := I32_toInt _
theorem xw_id {x : Int} (h : I32 x) : xw x = x := w32 h
section XM2
variable {d bc bs : Nat} {Y : xMD} {pc : Nat} {L S : List xV} {n : Nat} {σ : xW} {K : List xV → Nat → xW → Prop}
theorem g_wrap {x : Int} (k : xG d bc bs Y pc L (vI (xw x) :: S) n σ K) : xG d bc bs Y pc L (vI x :: S) n σ K := by
  intro E p l e R s m args below meth c mc ms Q F H locs cells slots ls hH hS h1 h2 hl
  have k2 := k E p l e R s m args below meth c mc ms Q F H locs cells slots ls hH hS h1 h2 hl
  rw [List.map_cons, show xr E (vI (xw x)) = xr E (vI x) from congrArg Value.int (w32_toInt _)] at k2
  exact k2
theorem g_copy {a0 a k : Int} {i : Nat} (n0 n1 : Nat) (hd : decode Y.2.1 pc = .ok (.invokestatic i, 3)) (hm : Cond.methodLink Y.1.cls i arraycopyName ∈ xTB) (hs0 : xia 155 a0 1 n0 = true) (hs1 : xia 155 a 1 n1 = true) (hk : 0 ≤ k ∧ k ≤ n0 ∧ k ≤ n1) (hb : n0 ≤ 2147483647) (hdd : 1 ≤ d) (hrest : decide ((S.map (fun v => if v.1 = 1 then 2 else 1)).sum ≤ 8) = true) (kk : xG d bc bs Y (pc + 3) L S 155 (xcp σ a0 a k) K) : xG d bc bs Y pc L (vI k :: vI 0 :: vR a :: vI 0 :: vR a0 :: S) 155 σ K := by
  intro E p l e R s m args below meth c mc ms Q F H locs cells slots ls hH hS h1 h2 hl
  obtain ⟨Fx, Fb, Fml, Fo, Ft, FK, ⟨Fr1, Fr2, Fr3, Fr4⟩, -, -⟩ := id F
  have hr : ((S.map (xr E)).map fun v => v.category).sum ≤ 8 := by rw [xcat]; exact of_decide_eq_true hrest
  obtain ⟨s0, s1, s2, s3⟩ := xia_spec hs0
  obtain ⟨t0, t1, t2, t3⟩ := xia_spec hs1
  have he0 := xp_get (E := E) (n := 155) (σ := σ) s0 s1
  rw [xe_int s2 (Or.inl rfl), s3] at he0
  have he1 := xp_get (E := E) (n := 155) (σ := σ) t0 t1
  rw [xe_int t2 (Or.inl rfl), t3] at he1
  have z0 : (Int32.ofInt (vI 0).2).toNatClampNeg = 0 := rfl
  have e0 : (Int32.ofInt k).toInt = k := w32 (by omega)
  have ek : (Int32.ofInt (vI k).2).toNatClampNeg = k.toNat := by show (Int32.ofInt k).toNatClampNeg = _; rw [← Int32.toNat_toInt, e0]
  have hw : nativeFrameWords "java/lang/System" "arraycopy" 5 ≤ 80 := by decide
  rw [List.map_cons, List.map_cons, List.map_cons, List.map_cons, List.map_cons, xr_R s0, xr_R t0]
  refine va_copyi Fx Fb (by rw [Fml, hl.1]) Fo (Ft _ hm) (Ft _ mm_copy.1) (Ft _ mm_copy.2.1) (Ft _ mm_copy.2.2) FK.1 hH.1 xp_D hS _ _ 0 0 he0 he1 rfl rfl rfl (by decide) (by decide) ?_ ?_ ?_ (fun i _ => rfl) (by omega) (by omega) hd fun H1 locs1 hP1 hD1 hS1 => ?_
  · show ¬ Int32.ofInt k < 0
    rw [Int32.lt_iff_toInt_lt, e0, Int32.toInt_zero]
    omega
  · rw [ek, z0]; omega
  · rw [ek, z0]; omega
  · rw [ek, z0] at hP1
    have e2 : va_cpy (fun j : Nat => Int32.ofInt (σ a0 j)) (fun j : Nat => Int32.ofInt (σ a j)) 0 0 k.toNat = fun j : Nat => Int32.ofInt (xcp σ a0 a k a j) := by
      funext j
      unfold va_cpy xcp
      by_cases hj : (j : Int) < k
      · rw [if_pos (by omega), if_pos ⟨rfl, by omega, hj⟩]
        congr 2
        omega
      · rw [if_neg (by omega), if_neg (by omega)]
    rw [e2, ← t3, ← xe_int (E := E) (n := 155) t2 (Or.inl rfl), xp_set (σ' := xcp σ a0 a k) t0 t1 (fun c' h => by funext j; unfold xcp; rw [if_neg (fun z => h z.1)])] at hP1
    exact kk E p l e R s m args below meth c mc ms Q F H1 locs1 cells slots ls (xH155 hP1) hS1 h1 h2 hl
end XM2
