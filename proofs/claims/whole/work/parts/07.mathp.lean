theorem mm_max : Cond.static Lib.Math.max.name ∈ xTB ∧ Cond.initialized "java/lang/Math" ∈ xTB ∧ Cond.code Lib.Math.max.name Lib.Math.max.code 2 (some .int) ∈ xTB := ⟨x_tb (tb2 169 (by decide +kernel)) rfl, x_tb (tb1 15 (by decide +kernel)) rfl, x_tb (tb2 170 (by decide +kernel)) rfl⟩
theorem mm_min : Cond.static Lib.Math.min.name ∈ xTB ∧ Cond.initialized "java/lang/Math" ∈ xTB ∧ Cond.code Lib.Math.min.name Lib.Math.min.code 2 (some .int) ∈ xTB := ⟨x_tb (tb2 235 (by decide +kernel)) rfl, x_tb (tb1 15 (by decide +kernel)) rfl, x_tb (tb2 236 (by decide +kernel)) rfl⟩
theorem mm_abs : Cond.static Lib.Math.abs.name ∈ xTB ∧ Cond.initialized "java/lang/Math" ∈ xTB ∧ Cond.code Lib.Math.abs.name Lib.Math.abs.code 1 (some .int) ∈ xTB := ⟨x_tb (tb3 125 (by decide +kernel)) rfl, x_tb (tb1 15 (by decide +kernel)) rfl, x_tb (tb3 126 (by decide +kernel)) rfl⟩
theorem mx_X10_392 : Cond.methodLink RX10 392 Lib.Math.max.name ∈ xTB := x_tb (tb2 168 (by decide +kernel)) rfl
theorem mx_X7_100 : Cond.methodLink RX7 100 Lib.Math.max.name ∈ xTB := x_tb (tb3 76 (by decide +kernel)) rfl
theorem mx_X10_423 : Cond.methodLink RX10 423 Lib.Math.min.name ∈ xTB := x_tb (tb3 87 (by decide +kernel)) rfl
theorem mx_X10_349 : Cond.methodLink RX10 349 Lib.Math.abs.name ∈ xTB := x_tb (tb3 124 (by decide +kernel)) rfl
theorem mx_X7_114 : Cond.methodLink RX7 114 Lib.Math.min.name ∈ xTB := x_tb (tb3 138 (by decide +kernel)) rfl
theorem mx_X3_27 : Cond.methodLink RX3 27 Lib.Math.min.name ∈ xTB := x_tb (tb3 176 (by decide +kernel)) rfl
theorem mx_X4_41 : Cond.methodLink RX4 41 Lib.Math.min.name ∈ xTB := x_tb (tb4 38 (by decide +kernel)) rfl
theorem mx_X4_47 : Cond.methodLink RX4 47 Lib.Math.max.name ∈ xTB := x_tb (tb4 43 (by decide +kernel)) rfl
theorem mx_X11_150 : Cond.methodLink RX11 150 Lib.Math.min.name ∈ xTB := x_tb (tb6 82 (by decide +kernel)) rfl
theorem mx_X11_269 : Cond.methodLink RX11 269 Lib.Math.abs.name ∈ xTB := x_tb (tb7 60 (by decide +kernel)) rfl
theorem mx_X11_279 : Cond.methodLink RX11 279 Lib.Math.max.name ∈ xTB := x_tb (tb7 68 (by decide +kernel)) rfl
section XM
variable {d bc bs : Nat} {Y : xMD} {pc : Nat} {L S : List xV} {n : Nat} {σ : xW} {K : List xV → Nat → xW → Prop}
theorem g_max {a b : Int} {i : Nat} (hd : decode Y.2.1 pc = .ok (.invokestatic i, 3)) (hm : Cond.methodLink Y.1.cls i Lib.Math.max.name ∈ xTB) (ha : I32 a) (hb : I32 b) (hdd : 1 ≤ d) (hrest : decide ((S.map (fun v => if v.1 = 1 then 2 else 1)).sum ≤ 8) = true) (k : xG d bc bs Y (pc + 3) L (vI (max a b) :: S) n σ K) : xG d bc bs Y pc L (vI b :: vI a :: S) n σ K := by
  intro E p l e R s m args below meth c mc ms Q F H locs cells slots ls hH hS h1 h2 hl
  obtain ⟨Fx, Fb, Fml, Fo, Ft, FK, ⟨Fr1, Fr2, Fr3, Fr4⟩, -, -⟩ := id F
  have hr : ((S.map (xr E)).map fun v => v.category).sum ≤ 8 := by rw [xcat]; exact of_decide_eq_true hrest
  have k2 := k E p l e R s m args below meth c mc ms Q F H locs cells slots ls hH hS h1 h2 hl
  have e1 : xr E (vI (max a b)) = .int (if Int32.ofInt a < Int32.ofInt b then Int32.ofInt b else Int32.ofInt a) := by
    show Value.int (Int32.ofInt (max a b)) = _
    congr 1
    by_cases h : a < b
    · rw [if_pos ((w32_lt ha hb).mpr h)]; congr 1; omega
    · rw [if_neg (fun z => h ((w32_lt ha hb).mp z))]; congr 1; omega
  rw [List.map_cons, e1] at k2
  exact va_mmax Fx Fb (by rw [Fml, hl.1]) Fo (Ft _ hm) (Ft _ mm_max.1) (Ft _ mm_max.2.1) (Ft _ mm_max.2.2) (by omega) (by omega) (by omega) (by omega) hd k2
theorem g_min {a b : Int} {i : Nat} (hd : decode Y.2.1 pc = .ok (.invokestatic i, 3)) (hm : Cond.methodLink Y.1.cls i Lib.Math.min.name ∈ xTB) (ha : I32 a) (hb : I32 b) (hdd : 1 ≤ d) (hrest : decide ((S.map (fun v => if v.1 = 1 then 2 else 1)).sum ≤ 8) = true) (k : xG d bc bs Y (pc + 3) L (vI (min a b) :: S) n σ K) : xG d bc bs Y pc L (vI b :: vI a :: S) n σ K := by
  intro E p l e R s m args below meth c mc ms Q F H locs cells slots ls hH hS h1 h2 hl
  obtain ⟨Fx, Fb, Fml, Fo, Ft, FK, ⟨Fr1, Fr2, Fr3, Fr4⟩, -, -⟩ := id F
  have hr : ((S.map (xr E)).map fun v => v.category).sum ≤ 8 := by rw [xcat]; exact of_decide_eq_true hrest
  have k2 := k E p l e R s m args below meth c mc ms Q F H locs cells slots ls hH hS h1 h2 hl
  have e1 : xr E (vI (min a b)) = .int (if Int32.ofInt b < Int32.ofInt a then Int32.ofInt b else Int32.ofInt a) := by
    show Value.int (Int32.ofInt (min a b)) = _
    congr 1
    by_cases h : b < a
    · rw [if_pos ((w32_lt hb ha).mpr h)]; congr 1; omega
    · rw [if_neg (fun z => h ((w32_lt hb ha).mp z))]; congr 1; omega
  rw [List.map_cons, e1] at k2
  exact va_mmin Fx Fb (by rw [Fml, hl.1]) Fo (Ft _ hm) (Ft _ mm_min.1) (Ft _ mm_min.2.1) (Ft _ mm_min.2.2) (by omega) (by omega) (by omega) (by omega) hd k2
theorem g_abs {a : Int} {i : Nat} (hd : decode Y.2.1 pc = .ok (.invokestatic i, 3)) (hm : Cond.methodLink Y.1.cls i Lib.Math.abs.name ∈ xTB) (ha : I32 a) (hdd : 1 ≤ d) (hrest : decide ((S.map (fun v => if v.1 = 1 then 2 else 1)).sum ≤ 8) = true) (k : xG d bc bs Y (pc + 3) L (vI (if a < 0 then -a else a) :: S) n σ K) : xG d bc bs Y pc L (vI a :: S) n σ K := by
  intro E p l e R s m args below meth c mc ms Q F H locs cells slots ls hH hS h1 h2 hl
  obtain ⟨Fx, Fb, Fml, Fo, Ft, FK, ⟨Fr1, Fr2, Fr3, Fr4⟩, -, -⟩ := id F
  have hr : ((S.map (xr E)).map fun v => v.category).sum ≤ 8 := by rw [xcat]; exact of_decide_eq_true hrest
  have k2 := k E p l e R s m args below meth c mc ms Q F H locs cells slots ls hH hS h1 h2 hl
  have q : (0 : Int32) ≤ Int32.ofInt a ↔ 0 ≤ a := w32_le (show I32 0 by decide) ha
  have e1 : xr E (vI (if a < 0 then -a else a)) = .int (if 0 ≤ Int32.ofInt a then Int32.ofInt a else 0 - Int32.ofInt a) := by
    show Value.int (Int32.ofInt (if a < 0 then -a else a)) = _
    congr 1
    by_cases h : a < 0
    · rw [if_pos h, if_neg (fun z => absurd (q.mp z) (by omega)), Int32.ofInt_neg, Int32.zero_sub]
    · rw [if_neg h, if_pos (q.mpr (by omega))]
  rw [List.map_cons, e1] at k2
  exact va_mabs Fx Fb (by rw [Fml, hl.1]) Fo (Ft _ hm) (Ft _ mm_abs.1) (Ft _ mm_abs.2.1) (Ft _ mm_abs.2.2) (by omega) (by omega) (by omega) (by omega) hd k2
end XM
