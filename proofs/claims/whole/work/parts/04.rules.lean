/-- a text in the heap: its object, its bytes -/
def xSO (A : Nat → Prop) (U : State) (H : Heap) (a : Nat) (bs : List Int) : Prop :=
  va_O "java/lang/String" a A U H ∧ va_OF "java/lang/String" "coder" "B" (.int 0) a A U H ∧ ∃ v, va_OF "java/lang/String" "value" "[B" (.ref v) a A U H ∧ va_T .byte v bs.length (fun j => .int (Int32.ofInt (bs.getD j 0))) A U H ∧ ∃ cell : Cell, H[v]? = some cell ∧ cell.slots.size = bs.length
/-- the literals: class, place, text, bytes -/
def xLits : List (String × Nat × String × List Int) := [
  ("NoonGun$Bang", 11, "dwmxyne", [100, 119, 109, 120, 121, 110, 101]),
  ("NoonGun$Rule", 85, "dwmxyne", [100, 119, 109, 120, 121, 110, 101]),
  ("NoonGun", 147, "no such house, or nothing such of it", [110, 111, 32, 115, 117, 99, 104, 32, 104, 111, 117, 115, 101, 44, 32, 111, 114, 32, 110, 111, 116, 104, 105, 110, 103, 32, 115, 117, 99, 104, 32, 111, 102, 32, 105, 116]),
  ("NoonGun", 171, "no such deed, or nothing such of it", [110, 111, 32, 115, 117, 99, 104, 32, 100, 101, 101, 100, 44, 32, 111, 114, 32, 110, 111, 116, 104, 105, 110, 103, 32, 115, 117, 99, 104, 32, 111, 102, 32, 105, 116]),
  ("NoonGun", 408, "no such number of the row", [110, 111, 32, 115, 117, 99, 104, 32, 110, 117, 109, 98, 101, 114, 32, 111, 102, 32, 116, 104, 101, 32, 114, 111, 119]),
  ("NoonGunModel", 191, "abcd", [97, 98, 99, 100]),
  ("java/lang/StringLatin1", 151, "", []),
  ("NoonGunModel", 244, "dwmxyne", [100, 119, 109, 120, 121, 110, 101]),
  ("NoonGunModel", 249, "<>=", [60, 62, 61]),
  ("NoonGunModel", 251, "+-", [43, 45]),
  ("NoonGunModel", 253, "*/", [42, 47]),
  ("NoonGunModel", 387, "nbglm", [110, 98, 103, 108, 109])]
/-- the first rule's steps -/
def xFst : List Int := [1000, 2, 2042, 1001, 2, 2047, 2045]
/-- what lies outside the world -/
def xTx (E : xE) (U : State) : Prop :=
  (∀ (i : Nat) (q : String × Nat × String × List Int), xLits[i]? = some q → vk_R q.1 q.2.1 q.2.2.1 (E.2.1 i) U ∧ xSO (xA E) U U.heap (E.2.1 i) q.2.2.2) ∧
  va_Z "java/lang/String" "COMPACT_STRINGS" "Z" (.int 1) (xA E) U U.heap ∧
  (∃ t, va_Z "NoonGun$Rule" "FIRST" "[I" (.ref t) (xA E) U U.heap ∧ va_X t 7 (fun j => Int32.ofInt (xFst.getD j 0)) U U.heap ∧ ¬ xA E t) ∧
  va_Zq "jdk/internal/util/Preconditions" "SIOOBE_FORMATTER" "Ljava/util/function/BiFunction;" (xA E) U U.heap ∧
  va_Zq "java/lang/Throwable" "UNASSIGNED_STACK" "[Ljava/lang/StackTraceElement;" (xA E) U U.heap ∧ va_Zq "java/lang/Throwable" "SUPPRESSED_SENTINEL" "Ljava/util/List;" (xA E) U U.heap
theorem xSO_kept {A : Nat → Prop} {U : State} {H H1 : Heap} {a : Nat} {bs : List Int} (h : xSO A U H a bs) (hq : ∀ a : Nat, a < H.size → ¬ A a → H1[a]? = H[a]?) : xSO A U H1 a bs := by
  obtain ⟨h1, h2, v, h3, h4, cell, h5, h6⟩ := h
  refine ⟨h1.kept hq, h2.kept hq, v, h3.kept hq, h4.kept hq, cell, ?_, h6⟩
  obtain ⟨-, -, -, -, -, -, -, h7⟩ := h4
  rw [hq v (Array.getElem?_eq_some_iff.mp h5).1 h7]
  exact h5
theorem xSO_moved {A : Nat → Prop} {u U : State} {H : Heap} {a : Nat} {bs : List Int} (hvm : u.vm.Alike U.vm) (h : xSO A u H a bs) : xSO A U H a bs := by
  obtain ⟨h1, h2, v, h3, h4, h5⟩ := h
  exact ⟨h1.moved hvm, h2.moved hvm, v, h3.moved hvm, h4.moved hvm, h5⟩
theorem xTx_go {E : xE} {s U : State} (hR : ∀ own k tx a, vk_R own k tx a s → vk_R own k tx a U) (hvm : s.vm.Alike U.vm) (hq : ∀ a : Nat, a < s.heap.size → ¬ xA E a → U.heap[a]? = s.heap[a]?) (h : xTx E s) : xTx E U := by
  obtain ⟨h1, h2, ⟨t, h3, ⟨scr, x1, x2, x3⟩, h4⟩, h5, h6, h7⟩ := h
  refine ⟨fun i q hi => ⟨hR _ _ _ _ (h1 i q hi).1, xSO_kept (xSO_moved hvm (h1 i q hi).2) hq⟩, (h2.moved hvm).kept hq, ⟨t, (h3.moved hvm).kept hq, ⟨scr, ?_, ?_, x3⟩, h4⟩, (h5.moved hvm).kept hq, (h6.moved hvm).kept hq, (h7.moved hvm).kept hq⟩
  · rw [hq t (Array.getElem?_eq_some_iff.mp x1).1 h4]; exact x1
  · obtain ⟨g1, k, g2, comp, g3⟩ := x2
    obtain ⟨k', hk', he⟩ := hvm.2.2 _ _ g2
    exact ⟨g1, k', hk', comp, by rw [he]; exact g3⟩
/-- what a state says of the tables -/
def xK (E : xE) (U : State) : Prop := va_K E.2.2.1 xcls (xtys E) U ∧ (∀ w ∈ xNW, va_Nw w U) ∧ xTx E U
/-- what a heap holds -/
def xH (E : xE) (n : Nat) (σ : xW) (H : Heap) : Prop := va_P E.2.2.1 xcls (xp E n σ) H ∧ (n = 155 ∨ H.size = E.1 + n) ∧ E.1 + n ≤ H.size
/-! numbers -/
abbrev I32 (x : Int) : Prop := -2147483648 ≤ x ∧ x ≤ 2147483647
abbrev I64 (x : Int) : Prop := -9223372036854775808 ≤ x ∧ x ≤ 9223372036854775807
theorem w32 {x : Int} (h : I32 x) : (Int32.ofInt x).toInt = x := by
  rw [Int32.toInt_ofInt, Int.bmod_eq_of_le] <;> simp [Int32.size] <;> omega
theorem w64 {x : Int} (h : I64 x) : (Int64.ofInt x).toInt = x := by
  rw [Int64.toInt_ofInt, Int.bmod_eq_of_le] <;> simp [Int64.size] <;> omega
theorem w32_le {a b : Int} (ha : I32 a) (hb : I32 b) : Int32.ofInt a ≤ Int32.ofInt b ↔ a ≤ b := by rw [Int32.le_iff_toInt_le, w32 ha, w32 hb]
theorem w32_lt {a b : Int} (ha : I32 a) (hb : I32 b) : Int32.ofInt a < Int32.ofInt b ↔ a < b := by rw [Int32.lt_iff_toInt_lt, w32 ha, w32 hb]
theorem w32_eq {a b : Int} (ha : I32 a) (hb : I32 b) : Int32.ofInt a = Int32.ofInt b ↔ a = b := ⟨fun h => by rw [← w32 ha, ← w32 hb, h], fun h => by rw [h]⟩
theorem w64_lt {a b : Int} (ha : I64 a) (hb : I64 b) : Int64.ofInt a < Int64.ofInt b ↔ a < b := by rw [Int64.lt_iff_toInt_lt, w64 ha, w64 hb]
theorem w64_eq {a b : Int} (ha : I64 a) (hb : I64 b) : Int64.ofInt a = Int64.ofInt b ↔ a = b := ⟨fun h => by rw [← w64 ha, ← w64 hb, h], fun h => by rw [h]⟩
theorem w32_toInt (x : Int32) : Int32.ofInt x.toInt = x := Int32.ofInt_toInt x
theorem I32_toInt (x : Int32) : I32 x.toInt := ⟨Int32.le_toInt x, by have := Int32.toInt_lt x; omega⟩
theorem w32_div {a b : Int} (ha : I32 a) (hb : I32 b) : Int32.ofInt a / Int32.ofInt b = Int32.ofInt (a.tdiv b) := by
  apply Int32.toInt_inj.mp
  rw [Int32.toInt_div, w32 ha, w32 hb, Int32.toInt_ofInt]
theorem w64_div {a b : Int} (ha : I64 a) (hb : I64 b) : Int64.ofInt a / Int64.ofInt b = Int64.ofInt (a.tdiv b) := by
  apply Int64.toInt_inj.mp
  rw [Int64.toInt_div, w64 ha, w64 hb, Int64.toInt_ofInt]
theorem w32_rem {a b : Int} (ha : I32 a) (hb : I32 b) : Int32.ofInt a - Int32.ofInt a / Int32.ofInt b * Int32.ofInt b = Int32.ofInt (a.tmod b) := by
  rw [w32_div ha hb, ← Int32.ofInt_mul, ← Int32.ofInt_sub, Int.tmod_def, Int.mul_comm]
theorem w64_rem {a b : Int} (ha : I64 a) (hb : I64 b) : Int64.ofInt a - Int64.ofInt a / Int64.ofInt b * Int64.ofInt b = Int64.ofInt (a.tmod b) := by
  rw [w64_div ha hb, ← Int64.ofInt_mul, ← Int64.ofInt_sub, Int.tmod_def, Int.mul_comm]
def xand (a b : Int) : Int := (Int32.ofInt a &&& Int32.ofInt b).toInt
def xor' (a b : Int) : Int := (Int32.ofInt a ||| Int32.ofInt b).toInt
def xxor (a b : Int) : Int := (Int32.ofInt a ^^^ Int32.ofInt b).toInt
def xshl (a b : Int) : Int := (Int32.ofInt a <<< (Int32.ofInt b &&& 31)).toInt
def xshr (a b : Int) : Int := (Int32.ofInt a >>> (Int32.ofInt b &&& 31)).toInt
def xushr (a b : Int) : Int := ((Int32.ofInt a).toUInt32 >>> ((Int32.ofInt b).toUInt32 &&& Int32.toUInt32 31)).toInt32.toInt
def xi2c (a : Int) : Int := ((Int32.ofInt a).toUInt32 % 65536).toInt32.toInt
def xi2b (a : Int) : Int := (Int32.ofInt a).toInt8.toInt32.toInt
def xi2s (a : Int) : Int := (Int32.ofInt a).toInt16.toInt32.toInt
def xlshr (a b : Int) : Int := (Int64.ofInt a >>> ((Int32.ofInt b).toInt64 &&& 63)).toInt
def xland (a b : Int) : Int := (Int64.ofInt a &&& Int64.ofInt b).toInt
def xcmp (a b : Int) : Int := if a < b then -1 else if a = b then 0 else 1
/-! what a method is walked in -/
def xF (E : xE) (Y : xMD) (d : Nat) (K : List xV → Nat → xW → Prop) (p : Program) (l : Launch) (e : Env) (R : Room) (s : State) (m : MethodId) (args : Array Value) (below : List Frame) (meth : Method) (c : Code) (mc ms : Nat) (Q : State → Prop) : Prop :=
  p.tables.exec = Jvm.exec ∧ c.code = Y.2.1 ∧ c.maxLocals = Y.2.2.1 ∧ s.vm.findClass Y.1.cls = some m.cls ∧ (∀ w ∈ xTB, w.before args s = true) ∧ xK E s ∧ (d ≤ R.frames ∧ 100 * d ≤ R.locals ∧ mc ≤ R.cells ∧ ms ≤ R.slots) ∧ E.1 ≤ s.heap.size ∧
  (∀ (r : List xV) (n : Nat) (σ : xW) (pc : Nat) (ls : Array Slot) (H : Heap) (locs : List Loc) (cells slots : Nat), K r n σ → xok Y.2.2.2 r → decode Y.2.1 pc = .ok (xri r, 1) → xH E n σ H → va_S (xA E) s.heap H locs → cells ≤ mc → slots ≤ ms → W p l e R s m args below meth c H locs cells slots Q (F0 m pc ls (r.map (xr E))))
def xG (d bc bs : Nat) (Y : xMD) (pc : Nat) (L S : List xV) (n : Nat) (σ : xW) (K : List xV → Nat → xW → Prop) : Prop :=
  ∀ (E : xE) (p : Program) (l : Launch) (e : Env) (R : Room) (s : State) (m : MethodId) (args : Array Value) (below : List Frame) (meth : Method) (c : Code) (mc ms : Nat) (Q : State → Prop), xF E Y d K p l e R s m args below meth c mc ms Q →
  ∀ (H : Heap) (locs : List Loc) (cells slots : Nat) (ls : Array Slot), xH E n σ H → va_S (xA E) s.heap H locs → cells + bc ≤ mc → slots + bs ≤ ms → lv_has ls Y.2.2.1 (xl E 0 L) →
  W p l e R s m args below meth c H locs cells slots Q (F0 m pc ls (S.map (xr E)))
theorem xl_mem {E : xE} : ∀ (L : List xV) (i j : Nat) (w : Value), (j, w) ∈ xl E i L ↔ ∃ (k : Nat) (v : xV), L[k]? = some v ∧ v.1 ≠ 9 ∧ j = i + k ∧ w = xr E v
  | [], i, j, w => by simp [xl]
  | v :: t, i, j, w => by
    have ih := xl_mem (E := E) t (i + 1) j w
    constructor
    · intro h
      unfold xl at h
      split at h
      · obtain ⟨k, v', h1, h2, h3, h4⟩ := ih.mp h
        exact ⟨k + 1, v', by simpa using h1, h2, by omega, h4⟩
      · rcases List.mem_cons.mp h with h | h
        · cases h
          exact ⟨0, v, rfl, by assumption, rfl, rfl⟩
        · obtain ⟨k, v', h1, h2, h3, h4⟩ := ih.mp h
          exact ⟨k + 1, v', by simpa using h1, h2, by omega, h4⟩
    · rintro ⟨k, v', h1, h2, h3, h4⟩
      cases k with
      | zero =>
        simp at h1
        subst h1 h4
        unfold xl
        rw [if_neg h2]
        exact List.mem_cons.mpr (Or.inl (by rw [h3]; rfl))
      | succ k =>
        have h5 : (j, w) ∈ xl E (i + 1) t := ih.mpr ⟨k, v', by simpa using h1, h2, by omega, h4⟩
        unfold xl
        split
        · exact h5
        · exact List.mem_cons_of_mem _ h5
theorem xl_get {E : xE} {L : List xV} {ls : Array Slot} {N i : Nat} {v : xV} (h : lv_has ls N (xl E 0 L)) (hL : L[i]? = some v) (hv : v.1 ≠ 9) : ls[i]? = some (.val (xr E v)) :=
  h.2.2 (i, xr E v) ((xl_mem L 0 i _).mpr ⟨i, v, hL, hv, by omega, rfl⟩)
theorem lv_has_mono {ls : Array Slot} {N : Nat} {l l' : List (Nat × Value)} (h : lv_has ls N l) (hm : ∀ q ∈ l', q ∈ l) : lv_has ls N l' := ⟨h.1, h.2.1, fun q hq => h.2.2 q (hm q hq)⟩
theorem xl_set1 {E : xE} {L : List xV} {i : Nat} {v : xV} (hp : ∀ u, L[i - 1]? = some u → 0 < i → u.1 ≠ 1) : ∀ q ∈ xl E 0 (L.set i v), q ∈ (i, xr E v) :: (xl E 0 L).filter (fun q => !(q.1 == i) && !(q.1 + 1 == i && q.2.category == 2)) := by
  rintro ⟨j, w⟩ hq
  obtain ⟨k, u, h1, h2, h3, h4⟩ := (xl_mem _ _ _ _).mp hq
  have hjk : j = k := by omega
  subst hjk
  by_cases hji : j = i
  · subst hji
    have : u = v := by
      rw [List.getElem?_set] at h1
      split at h1
      · split at h1 <;> simp_all
      · omega
    subst this
    exact List.mem_cons.mpr (Or.inl (by rw [h4]))
  · refine List.mem_cons_of_mem _ (List.mem_filter.mpr ⟨(xl_mem _ _ _ _).mpr ⟨j, u, ?_, h2, by omega, h4⟩, ?_⟩)
    · rw [List.getElem?_set_ne (Ne.symm hji)] at h1
      exact h1
    · rw [List.getElem?_set_ne (Ne.symm hji)] at h1
      by_cases hc : j + 1 = i
      · have hu := hp u (by rw [← hc]; simpa using h1) (by omega)
        have : ¬ w.category = 2 := by
          rw [h4]
          unfold xr
          split
          · exact fun h => nomatch h
          · rename_i h; exact absurd h hu
          · split <;> exact fun h => nomatch h
          · exact fun h => nomatch h
        simp [hji, this]
      · simp [hji, hc]
theorem xl_set2 {E : xE} {L : List xV} {i : Nat} {x : Int} (hp : ∀ u, L[i - 1]? = some u → 0 < i → u.1 ≠ 1) : ∀ q ∈ xl E 0 ((L.set i (vL x)).set (i + 1) vX), q ∈ (i, xr E (vL x)) :: (xl E 0 L).filter (fun q => !(q.1 == i) && (!(q.1 == i + 1) && !(q.1 + 1 == i && q.2.category == 2))) := by
  rintro ⟨j, w⟩ hq
  obtain ⟨k, u, h1, h2, h3, h4⟩ := (xl_mem _ _ _ _).mp hq
  have hjk : j = k := by omega
  subst hjk
  have hj1 : j ≠ i + 1 := by
    rintro rfl
    rw [List.getElem?_set] at h1
    split at h1
    · split at h1
      · cases h1; exact h2 rfl
      · cases h1
    · omega
  rw [List.getElem?_set_ne (Ne.symm hj1)] at h1
  have hm : (j, w) ∈ xl E 0 (L.set i (vL x)) := (xl_mem _ _ _ _).mpr ⟨j, u, h1, h2, by omega, h4⟩
  rcases List.mem_cons.mp (xl_set1 hp _ hm) with h | h
  · exact List.mem_cons.mpr (Or.inl h)
  · obtain ⟨ha, hb⟩ := List.mem_filter.mp h
    refine List.mem_cons_of_mem _ (List.mem_filter.mpr ⟨ha, ?_⟩)
    simp only [Bool.and_eq_true] at hb ⊢
    exact ⟨hb.1, by simpa using hj1, hb.2⟩
theorem w32_i2l {a : Int} (ha : I32 a) : (Int32.ofInt a).toInt64 = Int64.ofInt a := by
  apply Int64.toInt_inj.mp
  rw [Int32.toInt_toInt64, w32 ha, w64 (by omega)]
theorem xcmp_lg {a b : Int} (ha : I64 a) (hb : I64 b) : Int32.ofInt (xcmp a b) = lg_cmp (Int64.ofInt a) (Int64.ofInt b) := by
  unfold xcmp lg_cmp
  simp only [w64_lt ha hb, w64_eq ha hb, GT.gt, w64_lt hb ha]
  repeat' split
  all_goals first | rfl | omega
section XR
variable {d bc bs : Nat} {Y : xMD} {pc : Nat} {L S : List xV} {n : Nat} {σ : xW} {K : List xV → Nat → xW → Prop}
theorem g_ic {v : Int} (hd : decode Y.2.1 pc = .ok (.iconst v, 1)) (k : xG d bc bs Y (pc + 1) L (vI v :: S) n σ K) : xG d bc bs Y pc L (S) n σ K := by
  intro E p l e R s m args below meth c mc ms Q F H locs cells slots ls hH hS h1 h2 hl
  exact lv_iconst F.1 F.2.1 hd rfl (k E p l e R s m args below meth c mc ms Q F H locs cells slots ls hH hS h1 h2 hl)
theorem g_bi {v : Int} (hd : decode Y.2.1 pc = .ok (.bipush v, 2)) (hv : (Int8.ofInt v).toInt32 = Int32.ofInt v) (k : xG d bc bs Y (pc + 2) L (vI v :: S) n σ K) : xG d bc bs Y pc L (S) n σ K := by
  intro E p l e R s m args below meth c mc ms Q F H locs cells slots ls hH hS h1 h2 hl
  exact lv_bipush F.1 F.2.1 hd hv (k E p l e R s m args below meth c mc ms Q F H locs cells slots ls hH hS h1 h2 hl)
theorem g_si {v : Int} (hd : decode Y.2.1 pc = .ok (.sipush v, 3)) (hv : (Int16.ofInt v).toInt32 = Int32.ofInt v) (k : xG d bc bs Y (pc + 3) L (vI v :: S) n σ K) : xG d bc bs Y pc L (S) n σ K := by
  intro E p l e R s m args below meth c mc ms Q F H locs cells slots ls hH hS h1 h2 hl
  exact lv_sipush F.1 F.2.1 hd hv (k E p l e R s m args below meth c mc ms Q F H locs cells slots ls hH hS h1 h2 hl)
theorem g_lc {v : Fin 2} {w : Int} (hd : decode Y.2.1 pc = .ok (.lconst v, 1)) (hv : Int64.ofNat (v : Nat) = Int64.ofInt w) (k : xG d bc bs Y (pc + 1) L (vL w :: S) n σ K) : xG d bc bs Y pc L (S) n σ K := by
  intro E p l e R s m args below meth c mc ms Q F H locs cells slots ls hH hS h1 h2 hl
  exact lv_lconst F.1 F.2.1 hd hv (k E p l e R s m args below meth c mc ms Q F H locs cells slots ls hH hS h1 h2 hl)
theorem g_ldc {i : Nat} {v : Int32} {w : Int} (hd : decode Y.2.1 pc = .ok (.ldc i, 2)) (hc : Cond.constant Y.1.cls i v ∈ xTB) (hv : v = Int32.ofInt w) (k : xG d bc bs Y (pc + 2) L (vI w :: S) n σ K) : xG d bc bs Y pc L (S) n σ K := by
  intro E p l e R s m args below meth c mc ms Q F H locs cells slots ls hH hS h1 h2 hl
  subst hv
  exact lv_ldc F.1 F.2.1 F.2.2.2.1 (F.2.2.2.2.1 _ hc) hd (k E p l e R s m args below meth c mc ms Q F H locs cells slots ls hH hS h1 h2 hl)
theorem g_ldcw {i : Nat} {v : Int32} {w : Int} (hd : decode Y.2.1 pc = .ok (.ldc_w i, 3)) (hc : Cond.constant Y.1.cls i v ∈ xTB) (hv : v = Int32.ofInt w) (k : xG d bc bs Y (pc + 3) L (vI w :: S) n σ K) : xG d bc bs Y pc L (S) n σ K := by
  intro E p l e R s m args below meth c mc ms Q F H locs cells slots ls hH hS h1 h2 hl
  subst hv
  exact lv_ldcw F.1 F.2.1 F.2.2.2.1 (F.2.2.2.2.1 _ hc) hd (k E p l e R s m args below meth c mc ms Q F H locs cells slots ls hH hS h1 h2 hl)
theorem g_ldc2 {i : Nat} {v : Int64} {w : Int} (hd : decode Y.2.1 pc = .ok (.ldc2_w i, 3)) (hc : Cond.constantLong Y.1.cls i v ∈ xTB) (hv : v = Int64.ofInt w) (k : xG d bc bs Y (pc + 3) L (vL w :: S) n σ K) : xG d bc bs Y pc L (S) n σ K := by
  intro E p l e R s m args below meth c mc ms Q F H locs cells slots ls hH hS h1 h2 hl
  subst hv
  exact lv_ldc2 F.1 F.2.1 F.2.2.2.1 (F.2.2.2.2.1 _ hc) hd (k E p l e R s m args below meth c mc ms Q F H locs cells slots ls hH hS h1 h2 hl)
theorem g_iln {j : Fin 4} {i : Nat} {x : Int} (hd : decode Y.2.1 pc = .ok (.iload_n j, 1)) (hi : (j : Nat) = i) (hL : L[i]? = some (vI x)) (k : xG d bc bs Y (pc + 1) L (vI x :: S) n σ K) : xG d bc bs Y pc L (S) n σ K := by
  intro E p l e R s m args below meth c mc ms Q F H locs cells slots ls hH hS h1 h2 hl
  exact lv_iload_n F.1 F.2.1 hd hi (xl_get hl hL (fun h => nomatch h)) (k E p l e R s m args below meth c mc ms Q F H locs cells slots ls hH hS h1 h2 hl)
theorem g_il {i : Nat} {x : Int} (hd : decode Y.2.1 pc = .ok (.iload i, 2)) (hL : L[i]? = some (vI x)) (k : xG d bc bs Y (pc + 2) L (vI x :: S) n σ K) : xG d bc bs Y pc L (S) n σ K := by
  intro E p l e R s m args below meth c mc ms Q F H locs cells slots ls hH hS h1 h2 hl
  exact lv_iload F.1 F.2.1 hd (xl_get hl hL (fun h => nomatch h)) (k E p l e R s m args below meth c mc ms Q F H locs cells slots ls hH hS h1 h2 hl)
theorem g_lln {j : Fin 4} {i : Nat} {x : Int} (hd : decode Y.2.1 pc = .ok (.lload_n j, 1)) (hi : (j : Nat) = i) (hL : L[i]? = some (vL x)) (k : xG d bc bs Y (pc + 1) L (vL x :: S) n σ K) : xG d bc bs Y pc L (S) n σ K := by
  intro E p l e R s m args below meth c mc ms Q F H locs cells slots ls hH hS h1 h2 hl
  exact lv_lload_n F.1 F.2.1 hd hi (xl_get hl hL (fun h => nomatch h)) (k E p l e R s m args below meth c mc ms Q F H locs cells slots ls hH hS h1 h2 hl)
theorem g_ll {i : Nat} {x : Int} (hd : decode Y.2.1 pc = .ok (.lload i, 2)) (hL : L[i]? = some (vL x)) (k : xG d bc bs Y (pc + 2) L (vL x :: S) n σ K) : xG d bc bs Y pc L (S) n σ K := by
  intro E p l e R s m args below meth c mc ms Q F H locs cells slots ls hH hS h1 h2 hl
  exact lv_lload F.1 F.2.1 hd (xl_get hl hL (fun h => nomatch h)) (k E p l e R s m args below meth c mc ms Q F H locs cells slots ls hH hS h1 h2 hl)
theorem g_aln {j : Fin 4} {i : Nat} {x : Int} (hd : decode Y.2.1 pc = .ok (.aload_n j, 1)) (hi : (j : Nat) = i) (hL : L[i]? = some (vR x)) (hx0 : 0 ≤ x) (k : xG d bc bs Y (pc + 1) L (vR x :: S) n σ K) : xG d bc bs Y pc L (S) n σ K := by
  intro E p l e R s m args below meth c mc ms Q F H locs cells slots ls hH hS h1 h2 hl
  have hx : xr E (vR x) = .ref (E.1 + x.toNat) := by unfold xr vR; simp only []; rw [if_neg (by omega)]
  have hq := xl_get hl hL (fun h => nomatch h)
  rw [hx] at hq
  have k2 := k E p l e R s m args below meth c mc ms Q F H locs cells slots ls hH hS h1 h2 hl
  rw [List.map_cons, hx] at k2
  exact lv_aload_n F.1 F.2.1 hd hi hq k2
theorem g_al {i : Nat} {x : Int} (hd : decode Y.2.1 pc = .ok (.aload i, 2)) (hL : L[i]? = some (vR x)) (hx0 : 0 ≤ x) (k : xG d bc bs Y (pc + 2) L (vR x :: S) n σ K) : xG d bc bs Y pc L (S) n σ K := by
  intro E p l e R s m args below meth c mc ms Q F H locs cells slots ls hH hS h1 h2 hl
  have hx : xr E (vR x) = .ref (E.1 + x.toNat) := by unfold xr vR; simp only []; rw [if_neg (by omega)]
  have hq := xl_get hl hL (fun h => nomatch h)
  rw [hx] at hq
  have k2 := k E p l e R s m args below meth c mc ms Q F H locs cells slots ls hH hS h1 h2 hl
  rw [List.map_cons, hx] at k2
  exact lv_aload F.1 F.2.1 hd hq k2
theorem g_tln {j : Fin 4} {i : Nat} {x : Int} (hd : decode Y.2.1 pc = .ok (.aload_n j, 1)) (hi : (j : Nat) = i) (hL : L[i]? = some (vT x)) (k : xG d bc bs Y (pc + 1) L (vT x :: S) n σ K) : xG d bc bs Y pc L (S) n σ K := by
  intro E p l e R s m args below meth c mc ms Q F H locs cells slots ls hH hS h1 h2 hl
  exact lv_aload_n F.1 F.2.1 hd hi (xl_get hl hL (fun h => nomatch h)) (k E p l e R s m args below meth c mc ms Q F H locs cells slots ls hH hS h1 h2 hl)
theorem g_istn0 {j : Fin 4} {i : Nat} {x : Int} {L' : List xV} (hd : decode Y.2.1 pc = .ok (.istore_n j, 1)) (hi : (j : Nat) = i) (hn : i < Y.2.2.1) (hp : ∀ u, L[i - 1]? = some u → 0 < i → u.1 ≠ 1) (hL : L.set i (vI x) = L') (k : xG d bc bs Y (pc + 1) L' S n σ K) : xG d bc bs Y pc L (vI x :: S) n σ K := by
  intro E p l e R s m args below meth c mc ms Q F H locs cells slots ls hH hS h1 h2 hl
  subst hL
  exact lv_istore_n F.1 F.2.1 hd hi hl hn rfl fun ls' hl' => k E p l e R s m args below meth c mc ms Q F H locs cells slots ls' hH hS h1 h2 (lv_has_mono hl' (xl_set1 hp))
theorem g_ist0 {i : Nat} {x : Int} {L' : List xV} (hd : decode Y.2.1 pc = .ok (.istore i, 2)) (hn : i < Y.2.2.1) (hp : ∀ u, L[i - 1]? = some u → 0 < i → u.1 ≠ 1) (hL : L.set i (vI x) = L') (k : xG d bc bs Y (pc + 2) L' S n σ K) : xG d bc bs Y pc L (vI x :: S) n σ K := by
  intro E p l e R s m args below meth c mc ms Q F H locs cells slots ls hH hS h1 h2 hl
  subst hL
  exact lv_istore F.1 F.2.1 hd hl hn rfl fun ls' hl' => k E p l e R s m args below meth c mc ms Q F H locs cells slots ls' hH hS h1 h2 (lv_has_mono hl' (xl_set1 hp))
theorem g_lstn0 {j : Fin 4} {i : Nat} {x : Int} {L' : List xV} (hd : decode Y.2.1 pc = .ok (.lstore_n j, 1)) (hi : (j : Nat) = i) (hn : i + 1 < Y.2.2.1) (hp : ∀ u, L[i - 1]? = some u → 0 < i → u.1 ≠ 1) (hL : (L.set i (vL x)).set (i + 1) vX = L') (k : xG d bc bs Y (pc + 1) L' S n σ K) : xG d bc bs Y pc L (vL x :: S) n σ K := by
  intro E p l e R s m args below meth c mc ms Q F H locs cells slots ls hH hS h1 h2 hl
  subst hL
  exact lv_lstore_n F.1 F.2.1 hd hi hl hn rfl fun ls' hl' => k E p l e R s m args below meth c mc ms Q F H locs cells slots ls' hH hS h1 h2 (lv_has_mono hl' (xl_set2 hp))
theorem g_astn0 {j : Fin 4} {i : Nat} {x : Int} {L' : List xV} (hd : decode Y.2.1 pc = .ok (.astore_n j, 1)) (hi : (j : Nat) = i) (hx0 : 0 ≤ x) (hn : i < Y.2.2.1) (hp : ∀ u, L[i - 1]? = some u → 0 < i → u.1 ≠ 1) (hL : L.set i (vR x) = L') (k : xG d bc bs Y (pc + 1) L' S n σ K) : xG d bc bs Y pc L (vR x :: S) n σ K := by
  intro E p l e R s m args below meth c mc ms Q F H locs cells slots ls hH hS h1 h2 hl
  have hx : xr E (vR x) = .ref (E.1 + x.toNat) := by unfold xr vR; simp only []; rw [if_neg (by omega)]
  subst hL
  rw [List.map_cons, hx]
  exact lv_astore_n F.1 F.2.1 hd hi hl hn rfl fun ls' hl' => k E p l e R s m args below meth c mc ms Q F H locs cells slots ls' hH hS h1 h2 (lv_has_mono hl' (by rw [← hx]; exact xl_set1 hp))
theorem g_lst0 {i : Nat} {x : Int} {L' : List xV} (hd : decode Y.2.1 pc = .ok (.lstore i, 2)) (hn : i + 1 < Y.2.2.1) (hp : ∀ u, L[i - 1]? = some u → 0 < i → u.1 ≠ 1) (hL : (L.set i (vL x)).set (i + 1) vX = L') (k : xG d bc bs Y (pc + 2) L' S n σ K) : xG d bc bs Y pc L (vL x :: S) n σ K := by
  intro E p l e R s m args below meth c mc ms Q F H locs cells slots ls hH hS h1 h2 hl
  subst hL
  exact lv_lstore F.1 F.2.1 hd hl hn rfl fun ls' hl' => k E p l e R s m args below meth c mc ms Q F H locs cells slots ls' hH hS h1 h2 (lv_has_mono hl' (xl_set2 hp))
theorem g_ast0 {i : Nat} {x : Int} {L' : List xV} (hd : decode Y.2.1 pc = .ok (.astore i, 2)) (hx0 : 0 ≤ x) (hn : i < Y.2.2.1) (hp : ∀ u, L[i - 1]? = some u → 0 < i → u.1 ≠ 1) (hL : L.set i (vR x) = L') (k : xG d bc bs Y (pc + 2) L' S n σ K) : xG d bc bs Y pc L (vR x :: S) n σ K := by
  intro E p l e R s m args below meth c mc ms Q F H locs cells slots ls hH hS h1 h2 hl
  have hx : xr E (vR x) = .ref (E.1 + x.toNat) := by unfold xr vR; simp only []; rw [if_neg (by omega)]
  subst hL
  rw [List.map_cons, hx]
  exact lv_astore F.1 F.2.1 hd hl hn rfl fun ls' hl' => k E p l e R s m args below meth c mc ms Q F H locs cells slots ls' hH hS h1 h2 (lv_has_mono hl' (by rw [← hx]; exact xl_set1 hp))
theorem g_inc0 {i : Nat} {x y : Int} {L' : List xV} (hd : decode Y.2.1 pc = .ok (.iinc i y, 3)) (hL0 : L[i]? = some (vI x)) (hn : i < Y.2.2.1) (hp : ∀ u, L[i - 1]? = some u → 0 < i → u.1 ≠ 1) (hL : L.set i (vI (x + y)) = L') (k : xG d bc bs Y (pc + 3) L' S n σ K) : xG d bc bs Y pc L S n σ K := by
  intro E p l e R s m args below meth c mc ms Q F H locs cells slots ls hH hS h1 h2 hl
  subst hL
  obtain ⟨kk, hk⟩ := List.getElem?_of_mem ((xl_mem (E := E) L 0 i _).mpr ⟨i, vI x, hL0, (fun h => nomatch h), by omega, rfl⟩)
  exact lv_iinc F.1 F.2.1 hd hl hk (v := Int32.ofInt (x + y)) (by rw [Int32.ofInt_add]; rfl) hn rfl fun ls' hl' => k E p l e R s m args below meth c mc ms Q F H locs cells slots ls' hH hS h1 h2 (lv_has_mono hl' (xl_set1 hp))
theorem g_ist_0 {x : Int} {a0 : xV} {t : List xV} (hd : decode Y.2.1 pc = .ok (.istore 0, 2)) (hn : 0 < Y.2.2.1)  (k : xG d bc bs Y (pc + 2) (vI x :: t) S n σ K) : xG d bc bs Y pc (a0 :: t) (vI x :: S) n σ K := g_ist0 (i := 0) hd hn (fun _ _ h => absurd h (by omega)) rfl k
theorem g_ast_0 {x : Int} {a0 : xV} {t : List xV} (hd : decode Y.2.1 pc = .ok (.astore 0, 2)) (hx0 : 0 ≤ x) (hn : 0 < Y.2.2.1)  (k : xG d bc bs Y (pc + 2) (vR x :: t) S n σ K) : xG d bc bs Y pc (a0 :: t) (vR x :: S) n σ K := g_ast0 (i := 0) hd hx0 hn (fun _ _ h => absurd h (by omega)) rfl k
theorem g_lst_0 {x : Int} {a0 b : xV} {t : List xV} (hd : decode Y.2.1 pc = .ok (.lstore 0, 2)) (hn : 0 + 1 < Y.2.2.1)  (k : xG d bc bs Y (pc + 2) (vL x :: vX :: t) S n σ K) : xG d bc bs Y pc (a0 :: b :: t) (vL x :: S) n σ K := g_lst0 (i := 0) hd hn (fun _ _ h => absurd h (by omega)) rfl k
theorem g_istn_0 {x : Int} {a0 : xV} {t : List xV} (hd : decode Y.2.1 pc = .ok (.istore_n 0, 1)) (hn : 0 < Y.2.2.1)  (k : xG d bc bs Y (pc + 1) (vI x :: t) S n σ K) : xG d bc bs Y pc (a0 :: t) (vI x :: S) n σ K := g_istn0 (i := 0) hd rfl hn (fun _ _ h => absurd h (by omega)) rfl k
theorem g_astn_0 {x : Int} {a0 : xV} {t : List xV} (hd : decode Y.2.1 pc = .ok (.astore_n 0, 1)) (hx0 : 0 ≤ x) (hn : 0 < Y.2.2.1)  (k : xG d bc bs Y (pc + 1) (vR x :: t) S n σ K) : xG d bc bs Y pc (a0 :: t) (vR x :: S) n σ K := g_astn0 (i := 0) hd rfl hx0 hn (fun _ _ h => absurd h (by omega)) rfl k
theorem g_lstn_0 {x : Int} {a0 b : xV} {t : List xV} (hd : decode Y.2.1 pc = .ok (.lstore_n 0, 1)) (hn : 0 + 1 < Y.2.2.1)  (k : xG d bc bs Y (pc + 1) (vL x :: vX :: t) S n σ K) : xG d bc bs Y pc (a0 :: b :: t) (vL x :: S) n σ K := g_lstn0 (i := 0) hd rfl hn (fun _ _ h => absurd h (by omega)) rfl k
theorem g_inc_0 {x y : Int} {t : List xV} (hd : decode Y.2.1 pc = .ok (.iinc 0 y, 3)) (hn : 0 < Y.2.2.1)  (k : xG d bc bs Y (pc + 3) (vI (x + y) :: t) S n σ K) : xG d bc bs Y pc (vI x :: t) S n σ K := g_inc0 (i := 0) hd rfl hn (fun _ _ h => absurd h (by omega)) rfl k
theorem g_ist_1 {x : Int} {a0 a1 : xV} {t : List xV} (hd : decode Y.2.1 pc = .ok (.istore 1, 2)) (hn : 1 < Y.2.2.1) (hp : (a0.1 == 1) = false) (k : xG d bc bs Y (pc + 2) (a0 :: vI x :: t) S n σ K) : xG d bc bs Y pc (a0 :: a1 :: t) (vI x :: S) n σ K := g_ist0 (i := 1) hd hn (fun u hu _ => by simp at hu; subst hu; simpa using hp) rfl k
theorem g_ast_1 {x : Int} {a0 a1 : xV} {t : List xV} (hd : decode Y.2.1 pc = .ok (.astore 1, 2)) (hx0 : 0 ≤ x) (hn : 1 < Y.2.2.1) (hp : (a0.1 == 1) = false) (k : xG d bc bs Y (pc + 2) (a0 :: vR x :: t) S n σ K) : xG d bc bs Y pc (a0 :: a1 :: t) (vR x :: S) n σ K := g_ast0 (i := 1) hd hx0 hn (fun u hu _ => by simp at hu; subst hu; simpa using hp) rfl k
theorem g_lst_1 {x : Int} {a0 a1 b : xV} {t : List xV} (hd : decode Y.2.1 pc = .ok (.lstore 1, 2)) (hn : 1 + 1 < Y.2.2.1) (hp : (a0.1 == 1) = false) (k : xG d bc bs Y (pc + 2) (a0 :: vL x :: vX :: t) S n σ K) : xG d bc bs Y pc (a0 :: a1 :: b :: t) (vL x :: S) n σ K := g_lst0 (i := 1) hd hn (fun u hu _ => by simp at hu; subst hu; simpa using hp) rfl k
theorem g_istn_1 {x : Int} {a0 a1 : xV} {t : List xV} (hd : decode Y.2.1 pc = .ok (.istore_n 1, 1)) (hn : 1 < Y.2.2.1) (hp : (a0.1 == 1) = false) (k : xG d bc bs Y (pc + 1) (a0 :: vI x :: t) S n σ K) : xG d bc bs Y pc (a0 :: a1 :: t) (vI x :: S) n σ K := g_istn0 (i := 1) hd rfl hn (fun u hu _ => by simp at hu; subst hu; simpa using hp) rfl k
theorem g_astn_1 {x : Int} {a0 a1 : xV} {t : List xV} (hd : decode Y.2.1 pc = .ok (.astore_n 1, 1)) (hx0 : 0 ≤ x) (hn : 1 < Y.2.2.1) (hp : (a0.1 == 1) = false) (k : xG d bc bs Y (pc + 1) (a0 :: vR x :: t) S n σ K) : xG d bc bs Y pc (a0 :: a1 :: t) (vR x :: S) n σ K := g_astn0 (i := 1) hd rfl hx0 hn (fun u hu _ => by simp at hu; subst hu; simpa using hp) rfl k
theorem g_lstn_1 {x : Int} {a0 a1 b : xV} {t : List xV} (hd : decode Y.2.1 pc = .ok (.lstore_n 1, 1)) (hn : 1 + 1 < Y.2.2.1) (hp : (a0.1 == 1) = false) (k : xG d bc bs Y (pc + 1) (a0 :: vL x :: vX :: t) S n σ K) : xG d bc bs Y pc (a0 :: a1 :: b :: t) (vL x :: S) n σ K := g_lstn0 (i := 1) hd rfl hn (fun u hu _ => by simp at hu; subst hu; simpa using hp) rfl k
theorem g_inc_1 {x y : Int} {a0 : xV} {t : List xV} (hd : decode Y.2.1 pc = .ok (.iinc 1 y, 3)) (hn : 1 < Y.2.2.1) (hp : (a0.1 == 1) = false) (k : xG d bc bs Y (pc + 3) (a0 :: vI (x + y) :: t) S n σ K) : xG d bc bs Y pc (a0 :: vI x :: t) S n σ K := g_inc0 (i := 1) hd rfl hn (fun u hu _ => by simp at hu; subst hu; simpa using hp) rfl k
theorem g_ist_2 {x : Int} {a0 a1 a2 : xV} {t : List xV} (hd : decode Y.2.1 pc = .ok (.istore 2, 2)) (hn : 2 < Y.2.2.1) (hp : (a1.1 == 1) = false) (k : xG d bc bs Y (pc + 2) (a0 :: a1 :: vI x :: t) S n σ K) : xG d bc bs Y pc (a0 :: a1 :: a2 :: t) (vI x :: S) n σ K := g_ist0 (i := 2) hd hn (fun u hu _ => by simp at hu; subst hu; simpa using hp) rfl k
theorem g_ast_2 {x : Int} {a0 a1 a2 : xV} {t : List xV} (hd : decode Y.2.1 pc = .ok (.astore 2, 2)) (hx0 : 0 ≤ x) (hn : 2 < Y.2.2.1) (hp : (a1.1 == 1) = false) (k : xG d bc bs Y (pc + 2) (a0 :: a1 :: vR x :: t) S n σ K) : xG d bc bs Y pc (a0 :: a1 :: a2 :: t) (vR x :: S) n σ K := g_ast0 (i := 2) hd hx0 hn (fun u hu _ => by simp at hu; subst hu; simpa using hp) rfl k
theorem g_lst_2 {x : Int} {a0 a1 a2 b : xV} {t : List xV} (hd : decode Y.2.1 pc = .ok (.lstore 2, 2)) (hn : 2 + 1 < Y.2.2.1) (hp : (a1.1 == 1) = false) (k : xG d bc bs Y (pc + 2) (a0 :: a1 :: vL x :: vX :: t) S n σ K) : xG d bc bs Y pc (a0 :: a1 :: a2 :: b :: t) (vL x :: S) n σ K := g_lst0 (i := 2) hd hn (fun u hu _ => by simp at hu; subst hu; simpa using hp) rfl k
theorem g_istn_2 {x : Int} {a0 a1 a2 : xV} {t : List xV} (hd : decode Y.2.1 pc = .ok (.istore_n 2, 1)) (hn : 2 < Y.2.2.1) (hp : (a1.1 == 1) = false) (k : xG d bc bs Y (pc + 1) (a0 :: a1 :: vI x :: t) S n σ K) : xG d bc bs Y pc (a0 :: a1 :: a2 :: t) (vI x :: S) n σ K := g_istn0 (i := 2) hd rfl hn (fun u hu _ => by simp at hu; subst hu; simpa using hp) rfl k
theorem g_astn_2 {x : Int} {a0 a1 a2 : xV} {t : List xV} (hd : decode Y.2.1 pc = .ok (.astore_n 2, 1)) (hx0 : 0 ≤ x) (hn : 2 < Y.2.2.1) (hp : (a1.1 == 1) = false) (k : xG d bc bs Y (pc + 1) (a0 :: a1 :: vR x :: t) S n σ K) : xG d bc bs Y pc (a0 :: a1 :: a2 :: t) (vR x :: S) n σ K := g_astn0 (i := 2) hd rfl hx0 hn (fun u hu _ => by simp at hu; subst hu; simpa using hp) rfl k
theorem g_lstn_2 {x : Int} {a0 a1 a2 b : xV} {t : List xV} (hd : decode Y.2.1 pc = .ok (.lstore_n 2, 1)) (hn : 2 + 1 < Y.2.2.1) (hp : (a1.1 == 1) = false) (k : xG d bc bs Y (pc + 1) (a0 :: a1 :: vL x :: vX :: t) S n σ K) : xG d bc bs Y pc (a0 :: a1 :: a2 :: b :: t) (vL x :: S) n σ K := g_lstn0 (i := 2) hd rfl hn (fun u hu _ => by simp at hu; subst hu; simpa using hp) rfl k
theorem g_inc_2 {x y : Int} {a0 a1 : xV} {t : List xV} (hd : decode Y.2.1 pc = .ok (.iinc 2 y, 3)) (hn : 2 < Y.2.2.1) (hp : (a1.1 == 1) = false) (k : xG d bc bs Y (pc + 3) (a0 :: a1 :: vI (x + y) :: t) S n σ K) : xG d bc bs Y pc (a0 :: a1 :: vI x :: t) S n σ K := g_inc0 (i := 2) hd rfl hn (fun u hu _ => by simp at hu; subst hu; simpa using hp) rfl k
theorem g_ist_3 {x : Int} {a0 a1 a2 a3 : xV} {t : List xV} (hd : decode Y.2.1 pc = .ok (.istore 3, 2)) (hn : 3 < Y.2.2.1) (hp : (a2.1 == 1) = false) (k : xG d bc bs Y (pc + 2) (a0 :: a1 :: a2 :: vI x :: t) S n σ K) : xG d bc bs Y pc (a0 :: a1 :: a2 :: a3 :: t) (vI x :: S) n σ K := g_ist0 (i := 3) hd hn (fun u hu _ => by simp at hu; subst hu; simpa using hp) rfl k
theorem g_ast_3 {x : Int} {a0 a1 a2 a3 : xV} {t : List xV} (hd : decode Y.2.1 pc = .ok (.astore 3, 2)) (hx0 : 0 ≤ x) (hn : 3 < Y.2.2.1) (hp : (a2.1 == 1) = false) (k : xG d bc bs Y (pc + 2) (a0 :: a1 :: a2 :: vR x :: t) S n σ K) : xG d bc bs Y pc (a0 :: a1 :: a2 :: a3 :: t) (vR x :: S) n σ K := g_ast0 (i := 3) hd hx0 hn (fun u hu _ => by simp at hu; subst hu; simpa using hp) rfl k
theorem g_lst_3 {x : Int} {a0 a1 a2 a3 b : xV} {t : List xV} (hd : decode Y.2.1 pc = .ok (.lstore 3, 2)) (hn : 3 + 1 < Y.2.2.1) (hp : (a2.1 == 1) = false) (k : xG d bc bs Y (pc + 2) (a0 :: a1 :: a2 :: vL x :: vX :: t) S n σ K) : xG d bc bs Y pc (a0 :: a1 :: a2 :: a3 :: b :: t) (vL x :: S) n σ K := g_lst0 (i := 3) hd hn (fun u hu _ => by simp at hu; subst hu; simpa using hp) rfl k
theorem g_istn_3 {x : Int} {a0 a1 a2 a3 : xV} {t : List xV} (hd : decode Y.2.1 pc = .ok (.istore_n 3, 1)) (hn : 3 < Y.2.2.1) (hp : (a2.1 == 1) = false) (k : xG d bc bs Y (pc + 1) (a0 :: a1 :: a2 :: vI x :: t) S n σ K) : xG d bc bs Y pc (a0 :: a1 :: a2 :: a3 :: t) (vI x :: S) n σ K := g_istn0 (i := 3) hd rfl hn (fun u hu _ => by simp at hu; subst hu; simpa using hp) rfl k
theorem g_astn_3 {x : Int} {a0 a1 a2 a3 : xV} {t : List xV} (hd : decode Y.2.1 pc = .ok (.astore_n 3, 1)) (hx0 : 0 ≤ x) (hn : 3 < Y.2.2.1) (hp : (a2.1 == 1) = false) (k : xG d bc bs Y (pc + 1) (a0 :: a1 :: a2 :: vR x :: t) S n σ K) : xG d bc bs Y pc (a0 :: a1 :: a2 :: a3 :: t) (vR x :: S) n σ K := g_astn0 (i := 3) hd rfl hx0 hn (fun u hu _ => by simp at hu; subst hu; simpa using hp) rfl k
theorem g_lstn_3 {x : Int} {a0 a1 a2 a3 b : xV} {t : List xV} (hd : decode Y.2.1 pc = .ok (.lstore_n 3, 1)) (hn : 3 + 1 < Y.2.2.1) (hp : (a2.1 == 1) = false) (k : xG d bc bs Y (pc + 1) (a0 :: a1 :: a2 :: vL x :: vX :: t) S n σ K) : xG d bc bs Y pc (a0 :: a1 :: a2 :: a3 :: b :: t) (vL x :: S) n σ K := g_lstn0 (i := 3) hd rfl hn (fun u hu _ => by simp at hu; subst hu; simpa using hp) rfl k
theorem g_inc_3 {x y : Int} {a0 a1 a2 : xV} {t : List xV} (hd : decode Y.2.1 pc = .ok (.iinc 3 y, 3)) (hn : 3 < Y.2.2.1) (hp : (a2.1 == 1) = false) (k : xG d bc bs Y (pc + 3) (a0 :: a1 :: a2 :: vI (x + y) :: t) S n σ K) : xG d bc bs Y pc (a0 :: a1 :: a2 :: vI x :: t) S n σ K := g_inc0 (i := 3) hd rfl hn (fun u hu _ => by simp at hu; subst hu; simpa using hp) rfl k
theorem g_ist_4 {x : Int} {a0 a1 a2 a3 a4 : xV} {t : List xV} (hd : decode Y.2.1 pc = .ok (.istore 4, 2)) (hn : 4 < Y.2.2.1) (hp : (a3.1 == 1) = false) (k : xG d bc bs Y (pc + 2) (a0 :: a1 :: a2 :: a3 :: vI x :: t) S n σ K) : xG d bc bs Y pc (a0 :: a1 :: a2 :: a3 :: a4 :: t) (vI x :: S) n σ K := g_ist0 (i := 4) hd hn (fun u hu _ => by simp at hu; subst hu; simpa using hp) rfl k
theorem g_ast_4 {x : Int} {a0 a1 a2 a3 a4 : xV} {t : List xV} (hd : decode Y.2.1 pc = .ok (.astore 4, 2)) (hx0 : 0 ≤ x) (hn : 4 < Y.2.2.1) (hp : (a3.1 == 1) = false) (k : xG d bc bs Y (pc + 2) (a0 :: a1 :: a2 :: a3 :: vR x :: t) S n σ K) : xG d bc bs Y pc (a0 :: a1 :: a2 :: a3 :: a4 :: t) (vR x :: S) n σ K := g_ast0 (i := 4) hd hx0 hn (fun u hu _ => by simp at hu; subst hu; simpa using hp) rfl k
theorem g_lst_4 {x : Int} {a0 a1 a2 a3 a4 b : xV} {t : List xV} (hd : decode Y.2.1 pc = .ok (.lstore 4, 2)) (hn : 4 + 1 < Y.2.2.1) (hp : (a3.1 == 1) = false) (k : xG d bc bs Y (pc + 2) (a0 :: a1 :: a2 :: a3 :: vL x :: vX :: t) S n σ K) : xG d bc bs Y pc (a0 :: a1 :: a2 :: a3 :: a4 :: b :: t) (vL x :: S) n σ K := g_lst0 (i := 4) hd hn (fun u hu _ => by simp at hu; subst hu; simpa using hp) rfl k
theorem g_inc_4 {x y : Int} {a0 a1 a2 a3 : xV} {t : List xV} (hd : decode Y.2.1 pc = .ok (.iinc 4 y, 3)) (hn : 4 < Y.2.2.1) (hp : (a3.1 == 1) = false) (k : xG d bc bs Y (pc + 3) (a0 :: a1 :: a2 :: a3 :: vI (x + y) :: t) S n σ K) : xG d bc bs Y pc (a0 :: a1 :: a2 :: a3 :: vI x :: t) S n σ K := g_inc0 (i := 4) hd rfl hn (fun u hu _ => by simp at hu; subst hu; simpa using hp) rfl k
theorem g_ist_5 {x : Int} {a0 a1 a2 a3 a4 a5 : xV} {t : List xV} (hd : decode Y.2.1 pc = .ok (.istore 5, 2)) (hn : 5 < Y.2.2.1) (hp : (a4.1 == 1) = false) (k : xG d bc bs Y (pc + 2) (a0 :: a1 :: a2 :: a3 :: a4 :: vI x :: t) S n σ K) : xG d bc bs Y pc (a0 :: a1 :: a2 :: a3 :: a4 :: a5 :: t) (vI x :: S) n σ K := g_ist0 (i := 5) hd hn (fun u hu _ => by simp at hu; subst hu; simpa using hp) rfl k
theorem g_ast_5 {x : Int} {a0 a1 a2 a3 a4 a5 : xV} {t : List xV} (hd : decode Y.2.1 pc = .ok (.astore 5, 2)) (hx0 : 0 ≤ x) (hn : 5 < Y.2.2.1) (hp : (a4.1 == 1) = false) (k : xG d bc bs Y (pc + 2) (a0 :: a1 :: a2 :: a3 :: a4 :: vR x :: t) S n σ K) : xG d bc bs Y pc (a0 :: a1 :: a2 :: a3 :: a4 :: a5 :: t) (vR x :: S) n σ K := g_ast0 (i := 5) hd hx0 hn (fun u hu _ => by simp at hu; subst hu; simpa using hp) rfl k
theorem g_lst_5 {x : Int} {a0 a1 a2 a3 a4 a5 b : xV} {t : List xV} (hd : decode Y.2.1 pc = .ok (.lstore 5, 2)) (hn : 5 + 1 < Y.2.2.1) (hp : (a4.1 == 1) = false) (k : xG d bc bs Y (pc + 2) (a0 :: a1 :: a2 :: a3 :: a4 :: vL x :: vX :: t) S n σ K) : xG d bc bs Y pc (a0 :: a1 :: a2 :: a3 :: a4 :: a5 :: b :: t) (vL x :: S) n σ K := g_lst0 (i := 5) hd hn (fun u hu _ => by simp at hu; subst hu; simpa using hp) rfl k
theorem g_inc_5 {x y : Int} {a0 a1 a2 a3 a4 : xV} {t : List xV} (hd : decode Y.2.1 pc = .ok (.iinc 5 y, 3)) (hn : 5 < Y.2.2.1) (hp : (a4.1 == 1) = false) (k : xG d bc bs Y (pc + 3) (a0 :: a1 :: a2 :: a3 :: a4 :: vI (x + y) :: t) S n σ K) : xG d bc bs Y pc (a0 :: a1 :: a2 :: a3 :: a4 :: vI x :: t) S n σ K := g_inc0 (i := 5) hd rfl hn (fun u hu _ => by simp at hu; subst hu; simpa using hp) rfl k
theorem g_ist_6 {x : Int} {a0 a1 a2 a3 a4 a5 a6 : xV} {t : List xV} (hd : decode Y.2.1 pc = .ok (.istore 6, 2)) (hn : 6 < Y.2.2.1) (hp : (a5.1 == 1) = false) (k : xG d bc bs Y (pc + 2) (a0 :: a1 :: a2 :: a3 :: a4 :: a5 :: vI x :: t) S n σ K) : xG d bc bs Y pc (a0 :: a1 :: a2 :: a3 :: a4 :: a5 :: a6 :: t) (vI x :: S) n σ K := g_ist0 (i := 6) hd hn (fun u hu _ => by simp at hu; subst hu; simpa using hp) rfl k
theorem g_ast_6 {x : Int} {a0 a1 a2 a3 a4 a5 a6 : xV} {t : List xV} (hd : decode Y.2.1 pc = .ok (.astore 6, 2)) (hx0 : 0 ≤ x) (hn : 6 < Y.2.2.1) (hp : (a5.1 == 1) = false) (k : xG d bc bs Y (pc + 2) (a0 :: a1 :: a2 :: a3 :: a4 :: a5 :: vR x :: t) S n σ K) : xG d bc bs Y pc (a0 :: a1 :: a2 :: a3 :: a4 :: a5 :: a6 :: t) (vR x :: S) n σ K := g_ast0 (i := 6) hd hx0 hn (fun u hu _ => by simp at hu; subst hu; simpa using hp) rfl k
theorem g_lst_6 {x : Int} {a0 a1 a2 a3 a4 a5 a6 b : xV} {t : List xV} (hd : decode Y.2.1 pc = .ok (.lstore 6, 2)) (hn : 6 + 1 < Y.2.2.1) (hp : (a5.1 == 1) = false) (k : xG d bc bs Y (pc + 2) (a0 :: a1 :: a2 :: a3 :: a4 :: a5 :: vL x :: vX :: t) S n σ K) : xG d bc bs Y pc (a0 :: a1 :: a2 :: a3 :: a4 :: a5 :: a6 :: b :: t) (vL x :: S) n σ K := g_lst0 (i := 6) hd hn (fun u hu _ => by simp at hu; subst hu; simpa using hp) rfl k
theorem g_inc_6 {x y : Int} {a0 a1 a2 a3 a4 a5 : xV} {t : List xV} (hd : decode Y.2.1 pc = .ok (.iinc 6 y, 3)) (hn : 6 < Y.2.2.1) (hp : (a5.1 == 1) = false) (k : xG d bc bs Y (pc + 3) (a0 :: a1 :: a2 :: a3 :: a4 :: a5 :: vI (x + y) :: t) S n σ K) : xG d bc bs Y pc (a0 :: a1 :: a2 :: a3 :: a4 :: a5 :: vI x :: t) S n σ K := g_inc0 (i := 6) hd rfl hn (fun u hu _ => by simp at hu; subst hu; simpa using hp) rfl k
theorem g_ist_7 {x : Int} {a0 a1 a2 a3 a4 a5 a6 a7 : xV} {t : List xV} (hd : decode Y.2.1 pc = .ok (.istore 7, 2)) (hn : 7 < Y.2.2.1) (hp : (a6.1 == 1) = false) (k : xG d bc bs Y (pc + 2) (a0 :: a1 :: a2 :: a3 :: a4 :: a5 :: a6 :: vI x :: t) S n σ K) : xG d bc bs Y pc (a0 :: a1 :: a2 :: a3 :: a4 :: a5 :: a6 :: a7 :: t) (vI x :: S) n σ K := g_ist0 (i := 7) hd hn (fun u hu _ => by simp at hu; subst hu; simpa using hp) rfl k
theorem g_ast_7 {x : Int} {a0 a1 a2 a3 a4 a5 a6 a7 : xV} {t : List xV} (hd : decode Y.2.1 pc = .ok (.astore 7, 2)) (hx0 : 0 ≤ x) (hn : 7 < Y.2.2.1) (hp : (a6.1 == 1) = false) (k : xG d bc bs Y (pc + 2) (a0 :: a1 :: a2 :: a3 :: a4 :: a5 :: a6 :: vR x :: t) S n σ K) : xG d bc bs Y pc (a0 :: a1 :: a2 :: a3 :: a4 :: a5 :: a6 :: a7 :: t) (vR x :: S) n σ K := g_ast0 (i := 7) hd hx0 hn (fun u hu _ => by simp at hu; subst hu; simpa using hp) rfl k
theorem g_lst_7 {x : Int} {a0 a1 a2 a3 a4 a5 a6 a7 b : xV} {t : List xV} (hd : decode Y.2.1 pc = .ok (.lstore 7, 2)) (hn : 7 + 1 < Y.2.2.1) (hp : (a6.1 == 1) = false) (k : xG d bc bs Y (pc + 2) (a0 :: a1 :: a2 :: a3 :: a4 :: a5 :: a6 :: vL x :: vX :: t) S n σ K) : xG d bc bs Y pc (a0 :: a1 :: a2 :: a3 :: a4 :: a5 :: a6 :: a7 :: b :: t) (vL x :: S) n σ K := g_lst0 (i := 7) hd hn (fun u hu _ => by simp at hu; subst hu; simpa using hp) rfl k
theorem g_inc_7 {x y : Int} {a0 a1 a2 a3 a4 a5 a6 : xV} {t : List xV} (hd : decode Y.2.1 pc = .ok (.iinc 7 y, 3)) (hn : 7 < Y.2.2.1) (hp : (a6.1 == 1) = false) (k : xG d bc bs Y (pc + 3) (a0 :: a1 :: a2 :: a3 :: a4 :: a5 :: a6 :: vI (x + y) :: t) S n σ K) : xG d bc bs Y pc (a0 :: a1 :: a2 :: a3 :: a4 :: a5 :: a6 :: vI x :: t) S n σ K := g_inc0 (i := 7) hd rfl hn (fun u hu _ => by simp at hu; subst hu; simpa using hp) rfl k
theorem g_ist_8 {x : Int} {a0 a1 a2 a3 a4 a5 a6 a7 a8 : xV} {t : List xV} (hd : decode Y.2.1 pc = .ok (.istore 8, 2)) (hn : 8 < Y.2.2.1) (hp : (a7.1 == 1) = false) (k : xG d bc bs Y (pc + 2) (a0 :: a1 :: a2 :: a3 :: a4 :: a5 :: a6 :: a7 :: vI x :: t) S n σ K) : xG d bc bs Y pc (a0 :: a1 :: a2 :: a3 :: a4 :: a5 :: a6 :: a7 :: a8 :: t) (vI x :: S) n σ K := g_ist0 (i := 8) hd hn (fun u hu _ => by simp at hu; subst hu; simpa using hp) rfl k
theorem g_ast_8 {x : Int} {a0 a1 a2 a3 a4 a5 a6 a7 a8 : xV} {t : List xV} (hd : decode Y.2.1 pc = .ok (.astore 8, 2)) (hx0 : 0 ≤ x) (hn : 8 < Y.2.2.1) (hp : (a7.1 == 1) = false) (k : xG d bc bs Y (pc + 2) (a0 :: a1 :: a2 :: a3 :: a4 :: a5 :: a6 :: a7 :: vR x :: t) S n σ K) : xG d bc bs Y pc (a0 :: a1 :: a2 :: a3 :: a4 :: a5 :: a6 :: a7 :: a8 :: t) (vR x :: S) n σ K := g_ast0 (i := 8) hd hx0 hn (fun u hu _ => by simp at hu; subst hu; simpa using hp) rfl k
theorem g_lst_8 {x : Int} {a0 a1 a2 a3 a4 a5 a6 a7 a8 b : xV} {t : List xV} (hd : decode Y.2.1 pc = .ok (.lstore 8, 2)) (hn : 8 + 1 < Y.2.2.1) (hp : (a7.1 == 1) = false) (k : xG d bc bs Y (pc + 2) (a0 :: a1 :: a2 :: a3 :: a4 :: a5 :: a6 :: a7 :: vL x :: vX :: t) S n σ K) : xG d bc bs Y pc (a0 :: a1 :: a2 :: a3 :: a4 :: a5 :: a6 :: a7 :: a8 :: b :: t) (vL x :: S) n σ K := g_lst0 (i := 8) hd hn (fun u hu _ => by simp at hu; subst hu; simpa using hp) rfl k
theorem g_inc_8 {x y : Int} {a0 a1 a2 a3 a4 a5 a6 a7 : xV} {t : List xV} (hd : decode Y.2.1 pc = .ok (.iinc 8 y, 3)) (hn : 8 < Y.2.2.1) (hp : (a7.1 == 1) = false) (k : xG d bc bs Y (pc + 3) (a0 :: a1 :: a2 :: a3 :: a4 :: a5 :: a6 :: a7 :: vI (x + y) :: t) S n σ K) : xG d bc bs Y pc (a0 :: a1 :: a2 :: a3 :: a4 :: a5 :: a6 :: a7 :: vI x :: t) S n σ K := g_inc0 (i := 8) hd rfl hn (fun u hu _ => by simp at hu; subst hu; simpa using hp) rfl k
theorem g_ist_9 {x : Int} {a0 a1 a2 a3 a4 a5 a6 a7 a8 a9 : xV} {t : List xV} (hd : decode Y.2.1 pc = .ok (.istore 9, 2)) (hn : 9 < Y.2.2.1) (hp : (a8.1 == 1) = false) (k : xG d bc bs Y (pc + 2) (a0 :: a1 :: a2 :: a3 :: a4 :: a5 :: a6 :: a7 :: a8 :: vI x :: t) S n σ K) : xG d bc bs Y pc (a0 :: a1 :: a2 :: a3 :: a4 :: a5 :: a6 :: a7 :: a8 :: a9 :: t) (vI x :: S) n σ K := g_ist0 (i := 9) hd hn (fun u hu _ => by simp at hu; subst hu; simpa using hp) rfl k
theorem g_ast_9 {x : Int} {a0 a1 a2 a3 a4 a5 a6 a7 a8 a9 : xV} {t : List xV} (hd : decode Y.2.1 pc = .ok (.astore 9, 2)) (hx0 : 0 ≤ x) (hn : 9 < Y.2.2.1) (hp : (a8.1 == 1) = false) (k : xG d bc bs Y (pc + 2) (a0 :: a1 :: a2 :: a3 :: a4 :: a5 :: a6 :: a7 :: a8 :: vR x :: t) S n σ K) : xG d bc bs Y pc (a0 :: a1 :: a2 :: a3 :: a4 :: a5 :: a6 :: a7 :: a8 :: a9 :: t) (vR x :: S) n σ K := g_ast0 (i := 9) hd hx0 hn (fun u hu _ => by simp at hu; subst hu; simpa using hp) rfl k
theorem g_lst_9 {x : Int} {a0 a1 a2 a3 a4 a5 a6 a7 a8 a9 b : xV} {t : List xV} (hd : decode Y.2.1 pc = .ok (.lstore 9, 2)) (hn : 9 + 1 < Y.2.2.1) (hp : (a8.1 == 1) = false) (k : xG d bc bs Y (pc + 2) (a0 :: a1 :: a2 :: a3 :: a4 :: a5 :: a6 :: a7 :: a8 :: vL x :: vX :: t) S n σ K) : xG d bc bs Y pc (a0 :: a1 :: a2 :: a3 :: a4 :: a5 :: a6 :: a7 :: a8 :: a9 :: b :: t) (vL x :: S) n σ K := g_lst0 (i := 9) hd hn (fun u hu _ => by simp at hu; subst hu; simpa using hp) rfl k
theorem g_inc_9 {x y : Int} {a0 a1 a2 a3 a4 a5 a6 a7 a8 : xV} {t : List xV} (hd : decode Y.2.1 pc = .ok (.iinc 9 y, 3)) (hn : 9 < Y.2.2.1) (hp : (a8.1 == 1) = false) (k : xG d bc bs Y (pc + 3) (a0 :: a1 :: a2 :: a3 :: a4 :: a5 :: a6 :: a7 :: a8 :: vI (x + y) :: t) S n σ K) : xG d bc bs Y pc (a0 :: a1 :: a2 :: a3 :: a4 :: a5 :: a6 :: a7 :: a8 :: vI x :: t) S n σ K := g_inc0 (i := 9) hd rfl hn (fun u hu _ => by simp at hu; subst hu; simpa using hp) rfl k
theorem g_ist_10 {x : Int} {a0 a1 a2 a3 a4 a5 a6 a7 a8 a9 a10 : xV} {t : List xV} (hd : decode Y.2.1 pc = .ok (.istore 10, 2)) (hn : 10 < Y.2.2.1) (hp : (a9.1 == 1) = false) (k : xG d bc bs Y (pc + 2) (a0 :: a1 :: a2 :: a3 :: a4 :: a5 :: a6 :: a7 :: a8 :: a9 :: vI x :: t) S n σ K) : xG d bc bs Y pc (a0 :: a1 :: a2 :: a3 :: a4 :: a5 :: a6 :: a7 :: a8 :: a9 :: a10 :: t) (vI x :: S) n σ K := g_ist0 (i := 10) hd hn (fun u hu _ => by simp at hu; subst hu; simpa using hp) rfl k
theorem g_ast_10 {x : Int} {a0 a1 a2 a3 a4 a5 a6 a7 a8 a9 a10 : xV} {t : List xV} (hd : decode Y.2.1 pc = .ok (.astore 10, 2)) (hx0 : 0 ≤ x) (hn : 10 < Y.2.2.1) (hp : (a9.1 == 1) = false) (k : xG d bc bs Y (pc + 2) (a0 :: a1 :: a2 :: a3 :: a4 :: a5 :: a6 :: a7 :: a8 :: a9 :: vR x :: t) S n σ K) : xG d bc bs Y pc (a0 :: a1 :: a2 :: a3 :: a4 :: a5 :: a6 :: a7 :: a8 :: a9 :: a10 :: t) (vR x :: S) n σ K := g_ast0 (i := 10) hd hx0 hn (fun u hu _ => by simp at hu; subst hu; simpa using hp) rfl k
theorem g_lst_10 {x : Int} {a0 a1 a2 a3 a4 a5 a6 a7 a8 a9 a10 b : xV} {t : List xV} (hd : decode Y.2.1 pc = .ok (.lstore 10, 2)) (hn : 10 + 1 < Y.2.2.1) (hp : (a9.1 == 1) = false) (k : xG d bc bs Y (pc + 2) (a0 :: a1 :: a2 :: a3 :: a4 :: a5 :: a6 :: a7 :: a8 :: a9 :: vL x :: vX :: t) S n σ K) : xG d bc bs Y pc (a0 :: a1 :: a2 :: a3 :: a4 :: a5 :: a6 :: a7 :: a8 :: a9 :: a10 :: b :: t) (vL x :: S) n σ K := g_lst0 (i := 10) hd hn (fun u hu _ => by simp at hu; subst hu; simpa using hp) rfl k
theorem g_inc_10 {x y : Int} {a0 a1 a2 a3 a4 a5 a6 a7 a8 a9 : xV} {t : List xV} (hd : decode Y.2.1 pc = .ok (.iinc 10 y, 3)) (hn : 10 < Y.2.2.1) (hp : (a9.1 == 1) = false) (k : xG d bc bs Y (pc + 3) (a0 :: a1 :: a2 :: a3 :: a4 :: a5 :: a6 :: a7 :: a8 :: a9 :: vI (x + y) :: t) S n σ K) : xG d bc bs Y pc (a0 :: a1 :: a2 :: a3 :: a4 :: a5 :: a6 :: a7 :: a8 :: a9 :: vI x :: t) S n σ K := g_inc0 (i := 10) hd rfl hn (fun u hu _ => by simp at hu; subst hu; simpa using hp) rfl k
theorem g_ist_11 {x : Int} {a0 a1 a2 a3 a4 a5 a6 a7 a8 a9 a10 a11 : xV} {t : List xV} (hd : decode Y.2.1 pc = .ok (.istore 11, 2)) (hn : 11 < Y.2.2.1) (hp : (a10.1 == 1) = false) (k : xG d bc bs Y (pc + 2) (a0 :: a1 :: a2 :: a3 :: a4 :: a5 :: a6 :: a7 :: a8 :: a9 :: a10 :: vI x :: t) S n σ K) : xG d bc bs Y pc (a0 :: a1 :: a2 :: a3 :: a4 :: a5 :: a6 :: a7 :: a8 :: a9 :: a10 :: a11 :: t) (vI x :: S) n σ K := g_ist0 (i := 11) hd hn (fun u hu _ => by simp at hu; subst hu; simpa using hp) rfl k
theorem g_ast_11 {x : Int} {a0 a1 a2 a3 a4 a5 a6 a7 a8 a9 a10 a11 : xV} {t : List xV} (hd : decode Y.2.1 pc = .ok (.astore 11, 2)) (hx0 : 0 ≤ x) (hn : 11 < Y.2.2.1) (hp : (a10.1 == 1) = false) (k : xG d bc bs Y (pc + 2) (a0 :: a1 :: a2 :: a3 :: a4 :: a5 :: a6 :: a7 :: a8 :: a9 :: a10 :: vR x :: t) S n σ K) : xG d bc bs Y pc (a0 :: a1 :: a2 :: a3 :: a4 :: a5 :: a6 :: a7 :: a8 :: a9 :: a10 :: a11 :: t) (vR x :: S) n σ K := g_ast0 (i := 11) hd hx0 hn (fun u hu _ => by simp at hu; subst hu; simpa using hp) rfl k
theorem g_lst_11 {x : Int} {a0 a1 a2 a3 a4 a5 a6 a7 a8 a9 a10 a11 b : xV} {t : List xV} (hd : decode Y.2.1 pc = .ok (.lstore 11, 2)) (hn : 11 + 1 < Y.2.2.1) (hp : (a10.1 == 1) = false) (k : xG d bc bs Y (pc + 2) (a0 :: a1 :: a2 :: a3 :: a4 :: a5 :: a6 :: a7 :: a8 :: a9 :: a10 :: vL x :: vX :: t) S n σ K) : xG d bc bs Y pc (a0 :: a1 :: a2 :: a3 :: a4 :: a5 :: a6 :: a7 :: a8 :: a9 :: a10 :: a11 :: b :: t) (vL x :: S) n σ K := g_lst0 (i := 11) hd hn (fun u hu _ => by simp at hu; subst hu; simpa using hp) rfl k
theorem g_inc_11 {x y : Int} {a0 a1 a2 a3 a4 a5 a6 a7 a8 a9 a10 : xV} {t : List xV} (hd : decode Y.2.1 pc = .ok (.iinc 11 y, 3)) (hn : 11 < Y.2.2.1) (hp : (a10.1 == 1) = false) (k : xG d bc bs Y (pc + 3) (a0 :: a1 :: a2 :: a3 :: a4 :: a5 :: a6 :: a7 :: a8 :: a9 :: a10 :: vI (x + y) :: t) S n σ K) : xG d bc bs Y pc (a0 :: a1 :: a2 :: a3 :: a4 :: a5 :: a6 :: a7 :: a8 :: a9 :: a10 :: vI x :: t) S n σ K := g_inc0 (i := 11) hd rfl hn (fun u hu _ => by simp at hu; subst hu; simpa using hp) rfl k
theorem g_ist_12 {x : Int} {a0 a1 a2 a3 a4 a5 a6 a7 a8 a9 a10 a11 a12 : xV} {t : List xV} (hd : decode Y.2.1 pc = .ok (.istore 12, 2)) (hn : 12 < Y.2.2.1) (hp : (a11.1 == 1) = false) (k : xG d bc bs Y (pc + 2) (a0 :: a1 :: a2 :: a3 :: a4 :: a5 :: a6 :: a7 :: a8 :: a9 :: a10 :: a11 :: vI x :: t) S n σ K) : xG d bc bs Y pc (a0 :: a1 :: a2 :: a3 :: a4 :: a5 :: a6 :: a7 :: a8 :: a9 :: a10 :: a11 :: a12 :: t) (vI x :: S) n σ K := g_ist0 (i := 12) hd hn (fun u hu _ => by simp at hu; subst hu; simpa using hp) rfl k
theorem g_ast_12 {x : Int} {a0 a1 a2 a3 a4 a5 a6 a7 a8 a9 a10 a11 a12 : xV} {t : List xV} (hd : decode Y.2.1 pc = .ok (.astore 12, 2)) (hx0 : 0 ≤ x) (hn : 12 < Y.2.2.1) (hp : (a11.1 == 1) = false) (k : xG d bc bs Y (pc + 2) (a0 :: a1 :: a2 :: a3 :: a4 :: a5 :: a6 :: a7 :: a8 :: a9 :: a10 :: a11 :: vR x :: t) S n σ K) : xG d bc bs Y pc (a0 :: a1 :: a2 :: a3 :: a4 :: a5 :: a6 :: a7 :: a8 :: a9 :: a10 :: a11 :: a12 :: t) (vR x :: S) n σ K := g_ast0 (i := 12) hd hx0 hn (fun u hu _ => by simp at hu; subst hu; simpa using hp) rfl k
theorem g_lst_12 {x : Int} {a0 a1 a2 a3 a4 a5 a6 a7 a8 a9 a10 a11 a12 b : xV} {t : List xV} (hd : decode Y.2.1 pc = .ok (.lstore 12, 2)) (hn : 12 + 1 < Y.2.2.1) (hp : (a11.1 == 1) = false) (k : xG d bc bs Y (pc + 2) (a0 :: a1 :: a2 :: a3 :: a4 :: a5 :: a6 :: a7 :: a8 :: a9 :: a10 :: a11 :: vL x :: vX :: t) S n σ K) : xG d bc bs Y pc (a0 :: a1 :: a2 :: a3 :: a4 :: a5 :: a6 :: a7 :: a8 :: a9 :: a10 :: a11 :: a12 :: b :: t) (vL x :: S) n σ K := g_lst0 (i := 12) hd hn (fun u hu _ => by simp at hu; subst hu; simpa using hp) rfl k
theorem g_inc_12 {x y : Int} {a0 a1 a2 a3 a4 a5 a6 a7 a8 a9 a10 a11 : xV} {t : List xV} (hd : decode Y.2.1 pc = .ok (.iinc 12 y, 3)) (hn : 12 < Y.2.2.1) (hp : (a11.1 == 1) = false) (k : xG d bc bs Y (pc + 3) (a0 :: a1 :: a2 :: a3 :: a4 :: a5 :: a6 :: a7 :: a8 :: a9 :: a10 :: a11 :: vI (x + y) :: t) S n σ K) : xG d bc bs Y pc (a0 :: a1 :: a2 :: a3 :: a4 :: a5 :: a6 :: a7 :: a8 :: a9 :: a10 :: a11 :: vI x :: t) S n σ K := g_inc0 (i := 12) hd rfl hn (fun u hu _ => by simp at hu; subst hu; simpa using hp) rfl k
theorem g_ist_13 {x : Int} {a0 a1 a2 a3 a4 a5 a6 a7 a8 a9 a10 a11 a12 a13 : xV} {t : List xV} (hd : decode Y.2.1 pc = .ok (.istore 13, 2)) (hn : 13 < Y.2.2.1) (hp : (a12.1 == 1) = false) (k : xG d bc bs Y (pc + 2) (a0 :: a1 :: a2 :: a3 :: a4 :: a5 :: a6 :: a7 :: a8 :: a9 :: a10 :: a11 :: a12 :: vI x :: t) S n σ K) : xG d bc bs Y pc (a0 :: a1 :: a2 :: a3 :: a4 :: a5 :: a6 :: a7 :: a8 :: a9 :: a10 :: a11 :: a12 :: a13 :: t) (vI x :: S) n σ K := g_ist0 (i := 13) hd hn (fun u hu _ => by simp at hu; subst hu; simpa using hp) rfl k
theorem g_ast_13 {x : Int} {a0 a1 a2 a3 a4 a5 a6 a7 a8 a9 a10 a11 a12 a13 : xV} {t : List xV} (hd : decode Y.2.1 pc = .ok (.astore 13, 2)) (hx0 : 0 ≤ x) (hn : 13 < Y.2.2.1) (hp : (a12.1 == 1) = false) (k : xG d bc bs Y (pc + 2) (a0 :: a1 :: a2 :: a3 :: a4 :: a5 :: a6 :: a7 :: a8 :: a9 :: a10 :: a11 :: a12 :: vR x :: t) S n σ K) : xG d bc bs Y pc (a0 :: a1 :: a2 :: a3 :: a4 :: a5 :: a6 :: a7 :: a8 :: a9 :: a10 :: a11 :: a12 :: a13 :: t) (vR x :: S) n σ K := g_ast0 (i := 13) hd hx0 hn (fun u hu _ => by simp at hu; subst hu; simpa using hp) rfl k
theorem g_lst_13 {x : Int} {a0 a1 a2 a3 a4 a5 a6 a7 a8 a9 a10 a11 a12 a13 b : xV} {t : List xV} (hd : decode Y.2.1 pc = .ok (.lstore 13, 2)) (hn : 13 + 1 < Y.2.2.1) (hp : (a12.1 == 1) = false) (k : xG d bc bs Y (pc + 2) (a0 :: a1 :: a2 :: a3 :: a4 :: a5 :: a6 :: a7 :: a8 :: a9 :: a10 :: a11 :: a12 :: vL x :: vX :: t) S n σ K) : xG d bc bs Y pc (a0 :: a1 :: a2 :: a3 :: a4 :: a5 :: a6 :: a7 :: a8 :: a9 :: a10 :: a11 :: a12 :: a13 :: b :: t) (vL x :: S) n σ K := g_lst0 (i := 13) hd hn (fun u hu _ => by simp at hu; subst hu; simpa using hp) rfl k
theorem g_inc_13 {x y : Int} {a0 a1 a2 a3 a4 a5 a6 a7 a8 a9 a10 a11 a12 : xV} {t : List xV} (hd : decode Y.2.1 pc = .ok (.iinc 13 y, 3)) (hn : 13 < Y.2.2.1) (hp : (a12.1 == 1) = false) (k : xG d bc bs Y (pc + 3) (a0 :: a1 :: a2 :: a3 :: a4 :: a5 :: a6 :: a7 :: a8 :: a9 :: a10 :: a11 :: a12 :: vI (x + y) :: t) S n σ K) : xG d bc bs Y pc (a0 :: a1 :: a2 :: a3 :: a4 :: a5 :: a6 :: a7 :: a8 :: a9 :: a10 :: a11 :: a12 :: vI x :: t) S n σ K := g_inc0 (i := 13) hd rfl hn (fun u hu _ => by simp at hu; subst hu; simpa using hp) rfl k
theorem g_iadd {a b : Int} (hd : decode Y.2.1 pc = .ok (.iadd, 1))  (k : xG d bc bs Y (pc + 1) L (vI (a + b) :: S) n σ K) : xG d bc bs Y pc L (vI b :: vI a :: S) n σ K := by
  intro E p l e R s m args below meth c mc ms Q F H locs cells slots ls hH hS h1 h2 hl
  have k2 := k E p l e R s m args below meth c mc ms Q F H locs cells slots ls hH hS h1 h2 hl
  rw [List.map_cons, show xr E (vI (a + b)) = .int (Int32.ofInt a + Int32.ofInt b) from congrArg _ (Int32.ofInt_add ..)] at k2
  exact lv_iadd F.1 F.2.1 hd k2
theorem g_isub {a b : Int} (hd : decode Y.2.1 pc = .ok (.isub, 1))  (k : xG d bc bs Y (pc + 1) L (vI (a - b) :: S) n σ K) : xG d bc bs Y pc L (vI b :: vI a :: S) n σ K := by
  intro E p l e R s m args below meth c mc ms Q F H locs cells slots ls hH hS h1 h2 hl
  have k2 := k E p l e R s m args below meth c mc ms Q F H locs cells slots ls hH hS h1 h2 hl
  rw [List.map_cons, show xr E (vI (a - b)) = .int (Int32.ofInt a - Int32.ofInt b) from congrArg _ (Int32.ofInt_sub ..)] at k2
  exact lv_isub F.1 F.2.1 hd k2
theorem g_imul {a b : Int} (hd : decode Y.2.1 pc = .ok (.imul, 1))  (k : xG d bc bs Y (pc + 1) L (vI (a * b) :: S) n σ K) : xG d bc bs Y pc L (vI b :: vI a :: S) n σ K := by
  intro E p l e R s m args below meth c mc ms Q F H locs cells slots ls hH hS h1 h2 hl
  have k2 := k E p l e R s m args below meth c mc ms Q F H locs cells slots ls hH hS h1 h2 hl
  rw [List.map_cons, show xr E (vI (a * b)) = .int (Int32.ofInt a * Int32.ofInt b) from congrArg _ (Int32.ofInt_mul ..)] at k2
  exact lv_imul F.1 F.2.1 hd k2
theorem g_ladd {a b : Int} (hd : decode Y.2.1 pc = .ok (.ladd, 1))  (k : xG d bc bs Y (pc + 1) L (vL (a + b) :: S) n σ K) : xG d bc bs Y pc L (vL b :: vL a :: S) n σ K := by
  intro E p l e R s m args below meth c mc ms Q F H locs cells slots ls hH hS h1 h2 hl
  have k2 := k E p l e R s m args below meth c mc ms Q F H locs cells slots ls hH hS h1 h2 hl
  rw [List.map_cons, show xr E (vL (a + b)) = .long (Int64.ofInt a + Int64.ofInt b) from congrArg _ (Int64.ofInt_add ..)] at k2
  exact lv_ladd F.1 F.2.1 hd k2
theorem g_lmul {a b : Int} (hd : decode Y.2.1 pc = .ok (.lmul, 1))  (k : xG d bc bs Y (pc + 1) L (vL (a * b) :: S) n σ K) : xG d bc bs Y pc L (vL b :: vL a :: S) n σ K := by
  intro E p l e R s m args below meth c mc ms Q F H locs cells slots ls hH hS h1 h2 hl
  have k2 := k E p l e R s m args below meth c mc ms Q F H locs cells slots ls hH hS h1 h2 hl
  rw [List.map_cons, show xr E (vL (a * b)) = .long (Int64.ofInt a * Int64.ofInt b) from congrArg _ (Int64.ofInt_mul ..)] at k2
  exact lv_lmul F.1 F.2.1 hd k2
theorem g_iand {a b : Int} (hd : decode Y.2.1 pc = .ok (.iand, 1))  (k : xG d bc bs Y (pc + 1) L (vI (xand a b) :: S) n σ K) : xG d bc bs Y pc L (vI b :: vI a :: S) n σ K := by
  intro E p l e R s m args below meth c mc ms Q F H locs cells slots ls hH hS h1 h2 hl
  have k2 := k E p l e R s m args below meth c mc ms Q F H locs cells slots ls hH hS h1 h2 hl
  rw [List.map_cons, show xr E (vI (xand a b)) = .int (Int32.ofInt a &&& Int32.ofInt b) from congrArg _ (w32_toInt _)] at k2
  exact lv_iand F.1 F.2.1 hd k2
theorem g_ior {a b : Int} (hd : decode Y.2.1 pc = .ok (.ior, 1))  (k : xG d bc bs Y (pc + 1) L (vI (xor' a b) :: S) n σ K) : xG d bc bs Y pc L (vI b :: vI a :: S) n σ K := by
  intro E p l e R s m args below meth c mc ms Q F H locs cells slots ls hH hS h1 h2 hl
  have k2 := k E p l e R s m args below meth c mc ms Q F H locs cells slots ls hH hS h1 h2 hl
  rw [List.map_cons, show xr E (vI (xor' a b)) = .int (Int32.ofInt a ||| Int32.ofInt b) from congrArg _ (w32_toInt _)] at k2
  exact lv_ior F.1 F.2.1 hd k2
theorem g_ixor {a b : Int} (hd : decode Y.2.1 pc = .ok (.ixor, 1))  (k : xG d bc bs Y (pc + 1) L (vI (xxor a b) :: S) n σ K) : xG d bc bs Y pc L (vI b :: vI a :: S) n σ K := by
  intro E p l e R s m args below meth c mc ms Q F H locs cells slots ls hH hS h1 h2 hl
  have k2 := k E p l e R s m args below meth c mc ms Q F H locs cells slots ls hH hS h1 h2 hl
  rw [List.map_cons, show xr E (vI (xxor a b)) = .int (Int32.ofInt a ^^^ Int32.ofInt b) from congrArg _ (w32_toInt _)] at k2
  exact lv_ixor F.1 F.2.1 hd k2
theorem g_land {a b : Int} (hd : decode Y.2.1 pc = .ok (.land, 1))  (k : xG d bc bs Y (pc + 1) L (vL (xland a b) :: S) n σ K) : xG d bc bs Y pc L (vL b :: vL a :: S) n σ K := by
  intro E p l e R s m args below meth c mc ms Q F H locs cells slots ls hH hS h1 h2 hl
  have k2 := k E p l e R s m args below meth c mc ms Q F H locs cells slots ls hH hS h1 h2 hl
  rw [List.map_cons, show xr E (vL (xland a b)) = .long (Int64.ofInt a &&& Int64.ofInt b) from congrArg _ (Int64.ofInt_toInt _)] at k2
  exact lv_land F.1 F.2.1 hd k2
theorem g_ishl {a b : Int} (hd : decode Y.2.1 pc = .ok (.ishl, 1))  (k : xG d bc bs Y (pc + 1) L (vI (xshl a b) :: S) n σ K) : xG d bc bs Y pc L (vI b :: vI a :: S) n σ K := by
  intro E p l e R s m args below meth c mc ms Q F H locs cells slots ls hH hS h1 h2 hl
  have k2 := k E p l e R s m args below meth c mc ms Q F H locs cells slots ls hH hS h1 h2 hl
  rw [List.map_cons, show xr E (vI (xshl a b)) = .int (Int32.ofInt a <<< (Int32.ofInt b &&& 31)) from congrArg _ (w32_toInt _)] at k2
  exact lv_ishl F.1 F.2.1 hd k2
theorem g_ishr {a b : Int} (hd : decode Y.2.1 pc = .ok (.ishr, 1))  (k : xG d bc bs Y (pc + 1) L (vI (xshr a b) :: S) n σ K) : xG d bc bs Y pc L (vI b :: vI a :: S) n σ K := by
  intro E p l e R s m args below meth c mc ms Q F H locs cells slots ls hH hS h1 h2 hl
  have k2 := k E p l e R s m args below meth c mc ms Q F H locs cells slots ls hH hS h1 h2 hl
  rw [List.map_cons, show xr E (vI (xshr a b)) = .int (Int32.ofInt a >>> (Int32.ofInt b &&& 31)) from congrArg _ (w32_toInt _)] at k2
  exact lv_ishr F.1 F.2.1 hd k2
theorem g_iushr {a b : Int} (hd : decode Y.2.1 pc = .ok (.iushr, 1)) (k : xG d bc bs Y (pc + 1) L (vI (xushr a b) :: S) n σ K) : xG d bc bs Y pc L (vI b :: vI a :: S) n σ K := by
  intro E p l e R s m args below meth c mc ms Q F H locs cells slots ls hH hS h1 h2 hl
  exact lv_iushr F.1 F.2.1 hd (w32_toInt _).symm (k E p l e R s m args below meth c mc ms Q F H locs cells slots ls hH hS h1 h2 hl)
theorem g_lshr {a b : Int} (hd : decode Y.2.1 pc = .ok (.lshr, 1)) (k : xG d bc bs Y (pc + 1) L (vL (xlshr a b) :: S) n σ K) : xG d bc bs Y pc L (vI b :: vL a :: S) n σ K := by
  intro E p l e R s m args below meth c mc ms Q F H locs cells slots ls hH hS h1 h2 hl
  exact lv_lshr F.1 F.2.1 hd (Int64.ofInt_toInt _).symm (k E p l e R s m args below meth c mc ms Q F H locs cells slots ls hH hS h1 h2 hl)
theorem g_i2c {a : Int} (hd : decode Y.2.1 pc = .ok (.i2c, 1)) (k : xG d bc bs Y (pc + 1) L (vI (xi2c a) :: S) n σ K) : xG d bc bs Y pc L (vI a :: S) n σ K := by
  intro E p l e R s m args below meth c mc ms Q F H locs cells slots ls hH hS h1 h2 hl
  exact lv_i2c F.1 F.2.1 hd (w32_toInt _).symm (k E p l e R s m args below meth c mc ms Q F H locs cells slots ls hH hS h1 h2 hl)
theorem g_i2b {a : Int} (hd : decode Y.2.1 pc = .ok (.i2b, 1)) (k : xG d bc bs Y (pc + 1) L (vI (xi2b a) :: S) n σ K) : xG d bc bs Y pc L (vI a :: S) n σ K := by
  intro E p l e R s m args below meth c mc ms Q F H locs cells slots ls hH hS h1 h2 hl
  exact lv_i2b F.1 F.2.1 hd (w32_toInt _).symm (k E p l e R s m args below meth c mc ms Q F H locs cells slots ls hH hS h1 h2 hl)
theorem g_i2s {a : Int} (hd : decode Y.2.1 pc = .ok (.i2s, 1)) (k : xG d bc bs Y (pc + 1) L (vI (xi2s a) :: S) n σ K) : xG d bc bs Y pc L (vI a :: S) n σ K := by
  intro E p l e R s m args below meth c mc ms Q F H locs cells slots ls hH hS h1 h2 hl
  exact lv_i2s F.1 F.2.1 hd (w32_toInt _).symm (k E p l e R s m args below meth c mc ms Q F H locs cells slots ls hH hS h1 h2 hl)
theorem g_i2l {a : Int} (hd : decode Y.2.1 pc = .ok (.i2l, 1)) (ha : I32 a) (k : xG d bc bs Y (pc + 1) L (vL a :: S) n σ K) : xG d bc bs Y pc L (vI a :: S) n σ K := by
  intro E p l e R s m args below meth c mc ms Q F H locs cells slots ls hH hS h1 h2 hl
  exact lv_i2l F.1 F.2.1 hd (w32_i2l ha) (k E p l e R s m args below meth c mc ms Q F H locs cells slots ls hH hS h1 h2 hl)
theorem g_ineg {a : Int} (hd : decode Y.2.1 pc = .ok (.ineg, 1)) (k : xG d bc bs Y (pc + 1) L (vI (-a) :: S) n σ K) : xG d bc bs Y pc L (vI a :: S) n σ K := by
  intro E p l e R s m args below meth c mc ms Q F H locs cells slots ls hH hS h1 h2 hl
  have k2 := k E p l e R s m args below meth c mc ms Q F H locs cells slots ls hH hS h1 h2 hl
  rw [List.map_cons, show xr E (vI (-a)) = .int (- Int32.ofInt a) from congrArg _ (Int32.ofInt_neg ..)] at k2
  exact lv_ineg F.1 F.2.1 hd k2
theorem g_idiv {a b : Int} (hd : decode Y.2.1 pc = .ok (.idiv, 1)) (ha : I32 a) (hb : I32 b) (hb0 : b ≠ 0) (k : xG d bc bs Y (pc + 1) L (vI (a.tdiv b) :: S) n σ K) : xG d bc bs Y pc L (vI b :: vI a :: S) n σ K := by
  intro E p l e R s m args below meth c mc ms Q F H locs cells slots ls hH hS h1 h2 hl
  have k2 := k E p l e R s m args below meth c mc ms Q F H locs cells slots ls hH hS h1 h2 hl
  rw [List.map_cons, show xr E (vI (a.tdiv b)) = .int (Int32.ofInt a / Int32.ofInt b) from congrArg _ (w32_div ha hb).symm] at k2
  exact lv_idiv F.1 F.2.1 hd (fun h => hb0 ((w32_eq hb (by decide)).mp (h.trans rfl))) k2
theorem g_irem {a b : Int} (hd : decode Y.2.1 pc = .ok (.irem, 1)) (ha : I32 a) (hb : I32 b) (hb0 : b ≠ 0) (k : xG d bc bs Y (pc + 1) L (vI (a.tmod b) :: S) n σ K) : xG d bc bs Y pc L (vI b :: vI a :: S) n σ K := by
  intro E p l e R s m args below meth c mc ms Q F H locs cells slots ls hH hS h1 h2 hl
  have k2 := k E p l e R s m args below meth c mc ms Q F H locs cells slots ls hH hS h1 h2 hl
  rw [List.map_cons, show xr E (vI (a.tmod b)) = .int (Int32.ofInt a - Int32.ofInt a / Int32.ofInt b * Int32.ofInt b) from congrArg _ (w32_rem ha hb).symm] at k2
  exact lv_irem F.1 F.2.1 hd (fun h => hb0 ((w32_eq hb (by decide)).mp (h.trans rfl))) k2
theorem g_ldiv {a b : Int} (hd : decode Y.2.1 pc = .ok (.ldiv, 1)) (ha : I64 a) (hb : I64 b) (hb0 : b ≠ 0) (k : xG d bc bs Y (pc + 1) L (vL (a.tdiv b) :: S) n σ K) : xG d bc bs Y pc L (vL b :: vL a :: S) n σ K := by
  intro E p l e R s m args below meth c mc ms Q F H locs cells slots ls hH hS h1 h2 hl
  have k2 := k E p l e R s m args below meth c mc ms Q F H locs cells slots ls hH hS h1 h2 hl
  rw [List.map_cons, show xr E (vL (a.tdiv b)) = .long (Int64.ofInt a / Int64.ofInt b) from congrArg _ (w64_div ha hb).symm] at k2
  exact lv_ldiv F.1 F.2.1 hd (fun h => hb0 ((w64_eq hb (by decide)).mp (h.trans rfl))) k2
theorem g_lrem {a b : Int} (hd : decode Y.2.1 pc = .ok (.lrem, 1)) (ha : I64 a) (hb : I64 b) (hb0 : b ≠ 0) (k : xG d bc bs Y (pc + 1) L (vL (a.tmod b) :: S) n σ K) : xG d bc bs Y pc L (vL b :: vL a :: S) n σ K := by
  intro E p l e R s m args below meth c mc ms Q F H locs cells slots ls hH hS h1 h2 hl
  have k2 := k E p l e R s m args below meth c mc ms Q F H locs cells slots ls hH hS h1 h2 hl
  rw [List.map_cons, show xr E (vL (a.tmod b)) = .long (Int64.ofInt a - Int64.ofInt a / Int64.ofInt b * Int64.ofInt b) from congrArg _ (w64_rem ha hb).symm] at k2
  exact lv_lrem F.1 F.2.1 hd (fun h => hb0 ((w64_eq hb (by decide)).mp (h.trans rfl))) k2
theorem g_idivp {a b : Int} (hd : decode Y.2.1 pc = .ok (.idiv, 1)) (h : 0 ≤ a ∧ a ≤ 2147483647 ∧ 0 < b ∧ b ≤ 2147483647) (k : xG d bc bs Y (pc + 1) L (vI (a / b) :: S) n σ K) : xG d bc bs Y pc L (vI b :: vI a :: S) n σ K :=
  g_idiv hd (by omega) (by omega) (by omega) (by rw [Int.tdiv_eq_ediv_of_nonneg h.1]; exact k)
theorem g_iremp {a b : Int} (hd : decode Y.2.1 pc = .ok (.irem, 1)) (h : 0 ≤ a ∧ a ≤ 2147483647 ∧ 0 < b ∧ b ≤ 2147483647) (k : xG d bc bs Y (pc + 1) L (vI (a % b) :: S) n σ K) : xG d bc bs Y pc L (vI b :: vI a :: S) n σ K :=
  g_irem hd (by omega) (by omega) (by omega) (by rw [Int.tmod_eq_emod_of_nonneg h.1]; exact k)
theorem g_lcmp {a b : Int} (hd : decode Y.2.1 pc = .ok (.lcmp, 1)) (ha : I64 a) (hb : I64 b) (k : xG d bc bs Y (pc + 1) L (vI (xcmp a b) :: S) n σ K) : xG d bc bs Y pc L (vL b :: vL a :: S) n σ K := by
  intro E p l e R s m args below meth c mc ms Q F H locs cells slots ls hH hS h1 h2 hl
  have k2 := k E p l e R s m args below meth c mc ms Q F H locs cells slots ls hH hS h1 h2 hl
  rw [List.map_cons, show xr E (vI (xcmp a b)) = .int (lg_cmp (Int64.ofInt a) (Int64.ofInt b)) from congrArg _ (xcmp_lg ha hb)] at k2
  exact W.lcmp F.1 F.2.1 hd k2
theorem xr_cat1 {E : xE} {v : xV} (h : (v.1 == 1) = false) : (xr E v).category = 1 := by
  have h : ¬ v.1 = 1 := by simpa using h
  unfold xr
  split
  · rfl
  · rename_i q; exact absurd q h
  · split <;> rfl
  · rfl
theorem g_dup {v : xV} (hd : decode Y.2.1 pc = .ok (.dup, 1)) (hv : (v.1 == 1) = false) (k : xG d bc bs Y (pc + 1) L (v :: v :: S) n σ K) : xG d bc bs Y pc L (v :: S) n σ K := by
  intro E p l e R s m args below meth c mc ms Q F H locs cells slots ls hH hS h1 h2 hl
  exact lv_dup F.1 F.2.1 hd (xr_cat1 hv) (k E p l e R s m args below meth c mc ms Q F H locs cells slots ls hH hS h1 h2 hl)
theorem g_pop {v : xV} (hd : decode Y.2.1 pc = .ok (.pop, 1)) (hv : (v.1 == 1) = false) (k : xG d bc bs Y (pc + 1) L (S) n σ K) : xG d bc bs Y pc L (v :: S) n σ K := by
  intro E p l e R s m args below meth c mc ms Q F H locs cells slots ls hH hS h1 h2 hl
  exact lv_pop F.1 F.2.1 hd (xr_cat1 hv) (k E p l e R s m args below meth c mc ms Q F H locs cells slots ls hH hS h1 h2 hl)
theorem g_dup2 {v w : xV} (hd : decode Y.2.1 pc = .ok (.dup2, 1)) (hv : (v.1 == 1) = false) (hw : (w.1 == 1) = false) (k : xG d bc bs Y (pc + 1) L (v :: w :: v :: w :: S) n σ K) : xG d bc bs Y pc L (v :: w :: S) n σ K := by
  intro E p l e R s m args below meth c mc ms Q F H locs cells slots ls hH hS h1 h2 hl
  exact lv_dup2_11 F.1 F.2.1 hd (xr_cat1 hv) (xr_cat1 hw) (k E p l e R s m args below meth c mc ms Q F H locs cells slots ls hH hS h1 h2 hl)
theorem g_goto {off : Int} {tgt : Nat} (hd : decode Y.2.1 pc = .ok (.goto off, 3)) (ht : (pc : Int) + off = (tgt : Int)) (k : xG d bc bs Y (tgt) L (S) n σ K) : xG d bc bs Y pc L (S) n σ K := by
  intro E p l e R s m args below meth c mc ms Q F H locs cells slots ls hH hS h1 h2 hl
  exact lv_goto F.1 F.2.1 hd ht (k E p l e R s m args below meth c mc ms Q F H locs cells slots ls hH hS h1 h2 hl)
theorem g_cge {a b : Int} {off : Int} {tgt : Nat} (hd : decode Y.2.1 pc = .ok (.if_icmp .ge off, 3)) (ht : (pc : Int) + off = (tgt : Int)) (ha : I32 a) (hb : I32 b) (kt : b ≤ a → xG d bc bs Y tgt L S n σ K) (kf : a < b → xG d bc bs Y (pc + 3) L S n σ K) : xG d bc bs Y pc L (vI b :: vI a :: S) n σ K := by
  intro E p l e R s m args below meth c mc ms Q F H locs cells slots ls hH hS h1 h2 hl
  exact lv_icmp_ge F.1 F.2.1 hd ht (fun h => kt ((w32_le hb ha).mp h) E p l e R s m args below meth c mc ms Q F H locs cells slots ls hH hS h1 h2 hl) (fun h => kf (by have h' := mt (w32_le hb ha).mpr h; omega) E p l e R s m args below meth c mc ms Q F H locs cells slots ls hH hS h1 h2 hl)
theorem g_cgt {a b : Int} {off : Int} {tgt : Nat} (hd : decode Y.2.1 pc = .ok (.if_icmp .gt off, 3)) (ht : (pc : Int) + off = (tgt : Int)) (ha : I32 a) (hb : I32 b) (kt : b < a → xG d bc bs Y tgt L S n σ K) (kf : a ≤ b → xG d bc bs Y (pc + 3) L S n σ K) : xG d bc bs Y pc L (vI b :: vI a :: S) n σ K := by
  intro E p l e R s m args below meth c mc ms Q F H locs cells slots ls hH hS h1 h2 hl
  exact lv_icmp_gt F.1 F.2.1 hd ht (fun h => kt ((w32_lt hb ha).mp h) E p l e R s m args below meth c mc ms Q F H locs cells slots ls hH hS h1 h2 hl) (fun h => kf (by have h' := mt (w32_lt hb ha).mpr h; omega) E p l e R s m args below meth c mc ms Q F H locs cells slots ls hH hS h1 h2 hl)
theorem g_cle {a b : Int} {off : Int} {tgt : Nat} (hd : decode Y.2.1 pc = .ok (.if_icmp .le off, 3)) (ht : (pc : Int) + off = (tgt : Int)) (ha : I32 a) (hb : I32 b) (kt : a ≤ b → xG d bc bs Y tgt L S n σ K) (kf : b < a → xG d bc bs Y (pc + 3) L S n σ K) : xG d bc bs Y pc L (vI b :: vI a :: S) n σ K := by
  intro E p l e R s m args below meth c mc ms Q F H locs cells slots ls hH hS h1 h2 hl
  exact lv_icmp_le F.1 F.2.1 hd ht (fun h => kt ((w32_le ha hb).mp h) E p l e R s m args below meth c mc ms Q F H locs cells slots ls hH hS h1 h2 hl) (fun h => kf (by have h' := mt (w32_le ha hb).mpr h; omega) E p l e R s m args below meth c mc ms Q F H locs cells slots ls hH hS h1 h2 hl)
theorem g_clt {a b : Int} {off : Int} {tgt : Nat} (hd : decode Y.2.1 pc = .ok (.if_icmp .lt off, 3)) (ht : (pc : Int) + off = (tgt : Int)) (ha : I32 a) (hb : I32 b) (kt : a < b → xG d bc bs Y tgt L S n σ K) (kf : b ≤ a → xG d bc bs Y (pc + 3) L S n σ K) : xG d bc bs Y pc L (vI b :: vI a :: S) n σ K := by
  intro E p l e R s m args below meth c mc ms Q F H locs cells slots ls hH hS h1 h2 hl
  exact lv_icmp_lt F.1 F.2.1 hd ht (fun h => kt ((w32_lt ha hb).mp h) E p l e R s m args below meth c mc ms Q F H locs cells slots ls hH hS h1 h2 hl) (fun h => kf (by have h' := mt (w32_lt ha hb).mpr h; omega) E p l e R s m args below meth c mc ms Q F H locs cells slots ls hH hS h1 h2 hl)
theorem g_ceq {a b : Int} {off : Int} {tgt : Nat} (hd : decode Y.2.1 pc = .ok (.if_icmp .eq off, 3)) (ht : (pc : Int) + off = (tgt : Int)) (ha : I32 a) (hb : I32 b) (kt : a = b → xG d bc bs Y tgt L S n σ K) (kf : a ≠ b → xG d bc bs Y (pc + 3) L S n σ K) : xG d bc bs Y pc L (vI b :: vI a :: S) n σ K := by
  intro E p l e R s m args below meth c mc ms Q F H locs cells slots ls hH hS h1 h2 hl
  exact lv_icmp_eq F.1 F.2.1 hd ht (fun h => kt ((w32_eq ha hb).mp h) E p l e R s m args below meth c mc ms Q F H locs cells slots ls hH hS h1 h2 hl) (fun h => kf (by have h' := mt (w32_eq ha hb).mpr h; omega) E p l e R s m args below meth c mc ms Q F H locs cells slots ls hH hS h1 h2 hl)
theorem g_cne {a b : Int} {off : Int} {tgt : Nat} (hd : decode Y.2.1 pc = .ok (.if_icmp .ne off, 3)) (ht : (pc : Int) + off = (tgt : Int)) (ha : I32 a) (hb : I32 b) (kt : a ≠ b → xG d bc bs Y tgt L S n σ K) (kf : a = b → xG d bc bs Y (pc + 3) L S n σ K) : xG d bc bs Y pc L (vI b :: vI a :: S) n σ K := by
  intro E p l e R s m args below meth c mc ms Q F H locs cells slots ls hH hS h1 h2 hl
  exact lv_icmp_ne F.1 F.2.1 hd ht (fun h => kt ((not_congr (w32_eq ha hb)).mp h) E p l e R s m args below meth c mc ms Q F H locs cells slots ls hH hS h1 h2 hl) (fun h => kf ((w32_eq ha hb).mp h) E p l e R s m args below meth c mc ms Q F H locs cells slots ls hH hS h1 h2 hl)
theorem g_zge {a : Int} {off : Int} {tgt : Nat} (hd : decode Y.2.1 pc = .ok (.ifCond .ge off, 3)) (ht : (pc : Int) + off = (tgt : Int)) (ha : I32 a) (kt : 0 ≤ a → xG d bc bs Y tgt L S n σ K) (kf : a < 0 → xG d bc bs Y (pc + 3) L S n σ K) : xG d bc bs Y pc L (vI a :: S) n σ K := by
  intro E p l e R s m args below meth c mc ms Q F H locs cells slots ls hH hS h1 h2 hl
  exact lv_if_ge F.1 F.2.1 hd ht (fun h => kt ((w32_le (show I32 0 by decide) ha).mp h) E p l e R s m args below meth c mc ms Q F H locs cells slots ls hH hS h1 h2 hl) (fun h => kf (by have h' := mt (w32_le (show I32 0 by decide) ha).mpr h; omega) E p l e R s m args below meth c mc ms Q F H locs cells slots ls hH hS h1 h2 hl)
theorem g_zgt {a : Int} {off : Int} {tgt : Nat} (hd : decode Y.2.1 pc = .ok (.ifCond .gt off, 3)) (ht : (pc : Int) + off = (tgt : Int)) (ha : I32 a) (kt : 0 < a → xG d bc bs Y tgt L S n σ K) (kf : a ≤ 0 → xG d bc bs Y (pc + 3) L S n σ K) : xG d bc bs Y pc L (vI a :: S) n σ K := by
  intro E p l e R s m args below meth c mc ms Q F H locs cells slots ls hH hS h1 h2 hl
  exact lv_if_gt F.1 F.2.1 hd ht (fun h => kt ((w32_lt (show I32 0 by decide) ha).mp h) E p l e R s m args below meth c mc ms Q F H locs cells slots ls hH hS h1 h2 hl) (fun h => kf (by have h' := mt (w32_lt (show I32 0 by decide) ha).mpr h; omega) E p l e R s m args below meth c mc ms Q F H locs cells slots ls hH hS h1 h2 hl)
theorem g_zle {a : Int} {off : Int} {tgt : Nat} (hd : decode Y.2.1 pc = .ok (.ifCond .le off, 3)) (ht : (pc : Int) + off = (tgt : Int)) (ha : I32 a) (kt : a ≤ 0 → xG d bc bs Y tgt L S n σ K) (kf : 0 < a → xG d bc bs Y (pc + 3) L S n σ K) : xG d bc bs Y pc L (vI a :: S) n σ K := by
  intro E p l e R s m args below meth c mc ms Q F H locs cells slots ls hH hS h1 h2 hl
  exact lv_if_le F.1 F.2.1 hd ht (fun h => kt ((w32_le ha (show I32 0 by decide)).mp h) E p l e R s m args below meth c mc ms Q F H locs cells slots ls hH hS h1 h2 hl) (fun h => kf (by have h' := mt (w32_le ha (show I32 0 by decide)).mpr h; omega) E p l e R s m args below meth c mc ms Q F H locs cells slots ls hH hS h1 h2 hl)
theorem g_zlt {a : Int} {off : Int} {tgt : Nat} (hd : decode Y.2.1 pc = .ok (.ifCond .lt off, 3)) (ht : (pc : Int) + off = (tgt : Int)) (ha : I32 a) (kt : a < 0 → xG d bc bs Y tgt L S n σ K) (kf : 0 ≤ a → xG d bc bs Y (pc + 3) L S n σ K) : xG d bc bs Y pc L (vI a :: S) n σ K := by
  intro E p l e R s m args below meth c mc ms Q F H locs cells slots ls hH hS h1 h2 hl
  exact lv_if_lt F.1 F.2.1 hd ht (fun h => kt ((w32_lt ha (show I32 0 by decide)).mp h) E p l e R s m args below meth c mc ms Q F H locs cells slots ls hH hS h1 h2 hl) (fun h => kf (by have h' := mt (w32_lt ha (show I32 0 by decide)).mpr h; omega) E p l e R s m args below meth c mc ms Q F H locs cells slots ls hH hS h1 h2 hl)
theorem g_zeq {a : Int} {off : Int} {tgt : Nat} (hd : decode Y.2.1 pc = .ok (.ifCond .eq off, 3)) (ht : (pc : Int) + off = (tgt : Int)) (ha : I32 a) (kt : a = 0 → xG d bc bs Y tgt L S n σ K) (kf : a ≠ 0 → xG d bc bs Y (pc + 3) L S n σ K) : xG d bc bs Y pc L (vI a :: S) n σ K := by
  intro E p l e R s m args below meth c mc ms Q F H locs cells slots ls hH hS h1 h2 hl
  exact lv_if_eq F.1 F.2.1 hd ht (fun h => kt ((w32_eq ha (show I32 0 by decide)).mp h) E p l e R s m args below meth c mc ms Q F H locs cells slots ls hH hS h1 h2 hl) (fun h => kf (by have h' := mt (w32_eq ha (show I32 0 by decide)).mpr h; omega) E p l e R s m args below meth c mc ms Q F H locs cells slots ls hH hS h1 h2 hl)
theorem g_zne {a : Int} {off : Int} {tgt : Nat} (hd : decode Y.2.1 pc = .ok (.ifCond .ne off, 3)) (ht : (pc : Int) + off = (tgt : Int)) (ha : I32 a) (kt : a ≠ 0 → xG d bc bs Y tgt L S n σ K) (kf : a = 0 → xG d bc bs Y (pc + 3) L S n σ K) : xG d bc bs Y pc L (vI a :: S) n σ K := by
  intro E p l e R s m args below meth c mc ms Q F H locs cells slots ls hH hS h1 h2 hl
  exact lv_if_ne F.1 F.2.1 hd ht (fun h => kt ((not_congr (w32_eq ha (show I32 0 by decide))).mp h) E p l e R s m args below meth c mc ms Q F H locs cells slots ls hH hS h1 h2 hl) (fun h => kf ((w32_eq ha (show I32 0 by decide)).mp h) E p l e R s m args below meth c mc ms Q F H locs cells slots ls hH hS h1 h2 hl)
theorem g_tsO {dflt lo hi : Int} {offs : Array Int} {len : Nat} {a : Int} {tgt : Nat} (hd : decode Y.2.1 pc = .ok (.tableswitch dflt lo hi offs, len)) (ha : I32 a) (h : a < lo ∨ hi < a) (ht : (pc : Int) + dflt = (tgt : Int)) (k : xG d bc bs Y tgt L S n σ K) : xG d bc bs Y pc L (vI a :: S) n σ K := by
  intro E p l e R s m args below meth c mc ms Q F H locs cells slots ls hH hS h1 h2 hl
  exact lv_tableOut F.1 F.2.1 hd (by rw [show (Int32.ofInt (vI a).2).toInt = a from w32 ha]; exact h) ht (k E p l e R s m args below meth c mc ms Q F H locs cells slots ls hH hS h1 h2 hl)
theorem g_tsI {dflt lo hi : Int} {offs : Array Int} {len : Nat} {a off : Int} {tgt : Nat} (hd : decode Y.2.1 pc = .ok (.tableswitch dflt lo hi offs, len)) (ha : I32 a) (h1' : lo ≤ a) (h2' : a ≤ hi) (ho : offs[(a - lo).toNat]? = some off) (ht : (pc : Int) + off = (tgt : Int)) (k : xG d bc bs Y tgt L S n σ K) : xG d bc bs Y pc L (vI a :: S) n σ K := by
  intro E p l e R s m args below meth c mc ms Q F H locs cells slots ls hH hS h1 h2 hl
  exact lv_tableIn F.1 F.2.1 hd (by rw [show (Int32.ofInt (vI a).2).toInt = a from w32 ha]; omega) (by rw [show (Int32.ofInt (vI a).2).toInt = a from w32 ha]; omega) (by rw [show (Int32.ofInt (vI a).2).toInt = a from w32 ha]; exact ho) ht (k E p l e R s m args below meth c mc ms Q F H locs cells slots ls hH hS h1 h2 hl)
theorem g_ls {dflt : Int} {ps : Array (Int × Int)} {len : Nat} {a off : Int} {tgt : Nat} (hd : decode Y.2.1 pc = .ok (.lookupswitch dflt ps, len)) (ha : I32 a) (hp : (ps.toList.zip (ps.toList.drop 1)).all (fun (a, next) => a.1 < next.1) = true) (ho : Op.lookupswitch.offset ps.toList dflt a = off) (ht : (pc : Int) + off = (tgt : Int)) (k : xG d bc bs Y tgt L S n σ K) : xG d bc bs Y pc L (vI a :: S) n σ K := by
  intro E p l e R s m args below meth c mc ms Q F H locs cells slots ls hH hS h1 h2 hl
  exact lv_lookup F.1 F.2.1 hd hp (by rw [show (Int32.ofInt (vI a).2).toInt = a from w32 ha]; exact ho) ht (k E p l e R s m args below meth c mc ms Q F H locs cells slots ls hH hS h1 h2 hl)
theorem g_ret (r : List xV) (hd : decode Y.2.1 pc = .ok (xri r, 1)) (ho : xok Y.2.2.2 r) (k : K r n σ) : xG d bc bs Y pc L r n σ K := by
  intro E p l e R s m args below meth c mc ms Q F H locs cells slots ls hH hS h1 h2 hl
  exact F.2.2.2.2.2.2.2.2 r n σ pc ls H locs cells slots k ho hd hH hS (by omega) (by omega)
theorem g_loc {L' : List xV} (h : ∀ (i : Nat) (v : xV), L'[i]? = some v → v.1 ≠ 9 → L[i]? = some v) (k : xG d bc bs Y pc L' S n σ K) : xG d bc bs Y pc L S n σ K := by
  intro E p l e R s m args below meth c mc ms Q F H locs cells slots ls hH hS h1 h2 hl
  refine k E p l e R s m args below meth c mc ms Q F H locs cells slots ls hH hS h1 h2 (lv_has_mono hl ?_)
  rintro ⟨j, w⟩ hq
  obtain ⟨i, v, q1, q2, q3, q4⟩ := (xl_mem _ _ _ _).mp hq
  exact (xl_mem _ _ _ _).mpr ⟨i, v, h i v q1 q2, q2, q3, q4⟩
theorem g_budget {bc' bs' : Nat} (h1 : bc' ≤ bc) (h2 : bs' ≤ bs) (k : xG d bc' bs' Y pc L S n σ K) : xG d bc bs Y pc L S n σ K := by
  intro E p l e R s m args below meth c mc ms Q F H locs cells slots ls hH hS q1 q2 hl
  exact k E p l e R s m args below meth c mc ms Q F H locs cells slots ls hH hS (by omega) (by omega) hl
end XR
