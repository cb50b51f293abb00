def xshL : List (Nat × Nat × List Nat) := [
  (0, 10, [11, 13, 15, 17, 2, 2, 27, 31, 97, 98, 99, 102, 110, 115, 0, 0, 117, 118]),
  (0, 8, [12, 0]),
  (4, 80, []),
  (0, 6, [14, 0]),
  (2, 16, []),
  (0, 1, [16, 0]),
  (1, 20, []),
  (0, 1, [18, 0]),
  (1, 20, []),
  (0, 7, [20, 0, 21, 22, 0, 0, 0, 3]),
  (1, 40, []),
  (1, 40, []),
  (4, 40, []),
  (0, 7, [24, 0, 25, 26, 0, 0, 0, 3]),
  (1, 40, []),
  (1, 40, []),
  (4, 40, []),
  (0, 9, [0, 0, 0, 0, 0, 0, 28, 29, 30]),
  (1, 8, []),
  (1, 8, []),
  (1, 8, []),
  (0, 3, [32, 0, 0]),
  (5, 16, [23]),
  (0, 9, [0, 0, 0, 0, 0, 0, 34, 35, 36]),
  (1, 8, []),
  (1, 8, []),
  (1, 8, []),
  (0, 9, [0, 0, 0, 0, 0, 0, 38, 39, 40]),
  (1, 8, []),
  (1, 8, []),
  (1, 8, []),
  (0, 9, [0, 0, 0, 0, 0, 0, 42, 43, 44]),
  (1, 8, []),
  (1, 8, []),
  (1, 8, []),
  (0, 9, [0, 0, 0, 0, 0, 0, 46, 47, 48]),
  (1, 8, []),
  (1, 8, []),
  (1, 8, []),
  (0, 9, [0, 0, 0, 0, 0, 0, 50, 51, 52]),
  (1, 8, []),
  (1, 8, []),
  (1, 8, []),
  (0, 9, [0, 0, 0, 0, 0, 0, 54, 55, 56]),
  (1, 8, []),
  (1, 8, []),
  (1, 8, []),
  (0, 9, [0, 0, 0, 0, 0, 0, 58, 59, 60]),
  (1, 8, []),
  (1, 8, []),
  (1, 8, []),
  (0, 9, [0, 0, 0, 0, 0, 0, 62, 63, 64]),
  (1, 8, []),
  (1, 8, []),
  (1, 8, []),
  (0, 9, [0, 0, 0, 0, 0, 0, 66, 67, 68]),
  (1, 8, []),
  (1, 8, []),
  (1, 8, []),
  (0, 9, [0, 0, 0, 0, 0, 0, 70, 71, 72]),
  (1, 8, []),
  (1, 8, []),
  (1, 8, []),
  (0, 9, [0, 0, 0, 0, 0, 0, 74, 75, 76]),
  (1, 8, []),
  (1, 8, []),
  (1, 8, []),
  (0, 9, [0, 0, 0, 0, 0, 0, 78, 79, 80]),
  (1, 8, []),
  (1, 8, []),
  (1, 8, []),
  (0, 9, [0, 0, 0, 0, 0, 0, 82, 83, 84]),
  (1, 8, []),
  (1, 8, []),
  (1, 8, []),
  (0, 9, [0, 0, 0, 0, 0, 0, 86, 87, 88]),
  (1, 8, []),
  (1, 8, []),
  (1, 8, []),
  (0, 9, [0, 0, 0, 0, 0, 0, 90, 91, 92]),
  (1, 8, []),
  (1, 8, []),
  (1, 8, []),
  (0, 9, [0, 0, 0, 0, 0, 0, 94, 95, 96]),
  (1, 8, []),
  (1, 8, []),
  (1, 8, []),
  (5, 3, [109]),
  (3, 3, []),
  (0, 0, [100, 101]),
  (1, 7, []),
  (1, 8, []),
  (0, 4, [0, 103, 104, 105, 106, 107, 108, 109]),
  (1, 8, []),
  (1, 8, []),
  (1, 8, []),
  (1, 8, []),
  (1, 8, []),
  (1, 8, []),
  (1, 8, []),
  (0, 5, [111, 112, 0, 113, 0, 114]),
  (1, 10, []),
  (1, 10, []),
  (1, 100, []),
  (1, 120, []),
  (0, 2, [116, 3]),
  (1, 21, []),
  (1, 8, []),
  (2, 16, []),
  (0, 9, [0, 0, 0, 0, 0, 0, 120, 121, 122]),
  (1, 8, []),
  (1, 8, []),
  (1, 8, []),
  (0, 9, [0, 0, 0, 0, 0, 0, 124, 125, 126]),
  (1, 8, []),
  (1, 8, []),
  (1, 8, []),
  (0, 9, [0, 0, 0, 0, 0, 0, 128, 129, 130]),
  (1, 8, []),
  (1, 8, []),
  (1, 8, []),
  (0, 11, [0, 0, 132, 0, 0, 0, 0, 0, 133, 134, 135, 136, 137, 138, 139, 0, 0, 0, 0, 140, 0, 141, 142, 0, 0, 143, 144, 145, 0, 146, 0, 0, 147, 148, 149, 150, 0, 151, 152, 153, 154, 155, 0, 156, 157, 158, 159, 160, 0, 161, 162, 163]),
  (2, 24, []),
  (1, 20, []),
  (1, 20, []),
  (1, 8, []),
  (1, 8, []),
  (1, 40, []),
  (1, 40, []),
  (1, 80, []),
  (1, 24, []),
  (1, 80, []),
  (1, 80, []),
  (1, 80, []),
  (1, 7, []),
  (1, 8, []),
  (1, 640, []),
  (1, 60, []),
  (1, 60, []),
  (1, 60, []),
  (1, 60, []),
  (1, 8, []),
  (1, 220, []),
  (1, 8, []),
  (1, 8, []),
  (1, 8, []),
  (1, 10, []),
  (1, 10, []),
  (2, 17, []),
  (3, 441, []),
  (1, 80, []),
  (3, 3, []),
  (1, 3, []),
  (1, 120, []),
  (2, 1, [])]
def xsh (c : Int) : Nat × Nat × List Nat := if c < 0 then (9, 0, []) else xshL.getD c.toNat (9, 0, [])
abbrev xcls : List vw_C := [(RX0, TX0, 2), (RX1, TX1, 2), (RX2, TX2, 2), (RX3, TX3, 3), (RX4, TX4, 8), (RX5, TX5, 6), (RX6, TX6, 2), (RX7, TX7, 8), (RX8, TX8, 2), (RX9, TX9, 9), (RX10, TX10, 18), (RX11, TX11, 52)]
/-! values: int, long, reference to a cell of the world (below 0: null), a thing outside the world, anything -/
abbrev xW : Type := Int → Int → Int
abbrev xV : Type := Nat × Int
def vI (x : Int) : xV := (0, x)
def vL (x : Int) : xV := (1, x)
def vR (x : Int) : xV := (2, x)
def vT (x : Int) : xV := (3, x)
def vX : xV := (9, 0)
/-- where the cells begin, the things outside, the classes, the classes of arrays -/
abbrev xE : Type := Nat × (Int → Nat) × va_G × (Nat → ClassId)
def xr (E : xE) (v : xV) : Value := match v.1 with
  | 0 => .int (Int32.ofInt v.2)
  | 1 => .long (Int64.ofInt v.2)
  | 2 => if v.2 < 0 then .null else .ref (E.1 + v.2.toNat)
  | _ => .ref (E.2.1 v.2)
def xl (E : xE) : Nat → List xV → List (Nat × Value)
  | _, [] => []
  | i, v :: t => if v.1 = 9 then xl E (i + 1) t else (i, xr E v) :: xl E (i + 1) t
def xfv (n t : Nat) (x : Int) : xV := if t = 0 then vI x else if t = 1 then vL x else if t = 2 then vR x else if t = 3 then vI x else if n = 155 then vR ((t : Int) - 10) else vR x
def xfs (E : xE) (n : Nat) (f : Int → Int) : Nat → List Nat → List Value
  | _, [] => []
  | k, t :: ts => xr E (xfv n t (f k)) :: xfs E n f (k + 1) ts
def xrf (E : xE) (x : Int) : Option Nat := if x < 0 then none else some (E.1 + x.toNat)
def xe (E : xE) (n : Nat) (s : Nat × Nat × List Nat) (f : Int → Int) : va_E :=
  if s.1 = 0 then .inr (s.2.1, xfs E n f 0 s.2.2)
  else if s.1 = 2 then .inl (E.2.2.2 2, s.2.1, .inr (.inl fun j => Int64.ofInt (f j)))
  else if s.1 = 5 then .inl (E.2.2.2 5, s.2.1, .inr (.inr (.inr (.inr fun j => xrf E (if n = 155 then ((s.2.2.getD 0 0 : Nat) : Int) + 4 * j else f j)))))
  else .inl (E.2.2.2 s.1, s.2.1, .inl fun j => Int32.ofInt (f j))
/-- the picture of the first n cells -/
def xp (E : xE) (n : Nat) (σ : xW) : va_W := (List.range n).map fun c => (E.1 + c, xe E n (xsh c) (σ c))
def xtys (E : xE) : List (ClassId × FieldType) := [(E.2.2.2 1, .int), (E.2.2.2 2, .long), (E.2.2.2 3, .boolean), (E.2.2.2 4, .char), (E.2.2.2 5, .object "NoonGun$Town")]
def xA (E : xE) : Nat → Prop := fun q => E.1 ≤ q
def xTB : List Cond := lw_tbl.filter goodWord
def xnest (w : Cond) : Bool := match w with
  | .fieldLinkNest _ _ _ _ _ _ => true
  | .methodLinkNest _ _ _ _ => true
  | _ => false
def xNW : List Cond := lw_tbl.filter xnest
/-- what a state says of the tables -/
def xK (E : xE) (U : State) : Prop := va_K E.2.2.1 xcls (xtys E) U ∧ ∀ w ∈ xNW, va_Nw w U
/-- what a heap holds -/
def xH (E : xE) (n : Nat) (σ : xW) (H : Heap) : Prop := va_P E.2.2.1 xcls (xp E n σ) H ∧ (n = 155 ∨ H.size = E.1 + n) ∧ E.1 + n ≤ H.size
/-- which answers a method of a kind may give -/
def xok (ret : Option FieldType) (r : List xV) : Prop := match ret, r with
  | none, [] => True
  | some .int, [v] => v.1 = 0
  | some .boolean, [v] => v.1 = 0 ∧ (v.2 = 0 ∨ v.2 = 1)
  | some .char, [v] => v.1 = 0 ∧ 0 ≤ v.2 ∧ v.2 < 65536
  | some .long, [v] => v.1 = 1
  | _, _ => False
def xri (r : List xV) : Instr := match r with
  | [] => .return_
  | v :: _ => if v.1 = 1 then .lreturn else .ireturn
/-! numbers -/
abbrev I32 (x : Int) : Prop := -2147483648 ≤ x ∧ x ≤ 2147483647
abbrev I64 (x : Int) : Prop := -9223372036854775808 ≤ x ∧ x ≤ 9223372036854775807
theorem w32 {x : Int} (h : I32 x) : (Int32.ofInt x).toInt = x := by
  rw [Int32.toInt_ofInt, Int.bmod_eq_of_le] <;> simp [Int32.size] <;> omega
theorem w64 {x : Int} (h : I64 x) : (Int64.ofInt x).toInt = x := by
  rw [Int64.toInt_ofInt, Int.bmod_eq_of_le] <;> simp [Int64.size] <;> omega
theorem w32_le {a b : Int} (ha : I32 a) (hb : I32 b) : Int32.ofInt a ≤ Int32.ofInt b ↔ a ≤ b := by rw [Int32.le_iff_toInt_le, w32 ha, w32 hb]
theorem w32_lt {a b : Int} (ha : I32 a) (hb : I32 b) : Int32.ofInt a < Int32.ofInt b ↔ a < b := by rw [Int32.lt_iff_toInt_lt, w32 ha, w32 hb]
theorem w32_eq {a b : Int} (ha : I32 a) (hb : I32 b) : Int32.ofInt a = Int32.ofInt b ↔ a = b := ⟨fun h => by rw [← w32 ha, ← w32 hb, h], fun h => by rw [h]⟩
theorem w64_lt {a b : Int} (ha : I64 a) (hb : I64 b) : Int64.ofInt a < Int64.ofInt b ↔ a < b := by rw [Int64.lt_iff_toInt_lt, w64 ha, w64 hb]
theorem w64_eq {a b : Int} (ha : I64 a) (hb : I64 b) : Int64.ofInt a = Int64.ofInt b ↔ a = b := ⟨fun h => by rw [← w64 ha, ← w64 hb, h], fun h => by rw [h]⟩
theorem w32_toInt (x : Int32) : Int32.ofInt x.toInt = x := Int32.ofInt_toInt x
theorem I32_toInt (x : Int32) : I32 x.toInt := ⟨Int32.le_toInt x, by have := Int32.toInt_lt x; omega⟩
theorem w32_div {a b : Int} (ha : I32 a) (hb : I32 b) : Int32.ofInt a / Int32.ofInt b = Int32.ofInt (a.tdiv b) := by
  apply Int32.toInt_inj.mp
  rw [Int32.toInt_div, w32 ha, w32 hb, Int32.toInt_ofInt]
theorem w64_div {a b : Int} (ha : I64 a) (hb : I64 b) : Int64.ofInt a / Int64.ofInt b = Int64.ofInt (a.tdiv b) := by
  apply Int64.toInt_inj.mp
  rw [Int64.toInt_div, w64 ha, w64 hb, Int64.toInt_ofInt]
theorem w32_rem {a b : Int} (ha : I32 a) (hb : I32 b) : Int32.ofInt a - Int32.ofInt a / Int32.ofInt b * Int32.ofInt b = Int32.ofInt (a.tmod b) := by
  rw [w32_div ha hb, ← Int32.ofInt_mul, ← Int32.ofInt_sub, Int.tmod_def, Int.mul_comm]
theorem w64_rem {a b : Int} (ha : I64 a) (hb : I64 b) : Int64.ofInt a - Int64.ofInt a / Int64.ofInt b * Int64.ofInt b = Int64.ofInt (a.tmod b) := by
  rw [w64_div ha hb, ← Int64.ofInt_mul, ← Int64.ofInt_sub, Int.tmod_def, Int.mul_comm]
def xand (a b : Int) : Int := (Int32.ofInt a &&& Int32.ofInt b).toInt
def xor' (a b : Int) : Int := (Int32.ofInt a ||| Int32.ofInt b).toInt
def xxor (a b : Int) : Int := (Int32.ofInt a ^^^ Int32.ofInt b).toInt
def xshl (a b : Int) : Int := (Int32.ofInt a <<< (Int32.ofInt b &&& 31)).toInt
def xshr (a b : Int) : Int := (Int32.ofInt a >>> (Int32.ofInt b &&& 31)).toInt
def xushr (a b : Int) : Int := ((Int32.ofInt a).toUInt32 >>> ((Int32.ofInt b).toUInt32 &&& Int32.toUInt32 31)).toInt32.toInt
def xi2c (a : Int) : Int := ((Int32.ofInt a).toUInt32 % 65536).toInt32.toInt
def xi2b (a : Int) : Int := (Int32.ofInt a).toInt8.toInt32.toInt
def xi2s (a : Int) : Int := (Int32.ofInt a).toInt16.toInt32.toInt
def xlshr (a b : Int) : Int := (Int64.ofInt a >>> ((Int32.ofInt b).toInt64 &&& 63)).toInt
def xland (a b : Int) : Int := (Int64.ofInt a &&& Int64.ofInt b).toInt
def xcmp (a b : Int) : Int := if a < b then -1 else if a = b then 0 else 1
/-! what a method is walked in -/
def xF (E : xE) (Y : xMD) (d : Nat) (K : List xV → Nat → xW → Prop) (p : Program) (l : Launch) (e : Env) (R : Room) (s : State) (m : MethodId) (args : Array Value) (below : List Frame) (meth : Method) (c : Code) (mc ms : Nat) (Q : State → Prop) : Prop :=
  p.tables.exec = Jvm.exec ∧ c.code = Y.2.1 ∧ c.maxLocals = Y.2.2.1 ∧ s.vm.findClass Y.1.cls = some m.cls ∧ (∀ w ∈ xTB, w.before args s = true) ∧ xK E s ∧ (d ≤ R.frames ∧ 100 * d ≤ R.locals ∧ mc ≤ R.cells ∧ ms ≤ R.slots) ∧ E.1 ≤ s.heap.size ∧
  (∀ (r : List xV) (n : Nat) (σ : xW) (pc : Nat) (ls : Array Slot) (H : Heap) (locs : List Loc) (cells slots : Nat), K r n σ → xok Y.2.2.2 r → decode Y.2.1 pc = .ok (xri r, 1) → xH E n σ H → va_S (xA E) s.heap H locs → cells ≤ mc → slots ≤ ms → W p l e R s m args below meth c H locs cells slots Q (F0 m pc ls (r.map (xr E))))
def xG (d bc bs : Nat) (Y : xMD) (pc : Nat) (L S : List xV) (n : Nat) (σ : xW) (K : List xV → Nat → xW → Prop) : Prop :=
  ∀ (E : xE) (p : Program) (l : Launch) (e : Env) (R : Room) (s : State) (m : MethodId) (args : Array Value) (below : List Frame) (meth : Method) (c : Code) (mc ms : Nat) (Q : State → Prop), xF E Y d K p l e R s m args below meth c mc ms Q →
  ∀ (H : Heap) (locs : List Loc) (cells slots : Nat) (ls : Array Slot), xH E n σ H → va_S (xA E) s.heap H locs → cells + bc ≤ mc → slots + bs ≤ ms → lv_has ls Y.2.2.1 (xl E 0 L) →
  W p l e R s m args below meth c H locs cells slots Q (F0 m pc ls (S.map (xr E)))
theorem xl_mem {E : xE} : ∀ (L : List xV) (i j : Nat) (w : Value), (j, w) ∈ xl E i L ↔ ∃ (k : Nat) (v : xV), L[k]? = some v ∧ v.1 ≠ 9 ∧ j = i + k ∧ w = xr E v
  | [], i, j, w => by simp [xl]
  | v :: t, i, j, w => by
    have ih := xl_mem (E := E) t (i + 1) j w
    constructor
    · intro h
      unfold xl at h
      split at h
      · obtain ⟨k, v', h1, h2, h3, h4⟩ := ih.mp h
        exact ⟨k + 1, v', by simpa using h1, h2, by omega, h4⟩
      · rcases List.mem_cons.mp h with h | h
        · cases h
          exact ⟨0, v, rfl, by assumption, rfl, rfl⟩
        · obtain ⟨k, v', h1, h2, h3, h4⟩ := ih.mp h
          exact ⟨k + 1, v', by simpa using h1, h2, by omega, h4⟩
    · rintro ⟨k, v', h1, h2, h3, h4⟩
      cases k with
      | zero =>
        simp at h1
        subst h1 h4
        unfold xl
        rw [if_neg h2]
        exact List.mem_cons.mpr (Or.inl (by rw [h3]; rfl))
      | succ k =>
        have h5 : (j, w) ∈ xl E (i + 1) t := ih.mpr ⟨k, v', by simpa using h1, h2, by omega, h4⟩
        unfold xl
        split
        · exact h5
        · exact List.mem_cons_of_mem _ h5
theorem xl_get {E : xE} {L : List xV} {ls : Array Slot} {N i : Nat} {v : xV} (h : lv_has ls N (xl E 0 L)) (hL : L[i]? = some v) (hv : v.1 ≠ 9) : ls[i]? = some (.val (xr E v)) :=
  h.2.2 (i, xr E v) ((xl_mem L 0 i _).mpr ⟨i, v, hL, hv, by omega, rfl⟩)
theorem lv_has_mono {ls : Array Slot} {N : Nat} {l l' : List (Nat × Value)} (h : lv_has ls N l) (hm : ∀ q ∈ l', q ∈ l) : lv_has ls N l' := ⟨h.1, h.2.1, fun q hq => h.2.2 q (hm q hq)⟩
theorem xl_set1 {E : xE} {L : List xV} {i : Nat} {v : xV} (hp : ∀ u, L[i - 1]? = some u → 0 < i → u.1 ≠ 1) : ∀ q ∈ xl E 0 (L.set i v), q ∈ (i, xr E v) :: (xl E 0 L).filter (fun q => !(q.1 == i) && !(q.1 + 1 == i && q.2.category == 2)) := by
  rintro ⟨j, w⟩ hq
  obtain ⟨k, u, h1, h2, h3, h4⟩ := (xl_mem _ _ _ _).mp hq
  have hjk : j = k := by omega
  subst hjk
  by_cases hji : j = i
  · subst hji
    have : u = v := by
      rw [List.getElem?_set] at h1
      split at h1
      · split at h1 <;> simp_all
      · omega
    subst this
    exact List.mem_cons.mpr (Or.inl (by rw [h4]))
  · refine List.mem_cons_of_mem _ (List.mem_filter.mpr ⟨(xl_mem _ _ _ _).mpr ⟨j, u, ?_, h2, by omega, h4⟩, ?_⟩)
    · rw [List.getElem?_set_ne (Ne.symm hji)] at h1
      exact h1
    · rw [List.getElem?_set_ne (Ne.symm hji)] at h1
      by_cases hc : j + 1 = i
      · have hu := hp u (by rw [← hc]; simpa using h1) (by omega)
        have : ¬ w.category = 2 := by
          rw [h4]
          unfold xr
          split
          · exact fun h => nomatch h
          · rename_i h; exact absurd h hu
          · split <;> exact fun h => nomatch h
          · exact fun h => nomatch h
        simp [hji, this]
      · simp [hji, hc]
theorem xl_set2 {E : xE} {L : List xV} {i : Nat} {x : Int} (hp : ∀ u, L[i - 1]? = some u → 0 < i → u.1 ≠ 1) : ∀ q ∈ xl E 0 ((L.set i (vL x)).set (i + 1) vX), q ∈ (i, xr E (vL x)) :: (xl E 0 L).filter (fun q => !(q.1 == i) && (!(q.1 == i + 1) && !(q.1 + 1 == i && q.2.category == 2))) := by
  rintro ⟨j, w⟩ hq
  obtain ⟨k, u, h1, h2, h3, h4⟩ := (xl_mem _ _ _ _).mp hq
  have hjk : j = k := by omega
  subst hjk
  have hj1 : j ≠ i + 1 := by
    rintro rfl
    rw [List.getElem?_set] at h1
    split at h1
    · split at h1
      · cases h1; exact h2 rfl
      · cases h1
    · omega
  rw [List.getElem?_set_ne (Ne.symm hj1)] at h1
  have hm : (j, w) ∈ xl E 0 (L.set i (vL x)) := (xl_mem _ _ _ _).mpr ⟨j, u, h1, h2, by omega, h4⟩
  rcases List.mem_cons.mp (xl_set1 hp _ hm) with h | h
  · exact List.mem_cons.mpr (Or.inl h)
  · obtain ⟨ha, hb⟩ := List.mem_filter.mp h
    refine List.mem_cons_of_mem _ (List.mem_filter.mpr ⟨ha, ?_⟩)
    simp only [Bool.and_eq_true] at hb ⊢
    exact ⟨hb.1, by simpa using hj1, hb.2⟩
