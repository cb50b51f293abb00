def xshL : List (Nat × Nat × List Nat) := [
  (0, 10, [11, 13, 15, 17, 2, 2, 27, 31, 97, 98, 99, 102, 110, 115, 0, 0, 117, 118]),
  (0, 8, [12, 0]),
  (4, 80, []),
  (0, 6, [14, 0]),
  (2, 16, []),
  (0, 1, [16, 0]),
  (1, 20, []),
  (0, 1, [18, 0]),
  (1, 20, []),
  (0, 7, [20, 0, 21, 22, 0, 0, 0, 3]),
  (1, 40, []),
  (1, 40, []),
  (4, 40, []),
  (0, 7, [24, 0, 25, 26, 0, 0, 0, 3]),
  (1, 40, []),
  (1, 40, []),
  (4, 40, []),
  (0, 9, [0, 0, 0, 0, 0, 0, 28, 29, 30]),
  (1, 8, []),
  (1, 8, []),
  (1, 8, []),
  (0, 3, [32, 0, 0]),
  (5, 16, [23]),
  (0, 9, [0, 0, 0, 0, 0, 0, 34, 35, 36]),
  (1, 8, []),
  (1, 8, []),
  (1, 8, []),
  (0, 9, [0, 0, 0, 0, 0, 0, 38, 39, 40]),
  (1, 8, []),
  (1, 8, []),
  (1, 8, []),
  (0, 9, [0, 0, 0, 0, 0, 0, 42, 43, 44]),
  (1, 8, []),
  (1, 8, []),
  (1, 8, []),
  (0, 9, [0, 0, 0, 0, 0, 0, 46, 47, 48]),
  (1, 8, []),
  (1, 8, []),
  (1, 8, []),
  (0, 9, [0, 0, 0, 0, 0, 0, 50, 51, 52]),
  (1, 8, []),
  (1, 8, []),
  (1, 8, []),
  (0, 9, [0, 0, 0, 0, 0, 0, 54, 55, 56]),
  (1, 8, []),
  (1, 8, []),
  (1, 8, []),
  (0, 9, [0, 0, 0, 0, 0, 0, 58, 59, 60]),
  (1, 8, []),
  (1, 8, []),
  (1, 8, []),
  (0, 9, [0, 0, 0, 0, 0, 0, 62, 63, 64]),
  (1, 8, []),
  (1, 8, []),
  (1, 8, []),
  (0, 9, [0, 0, 0, 0, 0, 0, 66, 67, 68]),
  (1, 8, []),
  (1, 8, []),
  (1, 8, []),
  (0, 9, [0, 0, 0, 0, 0, 0, 70, 71, 72]),
  (1, 8, []),
  (1, 8, []),
  (1, 8, []),
  (0, 9, [0, 0, 0, 0, 0, 0, 74, 75, 76]),
  (1, 8, []),
  (1, 8, []),
  (1, 8, []),
  (0, 9, [0, 0, 0, 0, 0, 0, 78, 79, 80]),
  (1, 8, []),
  (1, 8, []),
  (1, 8, []),
  (0, 9, [0, 0, 0, 0, 0, 0, 82, 83, 84]),
  (1, 8, []),
  (1, 8, []),
  (1, 8, []),
  (0, 9, [0, 0, 0, 0, 0, 0, 86, 87, 88]),
  (1, 8, []),
  (1, 8, []),
  (1, 8, []),
  (0, 9, [0, 0, 0, 0, 0, 0, 90, 91, 92]),
  (1, 8, []),
  (1, 8, []),
  (1, 8, []),
  (0, 9, [0, 0, 0, 0, 0, 0, 94, 95, 96]),
  (1, 8, []),
  (1, 8, []),
  (1, 8, []),
  (5, 3, [109]),
  (3, 3, []),
  (0, 0, [100, 101]),
  (1, 7, []),
  (1, 8, []),
  (0, 4, [0, 103, 104, 105, 106, 107, 108, 109]),
  (1, 8, []),
  (1, 8, []),
  (1, 8, []),
  (1, 8, []),
  (1, 8, []),
  (1, 8, []),
  (1, 8, []),
  (0, 5, [111, 112, 0, 113, 0, 114]),
  (1, 10, []),
  (1, 10, []),
  (1, 100, []),
  (1, 120, []),
  (0, 2, [116, 3]),
  (1, 21, []),
  (1, 8, []),
  (2, 16, []),
  (0, 9, [0, 0, 0, 0, 0, 0, 120, 121, 122]),
  (1, 8, []),
  (1, 8, []),
  (1, 8, []),
  (0, 9, [0, 0, 0, 0, 0, 0, 124, 125, 126]),
  (1, 8, []),
  (1, 8, []),
  (1, 8, []),
  (0, 9, [0, 0, 0, 0, 0, 0, 128, 129, 130]),
  (1, 8, []),
  (1, 8, []),
  (1, 8, []),
  (0, 11, [0, 0, 132, 0, 0, 0, 0, 0, 133, 134, 135, 136, 137, 138, 139, 0, 0, 0, 0, 140, 0, 141, 142, 0, 0, 143, 144, 145, 0, 146, 0, 0, 147, 148, 149, 150, 0, 151, 152, 153, 154, 155, 0, 156, 157, 158, 159, 160, 0, 161, 162, 163]),
  (2, 24, []),
  (1, 20, []),
  (1, 20, []),
  (1, 8, []),
  (1, 8, []),
  (1, 40, []),
  (1, 40, []),
  (1, 80, []),
  (1, 24, []),
  (1, 80, []),
  (1, 80, []),
  (1, 80, []),
  (1, 7, []),
  (1, 8, []),
  (1, 640, []),
  (1, 60, []),
  (1, 60, []),
  (1, 60, []),
  (1, 60, []),
  (1, 8, []),
  (1, 220, []),
  (1, 8, []),
  (1, 8, []),
  (1, 8, []),
  (1, 10, []),
  (1, 10, []),
  (2, 17, []),
  (3, 441, []),
  (1, 80, []),
  (3, 3, []),
  (1, 3, []),
  (1, 120, []),
  (2, 1, [])]
def xsh (c : Int) : Nat × Nat × List Nat := if c < 0 then (9, 0, []) else xshL.getD c.toNat (9, 0, [])
abbrev xcls : List vw_C := [(RX0, TX0, 2), (RX1, TX1, 2), (RX2, TX2, 2), (RX3, TX3, 3), (RX4, TX4, 8), (RX5, TX5, 6), (RX6, TX6, 2), (RX7, TX7, 8), (RX8, TX8, 2), (RX9, TX9, 9), (RX10, TX10, 18), (RX11, TX11, 52)]
/-! values: int, long, reference to a cell of the world (below 0: null), a thing outside the world, anything -/
abbrev xW : Type := Int → Int → Int
abbrev xV : Type := Nat × Int
def vI (x : Int) : xV := (0, x)
def vL (x : Int) : xV := (1, x)
def vR (x : Int) : xV := (2, x)
def vT (x : Int) : xV := (3, x)
def vX : xV := (9, 0)
/-- where the cells begin, the things outside, the classes, the classes of arrays -/
abbrev xE : Type := Nat × (Int → Nat) × va_G × (Nat → ClassId)
def xr (E : xE) (v : xV) : Value := match v.1 with
  | 0 => .int (Int32.ofInt v.2)
  | 1 => .long (Int64.ofInt v.2)
  | 2 => if v.2 < 0 then .null else .ref (E.1 + v.2.toNat)
  | _ => .ref (E.2.1 v.2)
def xl (E : xE) : Nat → List xV → List (Nat × Value)
  | _, [] => []
  | i, v :: t => if v.1 = 9 then xl E (i + 1) t else (i, xr E v) :: xl E (i + 1) t
def xfv (n t : Nat) (x : Int) : xV := if t = 0 then vI x else if t = 1 then vL x else if t = 2 then vR x else if t = 3 then vI x else if n = 155 then vR ((t : Int) - 10) else vR x
def xfs (E : xE) (n : Nat) (f : Int → Int) : Nat → List Nat → List Value
  | _, [] => []
  | k, t :: ts => xr E (xfv n t (f k)) :: xfs E n f (k + 1) ts
def xrf (E : xE) (x : Int) : Option Nat := if x < 0 then none else some (E.1 + x.toNat)
def xe (E : xE) (n : Nat) (s : Nat × Nat × List Nat) (f : Int → Int) : va_E :=
  if s.1 = 0 then .inr (s.2.1, xfs E n f 0 s.2.2)
  else if s.1 = 2 then .inl (E.2.2.2 2, s.2.1, .inr (.inl fun j => Int64.ofInt (f j)))
  else if s.1 = 5 then .inl (E.2.2.2 5, s.2.1, .inr (.inr (.inr (.inr fun j => xrf E (if n = 155 then ((s.2.2.getD 0 0 : Nat) : Int) + 4 * j else f j)))))
  else .inl (E.2.2.2 s.1, s.2.1, .inl fun j => Int32.ofInt (f j))
/-- the picture of the first n cells -/
def xp (E : xE) (n : Nat) (σ : xW) : va_W := (List.range n).map fun c => (E.1 + c, xe E n (xsh c) (σ c))
def xtys (E : xE) : List (ClassId × FieldType) := [(E.2.2.2 1, .int), (E.2.2.2 2, .long), (E.2.2.2 3, .boolean), (E.2.2.2 4, .char), (E.2.2.2 5, .object "NoonGun$Town"), (E.2.2.2 6, .byte)]
def xA (E : xE) : Nat → Prop := fun q => E.1 ≤ q
def xTB : List Cond := lw_tbl.filter goodWord
def xnest (w : Cond) : Bool := match w with
  | .fieldLinkNest _ _ _ _ _ _ => true
  | .methodLinkNest _ _ _ _ => true
  | _ => false
def xNW : List Cond := lw_tbl.filter xnest
/-- which answers a method of a kind may give -/
def xok (ret : Option FieldType) (r : List xV) : Prop := match ret, r with
  | none, [] => True
  | some .int, [v] => v.1 = 0
  | some .boolean, [v] => v.1 = 0 ∧ (v.2 = 0 ∨ v.2 = 1)
  | some .char, [v] => v.1 = 0 ∧ 0 ≤ v.2 ∧ v.2 < 65536
  | some .long, [v] => v.1 = 1
  | _, _ => False
def xri (r : List xV) : Instr := match r with
  | [] => .return_
  | v :: _ => if v.1 = 1 then .lreturn else .ireturn
/-- a field by its number in the class's pool -/
def xFL (own : String) (idx ci k : Nat) (fin : Bool) (ft : FieldType) : Prop := ∃ (C : String) (T : u_T) (N : Nat) (ty : Nat → FieldType), xcls[ci]? = some (C, T, N) ∧ k < N ∧ (∀ w ∈ u_ws C T N, w ∈ xTB) ∧ (∀ k, k < N → parseFieldDescriptor (T k).2.2.1 = some (ty k)) ∧ (∀ a, a < N → ∀ b, b < N → a ≠ b → (T a).2.1 ≠ (T b).2.1) ∧ (T k).2.2.2 = fin ∧ ty k = ft ∧
  (Cond.fieldLink own idx (T k).1 (T k).2.1 (T k).2.2.1 ∈ xTB ∨ ∃ host, Cond.fieldLinkNest own idx (T k).1 (T k).2.1 (T k).2.2.1 host ∈ xNW)
def xMN (own : String) (idx : Nat) (Y : xMD) : Prop := Cond.methodLink own idx Y.1 ∈ xTB ∨ ∃ host, Cond.methodLinkNest own idx Y.1 host ∈ xNW
def xMY (Y : xMD) (na : Nat) : Prop := Cond.initialized Y.1.cls ∈ xTB ∧ Cond.code Y.1 Y.2.1 Y.2.2.1 Y.2.2.2 ∈ xTB ∧ (Y.1.cls ≠ "java/lang/invoke/MethodHandle" ∧ Y.1.cls ≠ "java/lang/invoke/VarHandle" ∧ (parseMethodDescriptor Y.1.desc).map (fun d => d.parameters.length) = some na) ∧ Y.2.2.1 ≤ 80
/-- a method called by invokevirtual: its words, the class of its receiver -/
def xMV (own : String) (idx ci na : Nat) (Y : xMD) : Prop := xMN own idx Y ∧ xMY Y na ∧ Cond.instanceMethod Y.1 ∈ xTB ∧ Cond.selects Y.1.cls Y.1 Y.1 ∈ xTB ∧ (xcls[ci]?).map (fun q => q.1) = some Y.1.cls
def xMS (own : String) (idx na : Nat) (Y : xMD) : Prop := xMN own idx Y ∧ xMY Y na ∧ Cond.static Y.1 ∈ xTB
