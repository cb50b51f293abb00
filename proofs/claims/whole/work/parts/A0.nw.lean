/-! worlds that grow -/
def xHn (E : xE) (n : Nat) (σ : xW) (H : Heap) : Prop := va_P E.2.2.1 xcls (xp E n σ) H ∧ True
def xFN (E : xE) (Y : xMD) (d : Nat) (K : List xV → Nat → xW → Prop) (p : Program) (l : Launch) (e : Env) (R : Room) (s : State) (m : MethodId) (args : Array Value) (below : List Frame) (meth : Method) (c : Code) (mc ms : Nat) (Q : State → Prop) : Prop :=
  p.tables.exec = Jvm.exec ∧ c.code = Y.2.1 ∧ c.maxLocals = Y.2.2.1 ∧ s.vm.findClass Y.1.cls = some m.cls ∧ (∀ w ∈ xTB, w.before args s = true) ∧ xK E s ∧ (d ≤ R.frames ∧ 100 * d ≤ R.locals ∧ mc ≤ R.cells ∧ ms ≤ R.slots) ∧ E.1 ≤ s.heap.size ∧ (meth.name = Y.1.name ∧ va_AO "NoonGun$Town" s) ∧
  (∀ (r : List xV) (n : Nat) (σ : xW) (pc : Nat) (ls : Array Slot) (H : Heap) (locs : List Loc) (cells slots : Nat), K r n σ → xok Y.2.2.2 r → decode Y.2.1 pc = .ok (xri r, 1) → xHn E n σ H → va_S (xA E) s.heap H locs → (cells ≤ mc ∧ s.heap.size + cells = E.1 + n) → slots ≤ ms → W p l e R s m args below meth c H locs cells slots Q (F0 m pc ls (r.map (xr E))))
def xGN (d bc bs : Nat) (Y : xMD) (pc : Nat) (L S : List xV) (n : Nat) (σ : xW) (K : List xV → Nat → xW → Prop) : Prop :=
  ∀ (E : xE) (p : Program) (l : Launch) (e : Env) (R : Room) (s : State) (m : MethodId) (args : Array Value) (below : List Frame) (meth : Method) (c : Code) (mc ms : Nat) (Q : State → Prop), xFN E Y d K p l e R s m args below meth c mc ms Q →
  ∀ (H : Heap) (locs : List Loc) (cells slots : Nat) (ls : Array Slot), xHn E n σ H → va_S (xA E) s.heap H locs → (cells + bc ≤ mc ∧ s.heap.size + cells = E.1 + n) → slots + bs ≤ ms → lv_has ls Y.2.2.1 (xl E 0 L) →
  W p l e R s m args below meth c H locs cells slots Q (F0 m pc ls (S.map (xr E)))
def xQn (E : xE) (K : List xV → Nat → xW → Prop) : Array Value → State → Outcome → State → Prop := fun _ st oc t => (∃ (r : List xV) (n : Nat) (σ : xW), oc = .returned (r.head?.map (xr E)) ∧ r.length ≤ 1 ∧ K r n σ ∧ xHn E n σ t.heap) ∧ va_F (xA E) st t
def xPn (E : xE) (as : List xV) (n : Nat) (σ : xW) : Array Value → State → Prop := va_Pc (as.map (xr E)) (fun U => xHn E n σ U.heap ∧ xK E U ∧ U.heap.size = E.1 + n ∧ va_AO "NoonGun$Town" U)
def xCN (d bc bs : Nat) (Y : xMD) (as : List xV) (n : Nat) (σ : xW) (K : List xV → Nat → xW → Prop) : Prop :=
  ∀ (E : xE) (l : Launch), Met l Y.1 (Cond.code Y.1 Y.2.1 Y.2.2.1 Y.2.2.2 :: xTB) (xrm d bc bs) (xPn E as n σ) (xQn E K) bc bs (xA E)
theorem w_oi : Cond.instanceMethod Lib.objectInit ∈ xTB ∧ Cond.code Lib.objectInit ⟨#[0xb1]⟩ 1 none ∈ xTB := ⟨x_tb (tb1 32 (by decide +kernel)) rfl, x_tb (tb1 33 (by decide +kernel)) rfl⟩
def xtysK (ty : FieldType) : Option Nat := match ty with
  | .int => some 1
  | .long => some 2
  | .boolean => some 3
  | .char => some 4
  | _ => none
theorem xtys_arr {E : xE} {n : Nat} {σ : xW} {c : Int} {len kd : Nat} {ty : FieldType} (hk : xtysK ty = some kd) (h1 : (xsh c).1 = kd) (h2 : (xsh c).2.1 = len) (h3 : ∀ j, σ c j = 0) : ∃ a0 : vp_A, (∀ cA : ClassId, vp_cell cA a0 = arrV cA len (fun _ => defaultValue ty)) ∧ componentBytes ty ≤ 8 ∧ xe E n (xsh c) (σ c) = .inl (E.2.2.2 kd, a0) ∧ ∀ (cA : ClassId) (s : State), va_K E.2.2.1 xcls (xtys E) s → va_RA s cA ty → cA = E.2.2.2 kd := by
  cases ty <;> (first | (cases hk; done) | skip)
  all_goals (obtain rfl : _ = kd := Option.some.inj hk)
  all_goals first
    | exact ⟨(len, .inr (.inl fun j => Int64.ofInt (σ c j))), fun cA => by unfold vp_cell; simp only [h3]; rfl, by decide, by rw [xe_long h1, h2], fun cA s hK hR => Option.some.inj (hR.symm.trans (hK.2 1 (E.2.2.2 2, .long) rfl).2)⟩
    | exact ⟨(len, .inl fun j => Int32.ofInt (σ c j)), fun cA => by unfold vp_cell; simp only [h3]; rfl, by decide, by rw [xe_int h1 (Or.inl rfl), h2], fun cA s hK hR => Option.some.inj (hR.symm.trans (hK.2 0 (E.2.2.2 1, .int) rfl).2)⟩
    | exact ⟨(len, .inl fun j => Int32.ofInt (σ c j)), fun cA => by unfold vp_cell; simp only [h3]; rfl, by decide, by rw [xe_int h1 (Or.inr (Or.inl rfl)), h2], fun cA s hK hR => Option.some.inj (hR.symm.trans (hK.2 2 (E.2.2.2 3, .boolean) rfl).2)⟩
    | exact ⟨(len, .inl fun j => Int32.ofInt (σ c j)), fun cA => by unfold vp_cell; simp only [h3]; rfl, by decide, by rw [xe_int h1 (Or.inr (Or.inr rfl)), h2], fun cA s hK hR => Option.some.inj (hR.symm.trans (hK.2 3 (E.2.2.2 4, .char) rfl).2)⟩
section NW
variable {d bc bs : Nat} {Y : xMD} {pc : Nat} {L S : List xV} {n : Nat} {σ : xW} {K : List xV → Nat → xW → Prop}
theorem n_ic {v : Int} (hd : decode Y.2.1 pc = .ok (.iconst v, 1)) (k : xGN d bc bs Y (pc + 1) L (vI v :: S) n σ K) : xGN d bc bs Y pc L (S) n σ K := by
  intro E p l e R s m args below meth c mc ms Q F H locs cells slots ls hH hS h1 h2 hl
  exact lv_iconst F.1 F.2.1 hd rfl (k E p l e R s m args below meth c mc ms Q F H locs cells slots ls hH hS h1 h2 hl)
theorem n_bi {v : Int} (hd : decode Y.2.1 pc = .ok (.bipush v, 2)) (hv : (Int8.ofInt v).toInt32 = Int32.ofInt v) (k : xGN d bc bs Y (pc + 2) L (vI v :: S) n σ K) : xGN d bc bs Y pc L (S) n σ K := by
  intro E p l e R s m args below meth c mc ms Q F H locs cells slots ls hH hS h1 h2 hl
  exact lv_bipush F.1 F.2.1 hd hv (k E p l e R s m args below meth c mc ms Q F H locs cells slots ls hH hS h1 h2 hl)
theorem n_si {v : Int} (hd : decode Y.2.1 pc = .ok (.sipush v, 3)) (hv : (Int16.ofInt v).toInt32 = Int32.ofInt v) (k : xGN d bc bs Y (pc + 3) L (vI v :: S) n σ K) : xGN d bc bs Y pc L (S) n σ K := by
  intro E p l e R s m args below meth c mc ms Q F H locs cells slots ls hH hS h1 h2 hl
  exact lv_sipush F.1 F.2.1 hd hv (k E p l e R s m args below meth c mc ms Q F H locs cells slots ls hH hS h1 h2 hl)
theorem n_aln {j : Fin 4} {i : Nat} {x : Int} (hd : decode Y.2.1 pc = .ok (.aload_n j, 1)) (hi : (j : Nat) = i) (hL : L[i]? = some (vR x)) (hx0 : 0 ≤ x) (k : xGN d bc bs Y (pc + 1) L (vR x :: S) n σ K) : xGN d bc bs Y pc L (S) n σ K := by
  intro E p l e R s m args below meth c mc ms Q F H locs cells slots ls hH hS h1 h2 hl
  have hx : xr E (vR x) = .ref (E.1 + x.toNat) := by unfold xr vR; simp only []; rw [if_neg (by omega)]
  have hq := xl_get hl hL (fun h => nomatch h)
  rw [hx] at hq
  have k2 := k E p l e R s m args below meth c mc ms Q F H locs cells slots ls hH hS h1 h2 hl
  rw [List.map_cons, hx] at k2
  exact lv_aload_n F.1 F.2.1 hd hi hq k2
theorem n_iln {j : Fin 4} {i : Nat} {x : Int} (hd : decode Y.2.1 pc = .ok (.iload_n j, 1)) (hi : (j : Nat) = i) (hL : L[i]? = some (vI x)) (k : xGN d bc bs Y (pc + 1) L (vI x :: S) n σ K) : xGN d bc bs Y pc L (S) n σ K := by
  intro E p l e R s m args below meth c mc ms Q F H locs cells slots ls hH hS h1 h2 hl
  exact lv_iload_n F.1 F.2.1 hd hi (xl_get hl hL (fun h => nomatch h)) (k E p l e R s m args below meth c mc ms Q F H locs cells slots ls hH hS h1 h2 hl)
theorem n_istn0 {j : Fin 4} {i : Nat} {x : Int} {L' : List xV} (hd : decode Y.2.1 pc = .ok (.istore_n j, 1)) (hi : (j : Nat) = i) (hn : i < Y.2.2.1) (hp : ∀ u, L[i - 1]? = some u → 0 < i → u.1 ≠ 1) (hL : L.set i (vI x) = L') (k : xGN d bc bs Y (pc + 1) L' S n σ K) : xGN d bc bs Y pc L (vI x :: S) n σ K := by
  intro E p l e R s m args below meth c mc ms Q F H locs cells slots ls hH hS h1 h2 hl
  subst hL
  exact lv_istore_n F.1 F.2.1 hd hi hl hn rfl fun ls' hl' => k E p l e R s m args below meth c mc ms Q F H locs cells slots ls' hH hS h1 h2 (lv_has_mono hl' (xl_set1 hp))
theorem n_istn_1 {x : Int} {a0 a1 : xV} {t : List xV} (hd : decode Y.2.1 pc = .ok (.istore_n 1, 1)) (hn : 1 < Y.2.2.1) (hp : (a0.1 == 1) = false) (k : xGN d bc bs Y (pc + 1) (a0 :: vI x :: t) S n σ K) : xGN d bc bs Y pc (a0 :: a1 :: t) (vI x :: S) n σ K := n_istn0 (i := 1) hd rfl hn (fun u hu _ => by simp at hu; subst hu; simpa using hp) rfl k
theorem n_inc0 {i : Nat} {x y : Int} {L' : List xV} (hd : decode Y.2.1 pc = .ok (.iinc i y, 3)) (hL0 : L[i]? = some (vI x)) (hn : i < Y.2.2.1) (hp : ∀ u, L[i - 1]? = some u → 0 < i → u.1 ≠ 1) (hL : L.set i (vI (x + y)) = L') (k : xGN d bc bs Y (pc + 3) L' S n σ K) : xGN d bc bs Y pc L S n σ K := by
  intro E p l e R s m args below meth c mc ms Q F H locs cells slots ls hH hS h1 h2 hl
  subst hL
  obtain ⟨kk, hk⟩ := List.getElem?_of_mem ((xl_mem (E := E) L 0 i _).mpr ⟨i, vI x, hL0, (fun h => nomatch h), by omega, rfl⟩)
  exact lv_iinc F.1 F.2.1 hd hl hk (v := Int32.ofInt (x + y)) (by rw [Int32.ofInt_add]; rfl) hn rfl fun ls' hl' => k E p l e R s m args below meth c mc ms Q F H locs cells slots ls' hH hS h1 h2 (lv_has_mono hl' (xl_set1 hp))
theorem n_inc_1 {x y : Int} {a0 : xV} {t : List xV} (hd : decode Y.2.1 pc = .ok (.iinc 1 y, 3)) (hn : 1 < Y.2.2.1) (hp : (a0.1 == 1) = false) (k : xGN d bc bs Y (pc + 3) (a0 :: vI (x + y) :: t) S n σ K) : xGN d bc bs Y pc (a0 :: vI x :: t) S n σ K := n_inc0 (i := 1) hd rfl hn (fun u hu _ => by simp at hu; subst hu; simpa using hp) rfl k
theorem n_goto {off : Int} {tgt : Nat} (hd : decode Y.2.1 pc = .ok (.goto off, 3)) (ht : (pc : Int) + off = (tgt : Int)) (k : xGN d bc bs Y (tgt) L (S) n σ K) : xGN d bc bs Y pc L (S) n σ K := by
  intro E p l e R s m args below meth c mc ms Q F H locs cells slots ls hH hS h1 h2 hl
  exact lv_goto F.1 F.2.1 hd ht (k E p l e R s m args below meth c mc ms Q F H locs cells slots ls hH hS h1 h2 hl)
theorem n_cge {a b : Int} {off : Int} {tgt : Nat} (hd : decode Y.2.1 pc = .ok (.if_icmp .ge off, 3)) (ht : (pc : Int) + off = (tgt : Int)) (ha : I32 a) (hb : I32 b) (kt : b ≤ a → xGN d bc bs Y tgt L S n σ K) (kf : a < b → xGN d bc bs Y (pc + 3) L S n σ K) : xGN d bc bs Y pc L (vI b :: vI a :: S) n σ K := by
  intro E p l e R s m args below meth c mc ms Q F H locs cells slots ls hH hS h1 h2 hl
  exact lv_icmp_ge F.1 F.2.1 hd ht (fun h => kt ((w32_le hb ha).mp h) E p l e R s m args below meth c mc ms Q F H locs cells slots ls hH hS h1 h2 hl) (fun h => kf (by have h' := mt (w32_le hb ha).mpr h; omega) E p l e R s m args below meth c mc ms Q F H locs cells slots ls hH hS h1 h2 hl)
theorem n_dup {v : xV} (hd : decode Y.2.1 pc = .ok (.dup, 1)) (hv : (v.1 == 1) = false) (k : xGN d bc bs Y (pc + 1) L (v :: v :: S) n σ K) : xGN d bc bs Y pc L (v :: S) n σ K := by
  intro E p l e R s m args below meth c mc ms Q F H locs cells slots ls hH hS h1 h2 hl
  exact lv_dup F.1 F.2.1 hd (xr_cat1 hv) (k E p l e R s m args below meth c mc ms Q F H locs cells slots ls hH hS h1 h2 hl)
theorem n_get0 {c : Int} {i ci k t : Nat} {fin : Bool} {ft : FieldType} {v : xV} (hd : decode Y.2.1 pc = .ok (.getfield i, 3)) (hf : xFL Y.1.cls i ci k fin ft) (hs : xis n c ci k t = true) (hv : xfv n t (σ c k) = v) (kk : xGN d bc bs Y (pc + 3) L (v :: S) n σ K) : xGN d bc bs Y pc L (vR c :: S) n σ K := by
  intro E p l e R s m args below meth c0 mc ms Q F H locs cells slots ls hH hS h1 h2 hl
  have k2 := kk E p l e R s m args below meth c0 mc ms Q F H locs cells slots ls hH hS h1 h2 hl
  obtain ⟨C, T, N, ty, f1, f2, f3, f4, f5, f6, f7, f8⟩ := hf
  obtain ⟨s0, s1, s2, s3, s4⟩ := xis_spec hs
  rw [List.map_cons, xr_R s0]
  have he := xp_get (E := E) (σ := σ) s0 s1
  rw [xe_obj s2, s3] at he
  have hfv : (xfs E n (σ c) 0 (xsh c).2.2)[k]? = some (xr E v) := by rw [xfs_get, s4]; simp [hv]
  rcases f8 with hq | ⟨host, hq⟩
  · exact va_get F.1 F.2.1 F.2.2.2.2.1 f3 F.2.2.2.1 F.2.2.2.2.2.1.1 hH.1 _ he f1 k f2 (F.2.2.2.2.1 _ hq) (fun _ h => h) hfv hd k2
  · exact va_getN F.1 F.2.1 F.2.2.2.2.1 f3 F.2.2.2.1 F.2.2.2.2.2.1.1 hH.1 _ he f1 k f2 ((F.2.2.2.2.2.1.2.1 _ hq).use rfl) (fun _ h => h) hfv hd k2
theorem n_ldcS {k : Nat} (i : Nat) {q : String × Nat × String × List Int} (hd : decode Y.2.1 pc = .ok (.ldc k, 2)) (hq : xLits[i]? = some q) (h1 : q.1 = Y.1.cls) (h2 : q.2.1 = k) (kk : xGN d bc bs Y (pc + 2) L (vT i :: S) n σ K) : xGN d bc bs Y pc L S n σ K := by
  intro E p l e R s m args below meth c mc ms Q F H locs cells slots ls hH hS h3 h4 hl
  have k2 := kk E p l e R s m args below meth c mc ms Q F H locs cells slots ls hH hS h3 h4 hl
  obtain ⟨Fx, Fb, Fml, Fo, Ft, FK, -⟩ := id F
  have hR := (FK.2.2.1 i q hq).1
  rw [h1, h2] at hR
  exact va_ldcS Fx Fb Fo hR hd k2
theorem n_slen {j : Nat} (i : Nat) {q : String × Nat × String × List Int} (hd : decode Y.2.1 pc = .ok (.invokevirtual j, 3)) (hm : Cond.methodLink Y.1.cls j nJ_len ∈ xTB) (hq : xLits[i]? = some q) (hdd : 2 ≤ d) (hrest : decide ((S.map (fun v => if v.1 = 1 then 2 else 1)).sum ≤ 8) = true) (k : xGN d bc bs Y (pc + 3) L (vI (q.2.2.2.length : Int) :: S) n σ K) : xGN d bc bs Y pc L (vT i :: S) n σ K := by
  intro E p l e R s m args below meth c mc ms Q F H locs cells slots ls hH hS h1 h2 hl
  have k2 := k E p l e R s m args below meth c mc ms Q F H locs cells slots ls hH hS h1 h2 hl
  obtain ⟨Fx, Fb, Fml, Fo, Ft, FK, ⟨Fr1, Fr2, Fr3, Fr4⟩, -, -⟩ := id F
  obtain ⟨t, hSK⟩ := xSK_of FK.2.2 hq
  obtain ⟨cell, q1, q2, q3, -⟩ := (hSK H locs ({ s with heap := H } : State) hS rfl (Vm.Alike.refl _)).1
  exact w_jV (d := d) (as := []) (Y' := yJ_len) Fx Fb Fml Fo Ft ⟨Fr1, Fr2⟩ hm w_len wi_len wv_len (j_len (a := E.2.1 i) (t := t) (w := q.2.2.2)) ⟨cell, q1, q2, q3⟩ (fun U hU hW => hSK H locs U hS hU hW.alike) rfl (by omega) (by rw [xcat]; exact of_decide_eq_true hrest) hl.1 ⟨by omega, by omega⟩ hd k2
theorem n_ret {r : List xV} (hd : decode Y.2.1 pc = .ok (xri r, 1)) (ho : xok Y.2.2.2 r) (hk : K r n σ) (hb0 : bc = 0) : xGN d bc bs Y pc L r n σ K := by
  intro E p l e R s m args below meth c mc ms Q F H locs cells slots ls hH hS h1 h2 hl
  subst hb0
  exact F.2.2.2.2.2.2.2.2.2 r n σ pc ls H locs cells slots hk ho hd hH hS ⟨by omega, h1.2⟩ (by omega)
theorem n_obj {i : Nat} {c : Int} (hc : 0 ≤ c) (hd : decode Y.2.1 pc = .ok (.invokespecial i, 3)) (hm : Cond.methodLink Y.1.cls i Lib.objectInit ∈ xTB) (hdd : 1 ≤ d) (hrest : decide ((S.map (fun v => if v.1 = 1 then 2 else 1)).sum ≤ 8) = true) (kk : xGN d bc bs Y (pc + 3) L S n σ K) : xGN d bc bs Y pc L (vR c :: S) n σ K := by
  intro E p l e R s m args below meth c0 mc ms Q F H locs cells slots ls hH hS h1 h2 hl
  have k2 := kk E p l e R s m args below meth c0 mc ms Q F H locs cells slots ls hH hS h1 h2 hl
  obtain ⟨Fx, Fb, Fml, Fo, Ft, FK, ⟨Fr1, Fr2, Fr3, Fr4⟩, -, -⟩ := id F
  rw [List.map_cons, xr_R hc]
  have hr8 : ((S.map (xr E)).map fun v => v.category).sum ≤ 8 := by rw [xcat]; exact of_decide_eq_true hrest
  have hr9 : 2 * (F0 m pc ls (Value.ref (E.1 + c.toNat) :: S.map (xr E))).monitorRoom + ((S.map (xr E)).map fun v => v.category).sum ≤ 8 := lv_room hr8
  exact W.objInit Fx Fb Fo (Ft _ hm) (Ft _ w_oi.1) (Ft _ w_oi.2) rfl (by rw [Fml]; exact hl.1) rfl hd (by omega) (by omega) k2
/-- a cell's fields at first -/
def xdf (t : Nat) : Value := if t = 0 then .int 0 else if t = 1 then .long 0 else if t = 3 then .int 0 else .null
def xdi (t : Nat) : Int := if t = 0 then 0 else if t = 1 then 0 else if t = 3 then 0 else -1
def xnO (σ : xW) (n : Nat) : xW := fun c k => if c = (n : Int) then xdi ((xsh n).2.2.getD k.toNat 0) else σ c k
def xnz (σ : xW) (n : Nat) : xW := fun c k => if c = (n : Int) then 0 else σ c k
def xnm (σ : xW) (n : Nat) : xW := fun c k => if c = (n : Int) then -1 else σ c k
theorem xfv_n {n n' t : Nat} {x : Int} (h : n ≠ 155) (h' : n' ≠ 155) : xfv n t x = xfv n' t x := by
  unfold xfv
  rw [if_neg h, if_neg h']
theorem xfs_n {E : xE} {n n' : Nat} {f : Int → Int} (h : n ≠ 155) (h' : n' ≠ 155) : ∀ (ts : List Nat) (k : Nat), xfs E n f k ts = xfs E n' f k ts
  | [], _ => rfl
  | t :: ts, k => by unfold xfs; rw [xfs_n h h' ts (k + 1), xfv_n h h']
theorem xe_n {E : xE} {n n' : Nat} {s : Nat × Nat × List Nat} {f : Int → Int} (h : n ≠ 155) (h' : n' ≠ 155) : xe E n s f = xe E n' s f := by
  unfold xe
  simp only [xfs_n (E := E) (f := f) h h', if_neg h, if_neg h']
theorem xp_app {E : xE} {n : Nat} {σ σ' : xW} (h : n ≠ 155) (h' : n + 1 ≠ 155) (hr : ∀ c : Int, c < n → σ' c = σ c) : xp E n σ ++ [(E.1 + n, xe E (n + 1) (xsh n) (σ' n))] = xp E (n + 1) σ' := by
  unfold xp
  rw [List.range_succ, List.map_append]
  congr 1
  apply List.map_congr_left
  intro c hc
  rw [hr c (by have := List.mem_range.mp hc; omega), xe_n h h']
theorem w_size {p : Program} {l : Launch} {e : Env} {R : Room} {s : State} {m : MethodId} {args : Array Value} {below : List Frame} {meth : Method} {c : Code} {H : Heap} {locs : List Loc} {cells slots : Nat} {Q : State → Prop} {g : JFrame} (k : H.size ≤ s.heap.size + cells → W p l e R s m args below meth c H locs cells slots Q g) : W p l e R s m args below meth c H locs cells slots Q g := fun T hT X => k (by have := X.heapSize; rw [hT] at this; exact this) T hT X
theorem new_at {E : xE} {n q : Nat} {σ : xW} {x : va_E} {H1 : Heap} (hP : va_P E.2.2.1 xcls (xp E n σ ++ [(q, x)]) H1) (hD : va_D (xA E) (xp E n σ ++ [(q, x)])) (hs : H1.size ≤ E.1 + n + 1) : q = E.1 + n := by
  have hl : (xp E n σ).length = n := by unfold xp; simp
  have hq : (xp E n σ ++ [(q, x)])[n]? = some (q, x) := by rw [List.getElem?_append_right (by omega)]; simp [hl]
  have h1 := (hP n _ hq).lt
  have h1 : q < H1.size := h1
  have h2 : E.1 ≤ q := hD.2 n _ hq
  by_cases hc : q < E.1 + n
  · exfalso
    have h3 : (xp E n σ ++ [(q, x)])[q - E.1]? = some (E.1 + (q - E.1), xe E n (xsh ((q - E.1 : Nat) : Int)) (σ ((q - E.1 : Nat) : Int))) := by
      rw [List.getElem?_append_left (by omega)]
      unfold xp
      rw [List.getElem?_map, List.getElem?_range (by omega)]
      rfl
    have := hD.1 _ _ _ _ h3 hq (by show E.1 + (q - E.1) = q; omega)
    omega
  · omega
theorem n_put0 {c x : Int} {i ci k t : Nat} {fin : Bool} {ft : FieldType} {v : xV} (hd : decode Y.2.1 pc = .ok (.putfield i, 3)) (hf : xFL Y.1.cls i ci k fin ft) (hs : xis n c ci k t = true) (hv : xfv n t x = v) (hn : ∀ E, narrow ft (xr E v) = xr E v ∧ fits ft (xr E v) = true) (hi : fin = true → Y.1.name = "<init>" ∧ (xcls[ci]?).map (fun q => (q.2.1 k).1) = some Y.1.cls ∧ ∃ C T N, xcls[ci]? = some (C, T, N) ∧ Cond.fieldLink Y.1.cls i (T k).1 (T k).2.1 (T k).2.2.1 ∈ xTB) (kk : xGN d bc bs Y (pc + 3) L S n (xu σ c k x) K) : xGN d bc bs Y pc L (v :: vR c :: S) n σ K := by
  intro E p l e R s m args below meth c0 mc ms Q F H locs cells slots ls hH hS h1 h2 hl
  obtain ⟨C, T, N, ty, f1, f2, f3, f4, f5, f6, f7, f8⟩ := hf
  obtain ⟨s0, s1, s2, s3, s4⟩ := xis_spec hs
  rw [List.map_cons, List.map_cons, xr_R s0]
  have he := xp_get (E := E) (σ := σ) s0 s1
  rw [xe_obj s2, s3] at he
  have hlen : k < (xfs E n (σ c) 0 (xsh c).2.2).length := by rw [xfs_len]; exact (List.getElem?_eq_some_iff.mp s4).1
  have hset : (xp E n σ).set c.toNat (E.1 + c.toNat, .inr (ci, (xfs E n (σ c) 0 (xsh c).2.2).set k (xr E v))) = xp E n (xu σ c k x) := by
    rw [← xp_set (σ := σ) (σ' := xu σ c k x) s0 s1 (fun c' h => xu_row σ _ _ h), xe_obj s2, s3, ← xfs_set (f := σ c) (f' := xu σ c k x c) s4 (fun j h => xu_slot σ c x h), xu_same, hv]
  have fin' : ∀ (H1 : Heap) (locs1 : List Loc), va_P E.2.2.1 xcls ((xp E n σ).set c.toNat (E.1 + c.toNat, .inr (ci, (xfs E n (σ c) 0 (xsh c).2.2).set k (xr E v)))) H1 → va_D (xA E) ((xp E n σ).set c.toNat (E.1 + c.toNat, .inr (ci, (xfs E n (σ c) 0 (xsh c).2.2).set k (xr E v)))) → va_S (xA E) s.heap H1 locs1 → W p l e R s m args below meth c0 H1 locs1 cells slots Q (F0 m (pc + 3) ls (S.map (xr E))) := by
    intro H1 locs1 hP1 hD1 hS1
    rw [hset] at hP1
    exact kk E p l e R s m args below meth c0 mc ms Q F H1 locs1 cells slots ls ⟨hP1, trivial⟩ hS1 h1 h2 hl
  cases fin with
  | false =>
    rcases f8 with hq | ⟨host, hq⟩
    · exact va_put F.1 F.2.1 F.2.2.2.2.1 f3 ty f4 f5 F.2.2.2.1 F.2.2.2.2.2.1.1 hH.1 xp_D hS _ he f1 k f2 (F.2.2.2.2.1 _ hq) (fun _ h => h) f6 ((f4 k f2).trans (congrArg some f7)) (hn E).1 (hn E).2 hlen hd fin'
    · exact va_putN F.1 F.2.1 F.2.2.2.2.1 f3 ty f4 f5 F.2.2.2.1 F.2.2.2.2.2.1.1 hH.1 xp_D hS _ he f1 k f2 ((F.2.2.2.2.2.1.2.1 _ hq).use rfl) (fun _ h => h) f6 ((f4 k f2).trans (congrArg some f7)) (hn E).1 (hn E).2 hlen hd fin'
  | true =>
    obtain ⟨g1, g2, C', T', N', g3, g4⟩ := hi rfl
    cases f1.symm.trans g3
    rw [g3] at g2
    have g2 : (T k).1 = Y.1.cls := Option.some.inj g2
    exact va_putF F.1 F.2.1 F.2.2.2.2.1 f3 ty f4 f5 F.2.2.2.1 F.2.2.2.2.2.1.1 hH.1 xp_D hS _ he f1 k f2 (F.2.2.2.2.1 _ g4) (fun _ h => h) f6 (F.2.2.2.2.2.2.2.2.1.1.trans g1) g2 ((f4 k f2).trans (congrArg some f7)) (hn E).1 (hn E).2 hlen hd fin'
theorem n_new {i ci N : Nat} {C : String} {T : u_T} {ty : Nat → FieldType} (hd : decode Y.2.1 pc = .ok (.new i, 3)) (hcl : Cond.classLink Y.1.cls i C ∈ xTB) (hinst : Cond.instantiable C N ∈ xTB) (hini : Cond.initialized C ∈ xTB) (hx : xcls[ci]? = some (C, T, N)) (hw : ∀ w ∈ u_ws C T N, w ∈ xTB) (hty : ∀ k, k < N → parseFieldDescriptor (T k).2.2.1 = some (ty k)) (h5 : (n == 155) = false) (h6 : (n + 1 == 155) = false) (hs : ((xsh n).1 == 0 && (xsh n).2.1 == ci) = true) (hdf : ∀ j, j < N → defaultValue (ty j) = vp_V ((xsh n).2.2.map xdf) j)
    (kk : xGN d bc bs Y (pc + 3) L (vR n :: S) (n + 1) (xnO σ n) K) : xGN d (bc + 1) (bs + N) Y pc L S n σ K := by
  intro E p l e R s m args below meth c0 mc ms Q F H locs cells slots ls hH hS h1 h2 hl
  obtain ⟨Fx, Fb, Fml, Fo, Ft, FK, ⟨Fr1, Fr2, Fr3, Fr4⟩, FE, -⟩ := id F
  have h5 : n ≠ 155 := by simpa using h5
  have h6 : n + 1 ≠ 155 := by simpa using h6
  simp only [Bool.and_eq_true, beq_iff_eq] at hs
  refine va_new Fx Fb Ft hw ty hty Fo (Ft _ hcl) (Ft _ hinst) (Ft _ hini) FK.1 hH.1 xp_D hS (fun q hq => (Nat.le_trans FE hq : E.1 ≤ q)) hx (fs := (xsh n).2.2.map xdf) hdf (by omega) (by omega) hd fun q H1 hP1 hD1 hS1 => ?_
  refine w_size fun hsz => ?_
  have hq := new_at hP1 hD1 (by omega)
  subst hq
  have he : xe E (n + 1) (xsh n) (xnO σ n n) = .inr (ci, (xsh n).2.2.map xdf) := by
    rw [xe_obj hs.1, hs.2]
    congr 2
    apply List.ext_getElem?
    intro k
    rw [xfs_get, List.getElem?_map]
    cases hk : (xsh (n : Int)).2.2[k]? with
    | none => rfl
    | some t =>
      simp only [Option.map_some]
      congr 1
      have e1 : xnO σ n n ((0 + k : Nat) : Int) = xdi t := by
        unfold xnO
        rw [if_pos rfl, Nat.zero_add, Int.toNat_natCast, List.getD_eq_getElem?_getD, hk]
        rfl
      rw [e1]
      unfold xdi xfv xdf
      by_cases q0 : t = 0
      · rw [if_pos q0, if_pos q0, if_pos q0]; rfl
      · by_cases q1 : t = 1
        · rw [if_neg q0, if_neg q0, if_neg q0, if_pos q1, if_pos q1, if_pos q1]; rfl
        · by_cases q3 : t = 3
          · rw [if_neg q0, if_neg q0, if_neg q0, if_neg q1, if_neg q1, if_neg q1, if_neg (show ¬ t = 2 by omega), if_pos q3, if_pos q3, if_pos q3]; rfl
          · rw [if_neg q0, if_neg q0, if_neg q0, if_neg q1, if_neg q1, if_neg q1, if_neg q3, if_neg q3, if_neg q3, if_neg h6]
            split <;> rfl
  rw [← he, xp_app h5 h6 (fun c hc => by funext j; unfold xnO; rw [if_neg (by omega)])] at hP1
  have k2 := kk E p l e R s m args below meth c0 mc ms Q F H1 locs (cells + 1) (slots + N) ls ⟨hP1, trivial⟩ hS1 ⟨by omega, by omega⟩ (by omega) hl
  exact k2
theorem n_newa {len kd : Nat} {atype : ArrayType} {ty : FieldType} (hd : decode Y.2.1 pc = .ok (.newarray atype, 2)) (hty : newarray.typeOf atype = ty) (harr : Cond.arrayClass ty ∈ xTB) (hk : (xtysK ty) = some kd) (h5 : (n == 155) = false) (h6 : (n + 1 == 155) = false) (hs : ((xsh n).1 == kd && (xsh n).2.1 == len) = true) (hlen : len ≤ 1000)
    (kk : xGN d bc bs Y (pc + 2) L (vR n :: S) (n + 1) (xnz σ n) K) : xGN d (bc + 1) (bs + len) Y pc L (vI len :: S) n σ K := by
  intro E p l e R s m args below meth c0 mc ms Q F H locs cells slots ls hH hS h1 h2 hl
  obtain ⟨Fx, Fb, Fml, Fo, Ft, FK, ⟨Fr1, Fr2, Fr3, Fr4⟩, FE, -⟩ := id F
  have h5 : n ≠ 155 := by simpa using h5
  have h6 : n + 1 ≠ 155 := by simpa using h6
  simp only [Bool.and_eq_true, beq_iff_eq] at hs
  obtain ⟨a0, ha, hb8, hxe, hty2⟩ := xtys_arr (E := E) (n := n + 1) (σ := xnz σ n) (c := (n : Int)) (len := len) hk hs.1 hs.2 (fun j => if_pos rfl)
  have e0 : (Int32.ofInt (len : Int)).toInt = len := w32 ⟨by omega, by omega⟩
  refine va_newa Fx Fb (by rw [hty]; exact Ft _ harr) hty FK.1 hH.1 xp_D hS (fun q hq => (Nat.le_trans FE hq : E.1 ≤ q)) (n := Int32.ofInt (len : Int)) (N' := len) (a0 := a0) ha ?_ ?_ (by have := Nat.mul_le_mul hlen hb8; omega) (by omega) (by omega) hd fun q cA H1 hK1 hP1 hD1 hS1 => ?_
  · rw [Int32.lt_iff_toInt_lt, e0, Int32.toInt_zero]; omega
  · rw [← Int32.toNat_toInt, e0]; rfl
  refine w_size fun hsz => ?_
  have hq := new_at hP1 hD1 (by omega)
  subst hq
  have hcA : cA = E.2.2.2 kd := hty2 cA s FK.1 (hK1.2 (xtys E).length (cA, ty) (by simp)).2
  subst hcA
  rw [← hxe, xp_app h5 h6 (fun c hc => by funext j; unfold xnz; rw [if_neg (by omega)])] at hP1
  exact kk E p l e R s m args below meth c0 mc ms Q F H1 locs (cells + 1) (slots + len) ls ⟨hP1, trivial⟩ hS1 ⟨by omega, by omega⟩ (by omega) hl
theorem n_anew {len i : Nat} (hd : decode Y.2.1 pc = .ok (.anewarray i, 3)) (hcl : Cond.classLink Y.1.cls i "NoonGun$Town" ∈ xTB) (h5 : (n == 155) = false) (h6 : (n + 1 == 155) = false) (hs : ((xsh n).1 == 5 && (xsh n).2.1 == len) = true) (hlen : len ≤ 1000)
    (kk : xGN d bc bs Y (pc + 3) L (vR n :: S) (n + 1) (xnm σ n) K) : xGN d (bc + 1) (bs + len) Y pc L (vI len :: S) n σ K := by
  intro E p l e R s m args below meth c0 mc ms Q F H locs cells slots ls hH hS h1 h2 hl
  obtain ⟨Fx, Fb, Fml, Fo, Ft, FK, ⟨Fr1, Fr2, Fr3, Fr4⟩, FE, ⟨-, FA⟩, -⟩ := id F
  have h5 : n ≠ 155 := by simpa using h5
  have h6 : n + 1 ≠ 155 := by simpa using h6
  simp only [Bool.and_eq_true, beq_iff_eq] at hs
  have e0 : (Int32.ofInt (len : Int)).toInt = len := w32 ⟨by omega, by omega⟩
  refine va_newq Fx Fb Fo (Ft _ hcl) FA FK.1 hH.1 xp_D hS (fun q hq => (Nat.le_trans FE hq : E.1 ≤ q)) (n := Int32.ofInt (len : Int)) (N' := len) ?_ ?_ (by omega) (by omega) (by omega) hd fun q cA H1 hK1 hP1 hD1 hS1 => ?_
  · rw [Int32.lt_iff_toInt_lt, e0, Int32.toInt_zero]; omega
  · rw [← Int32.toNat_toInt, e0]; rfl
  refine w_size fun hsz => ?_
  have hq := new_at hP1 hD1 (by omega)
  subst hq
  have hcA : cA = E.2.2.2 5 := by
    obtain ⟨kA, comp, -, -, -, z1⟩ := (hK1.2 (xtys E).length (cA, .object "NoonGun$Town") (by simp)).2
    obtain ⟨kA', comp', -, -, -, z2⟩ := (FK.1.2 4 (E.2.2.2 5, .object "NoonGun$Town") rfl).2
    exact Option.some.inj (z1.symm.trans z2)
  subst hcA
  have hxe : xe E (n + 1) (xsh n) (xnm σ n n) = .inl (E.2.2.2 5, len, .inr (.inr (.inr (.inr (fun _ => none))))) := by
    unfold xe
    rw [if_neg (by omega), if_neg (by omega), if_pos hs.1, hs.2]
    congr 7
    funext j
    rw [if_neg h6]
    unfold xrf xnm
    rw [if_pos rfl]
    rfl
  rw [← hxe, xp_app h5 h6 (fun c hc => by funext j; unfold xnm; rw [if_neg (by omega)])] at hP1
  exact kk E p l e R s m args below meth c0 mc ms Q F H1 locs (cells + 1) (slots + len) ls ⟨hP1, trivial⟩ hS1 ⟨by omega, by omega⟩ (by omega) hl
theorem xCN.of {as : List xV} (L : List xV) (hy : plainName Y.1.cls = true) (hlen : (xen as).length ≤ Y.2.2.1) (hL : xen as ++ List.replicate (Y.2.2.1 - (xen as).length) vX = L) (k : xGN d bc bs Y 0 L [] n σ K) : xCN d bc bs Y as n σ K := by
  intro E l
  refine Met.ofW (cc := Y.2.1) (maxL := Y.2.2.1) (ret := Y.2.2.2) hy rfl ?_
  intro p e s m args below meth c s₁ B hml hv
  obtain ⟨rfl, hH, hK, hz, hAO⟩ := hv
  have hts : ∀ w ∈ Cond.code Y.1 Y.2.1 Y.2.2.1 Y.2.2.2 :: xTB, w.before ((as.map (xr E)).toArray) s = true := atoms_spec (ws := Cond.code Y.1 Y.2.1 Y.2.2.1 Y.2.2.2 :: xTB) B.pre
  have hl := lv_entry (as.map (xr E)) (n := Y.2.2.1) (by rw [xen_len]; exact hlen)
  rw [lg_entry_eq]
  generalize (lg_sl (as.map (xr E)) ++ List.replicate (Y.2.2.1 - (lg_sl (as.map (xr E))).length) Slot.unset).toArray = ls at hl ⊢
  have hlL : lv_has ls Y.2.2.1 (xl E 0 L) := lv_has_mono hl (by rw [← hL]; exact xen_args _ as 0)
  have hr := B.returns
  have hlocks := B.notSynchronized
  have hsz : E.1 ≤ s.heap.size := by omega
  have hnm : meth.name = Y.1.name := (name_of_methodNamed B.named B.method).1
  refine k E p l e (xrm d bc bs) s m _ below meth c bc bs _ ⟨B.exec, B.bytes, hml, findClass_of_methodNamed B.named, fun w hw => hts w (List.mem_cons_of_mem _ hw), hK, ⟨Nat.le_refl _, Nat.le_refl _, Nat.le_refl _, Nat.le_refl _⟩, hsz, ⟨hnm, hAO⟩, ?_⟩ s.heap [] 0 0 ls hH va_S.rf ⟨Nat.le_of_eq (Nat.zero_add _), by omega⟩ (Nat.le_of_eq (Nat.zero_add _)) hlL
  intro r n' σ' pc ls' H locs cells slots hk hok hdg hH' hS' hc1 hc2
  refine W.widen hc1.1 hc2 ?_
  have hq : ∀ (v : Option Value) (t : State), r.head?.map (xr E) = v → r.length ≤ 1 → t.heap = H → xQn E K ((as.map (xr E)).toArray) s (.returned v) t := fun v t hv hl1 ht => ⟨⟨r, n', σ', by rw [hv], hl1, hk, by rw [ht]; exact hH'⟩, hS'.F ht⟩
  rcases r with _ | ⟨v, _ | ⟨v2, r⟩⟩
  · cases hret : Y.2.2.2 with
    | none =>
      rw [hret] at hr
      exact W.vret B.exec B.bytes hr (fun t ht _ => hq none t rfl (by simp) ht) (x_locs hS') hdg
    | some ty => rw [hret] at hok; cases ty <;> exact absurd hok (by simp [xok])
  · cases hret : Y.2.2.2 with
    | none => rw [hret] at hok; exact absurd hok (by simp [xok])
    | some ty =>
      rw [hret] at hok hr
      obtain ⟨t0, x⟩ := v
      cases ty with
      | int =>
        have ht0 : t0 = 0 := hok
        subst ht0
        exact W.iret B.exec B.bytes hr (fun t ht _ => hq _ t rfl (by simp) ht) (x_locs hS') hdg
      | boolean =>
        obtain ⟨ht0, hx⟩ := hok
        have ht0 : t0 = 0 := ht0
        subst ht0
        refine W.zret B.exec B.bytes hr ?_ (fun t ht _ => hq _ t rfl (by simp) ht) (x_locs hS') hdg
        rcases hx with hx | hx <;> (have hx : x = _ := hx) <;> subst hx <;> rfl
      | char =>
        obtain ⟨ht0, hx⟩ := hok
        have ht0 : t0 = 0 := ht0
        subst ht0
        exact W.zret B.exec B.bytes hr (x_nchar hx.1 hx.2) (fun t ht _ => hq _ t rfl (by simp) ht) (x_locs hS') hdg
      | long =>
        have ht0 : t0 = 1 := hok
        subst ht0
        exact W.lret B.exec B.bytes hr (fun t ht _ => hq _ t rfl (by simp) ht) (x_locs hS') hdg
      | _ => exact absurd hok (by simp [xok])
  · cases hret : Y.2.2.2 with
    | none => rw [hret] at hok; exact absurd hok (by simp [xok])
    | some ty => rw [hret] at hok; cases ty <;> exact absurd hok (by simp [xok])
end NW
