/-! walks under a fact of the context -/
abbrev xGt : Type := xE → Program → Launch → Env → Room → State → MethodId → Array Value → List Frame → Method → Code → Nat → Nat → (State → Prop) → Heap → List Loc → Prop
def xZ (G : xGt) (d bc bs : Nat) (Y : xMD) (pc : Nat) (L S : List xV) (n : Nat) (σ : xW) (K : List xV → Nat → xW → Prop) : Prop :=
  ∀ (E : xE) (p : Program) (l : Launch) (e : Env) (R : Room) (s : State) (m : MethodId) (args : Array Value) (below : List Frame) (meth : Method) (c : Code) (mc ms : Nat) (Q : State → Prop), xF E Y d K p l e R s m args below meth c mc ms Q →
  ∀ (H : Heap) (locs : List Loc), G E p l e R s m args below meth c mc ms Q H locs → ∀ (cells slots : Nat) (ls : Array Slot), xH E n σ H → va_S (xA E) s.heap H locs → cells + bc ≤ mc → slots + bs ≤ ms → lv_has ls Y.2.2.1 (xl E 0 L) →
  W p l e R s m args below meth c H locs cells slots Q (F0 m pc ls (S.map (xr E)))
/-- G speaks of neither heap nor places written -/
def xGs (G : xGt) : Prop := ∀ E p l e R s m args below meth c mc ms Q H locs H1 locs1, G E p l e R s m args below meth c mc ms Q H locs → G E p l e R s m args below meth c mc ms Q H1 locs1
section ZJ
variable {G : xGt} {d bc bs : Nat} {Y : xMD} {pc : Nat} {L S : List xV} {n : Nat} {σ : xW} {K K' : List xV → Nat → xW → Prop}
theorem z_ic {v : Int} (hd : decode Y.2.1 pc = .ok (.iconst v, 1)) (k : xZ G d bc bs Y (pc + 1) L (vI v :: S) n σ K) : xZ G d bc bs Y pc L (S) n σ K := by
  intro E p l e R s m args below meth c mc ms Q F H locs hG cells slots ls hH hS h1 h2 hl
  exact lv_iconst F.1 F.2.1 hd rfl (k E p l e R s m args below meth c mc ms Q F H locs hG cells slots ls hH hS h1 h2 hl)
theorem z_bi {v : Int} (hd : decode Y.2.1 pc = .ok (.bipush v, 2)) (hv : (Int8.ofInt v).toInt32 = Int32.ofInt v) (k : xZ G d bc bs Y (pc + 2) L (vI v :: S) n σ K) : xZ G d bc bs Y pc L (S) n σ K := by
  intro E p l e R s m args below meth c mc ms Q F H locs hG cells slots ls hH hS h1 h2 hl
  exact lv_bipush F.1 F.2.1 hd hv (k E p l e R s m args below meth c mc ms Q F H locs hG cells slots ls hH hS h1 h2 hl)
theorem z_iln {j : Fin 4} {i : Nat} {x : Int} (hd : decode Y.2.1 pc = .ok (.iload_n j, 1)) (hi : (j : Nat) = i) (hL : L[i]? = some (vI x)) (k : xZ G d bc bs Y (pc + 1) L (vI x :: S) n σ K) : xZ G d bc bs Y pc L (S) n σ K := by
  intro E p l e R s m args below meth c mc ms Q F H locs hG cells slots ls hH hS h1 h2 hl
  exact lv_iload_n F.1 F.2.1 hd hi (xl_get hl hL (fun h => nomatch h)) (k E p l e R s m args below meth c mc ms Q F H locs hG cells slots ls hH hS h1 h2 hl)
theorem z_il {i : Nat} {x : Int} (hd : decode Y.2.1 pc = .ok (.iload i, 2)) (hL : L[i]? = some (vI x)) (k : xZ G d bc bs Y (pc + 2) L (vI x :: S) n σ K) : xZ G d bc bs Y pc L (S) n σ K := by
  intro E p l e R s m args below meth c mc ms Q F H locs hG cells slots ls hH hS h1 h2 hl
  exact lv_iload F.1 F.2.1 hd (xl_get hl hL (fun h => nomatch h)) (k E p l e R s m args below meth c mc ms Q F H locs hG cells slots ls hH hS h1 h2 hl)
theorem z_ll {i : Nat} {x : Int} (hd : decode Y.2.1 pc = .ok (.lload i, 2)) (hL : L[i]? = some (vL x)) (k : xZ G d bc bs Y (pc + 2) L (vL x :: S) n σ K) : xZ G d bc bs Y pc L (S) n σ K := by
  intro E p l e R s m args below meth c mc ms Q F H locs hG cells slots ls hH hS h1 h2 hl
  exact lv_lload F.1 F.2.1 hd (xl_get hl hL (fun h => nomatch h)) (k E p l e R s m args below meth c mc ms Q F H locs hG cells slots ls hH hS h1 h2 hl)
theorem z_aln {j : Fin 4} {i : Nat} {x : Int} (hd : decode Y.2.1 pc = .ok (.aload_n j, 1)) (hi : (j : Nat) = i) (hL : L[i]? = some (vR x)) (hx0 : 0 ≤ x) (k : xZ G d bc bs Y (pc + 1) L (vR x :: S) n σ K) : xZ G d bc bs Y pc L (S) n σ K := by
  intro E p l e R s m args below meth c mc ms Q F H locs hG cells slots ls hH hS h1 h2 hl
  have hx : xr E (vR x) = .ref (E.1 + x.toNat) := by unfold xr vR; simp only []; rw [if_neg (by omega)]
  have hq := xl_get hl hL (fun h => nomatch h)
  rw [hx] at hq
  have k2 := k E p l e R s m args below meth c mc ms Q F H locs hG cells slots ls hH hS h1 h2 hl
  rw [List.map_cons, hx] at k2
  exact lv_aload_n F.1 F.2.1 hd hi hq k2
theorem z_al {i : Nat} {x : Int} (hd : decode Y.2.1 pc = .ok (.aload i, 2)) (hL : L[i]? = some (vR x)) (hx0 : 0 ≤ x) (k : xZ G d bc bs Y (pc + 2) L (vR x :: S) n σ K) : xZ G d bc bs Y pc L (S) n σ K := by
  intro E p l e R s m args below meth c mc ms Q F H locs hG cells slots ls hH hS h1 h2 hl
  have hx : xr E (vR x) = .ref (E.1 + x.toNat) := by unfold xr vR; simp only []; rw [if_neg (by omega)]
  have hq := xl_get hl hL (fun h => nomatch h)
  rw [hx] at hq
  have k2 := k E p l e R s m args below meth c mc ms Q F H locs hG cells slots ls hH hS h1 h2 hl
  rw [List.map_cons, hx] at k2
  exact lv_aload F.1 F.2.1 hd hq k2
theorem z_tln {j : Fin 4} {i : Nat} {x : Int} (hd : decode Y.2.1 pc = .ok (.aload_n j, 1)) (hi : (j : Nat) = i) (hL : L[i]? = some (vT x)) (k : xZ G d bc bs Y (pc + 1) L (vT x :: S) n σ K) : xZ G d bc bs Y pc L (S) n σ K := by
  intro E p l e R s m args below meth c mc ms Q F H locs hG cells slots ls hH hS h1 h2 hl
  exact lv_aload_n F.1 F.2.1 hd hi (xl_get hl hL (fun h => nomatch h)) (k E p l e R s m args below meth c mc ms Q F H locs hG cells slots ls hH hS h1 h2 hl)
theorem z_ist0 {i : Nat} {x : Int} {L' : List xV} (hd : decode Y.2.1 pc = .ok (.istore i, 2)) (hn : i < Y.2.2.1) (hp : ∀ u, L[i - 1]? = some u → 0 < i → u.1 ≠ 1) (hL : L.set i (vI x) = L') (k : xZ G d bc bs Y (pc + 2) L' S n σ K) : xZ G d bc bs Y pc L (vI x :: S) n σ K := by
  intro E p l e R s m args below meth c mc ms Q F H locs hG cells slots ls hH hS h1 h2 hl
  subst hL
  exact lv_istore F.1 F.2.1 hd hl hn rfl fun ls' hl' => k E p l e R s m args below meth c mc ms Q F H locs hG cells slots ls' hH hS h1 h2 (lv_has_mono hl' (xl_set1 hp))
theorem z_lst0 {i : Nat} {x : Int} {L' : List xV} (hd : decode Y.2.1 pc = .ok (.lstore i, 2)) (hn : i + 1 < Y.2.2.1) (hp : ∀ u, L[i - 1]? = some u → 0 < i → u.1 ≠ 1) (hL : (L.set i (vL x)).set (i + 1) vX = L') (k : xZ G d bc bs Y (pc + 2) L' S n σ K) : xZ G d bc bs Y pc L (vL x :: S) n σ K := by
  intro E p l e R s m args below meth c mc ms Q F H locs hG cells slots ls hH hS h1 h2 hl
  subst hL
  exact lv_lstore F.1 F.2.1 hd hl hn rfl fun ls' hl' => k E p l e R s m args below meth c mc ms Q F H locs hG cells slots ls' hH hS h1 h2 (lv_has_mono hl' (xl_set2 hp))
theorem z_ast0 {i : Nat} {x : Int} {L' : List xV} (hd : decode Y.2.1 pc = .ok (.astore i, 2)) (hx0 : 0 ≤ x) (hn : i < Y.2.2.1) (hp : ∀ u, L[i - 1]? = some u → 0 < i → u.1 ≠ 1) (hL : L.set i (vR x) = L') (k : xZ G d bc bs Y (pc + 2) L' S n σ K) : xZ G d bc bs Y pc L (vR x :: S) n σ K := by
  intro E p l e R s m args below meth c mc ms Q F H locs hG cells slots ls hH hS h1 h2 hl
  have hx : xr E (vR x) = .ref (E.1 + x.toNat) := by unfold xr vR; simp only []; rw [if_neg (by omega)]
  subst hL
  rw [List.map_cons, hx]
  exact lv_astore F.1 F.2.1 hd hl hn rfl fun ls' hl' => k E p l e R s m args below meth c mc ms Q F H locs hG cells slots ls' hH hS h1 h2 (lv_has_mono hl' (by rw [← hx]; exact xl_set1 hp))
theorem z_istn0 {j : Fin 4} {i : Nat} {x : Int} {L' : List xV} (hd : decode Y.2.1 pc = .ok (.istore_n j, 1)) (hi : (j : Nat) = i) (hn : i < Y.2.2.1) (hp : ∀ u, L[i - 1]? = some u → 0 < i → u.1 ≠ 1) (hL : L.set i (vI x) = L') (k : xZ G d bc bs Y (pc + 1) L' S n σ K) : xZ G d bc bs Y pc L (vI x :: S) n σ K := by
  intro E p l e R s m args below meth c mc ms Q F H locs hG cells slots ls hH hS h1 h2 hl
  subst hL
  exact lv_istore_n F.1 F.2.1 hd hi hl hn rfl fun ls' hl' => k E p l e R s m args below meth c mc ms Q F H locs hG cells slots ls' hH hS h1 h2 (lv_has_mono hl' (xl_set1 hp))
theorem z_inc0 {i : Nat} {x y : Int} {L' : List xV} (hd : decode Y.2.1 pc = .ok (.iinc i y, 3)) (hL0 : L[i]? = some (vI x)) (hn : i < Y.2.2.1) (hp : ∀ u, L[i - 1]? = some u → 0 < i → u.1 ≠ 1) (hL : L.set i (vI (x + y)) = L') (k : xZ G d bc bs Y (pc + 3) L' S n σ K) : xZ G d bc bs Y pc L S n σ K := by
  intro E p l e R s m args below meth c mc ms Q F H locs hG cells slots ls hH hS h1 h2 hl
  subst hL
  obtain ⟨kk, hk⟩ := List.getElem?_of_mem ((xl_mem (E := E) L 0 i _).mpr ⟨i, vI x, hL0, (fun h => nomatch h), by omega, rfl⟩)
  exact lv_iinc F.1 F.2.1 hd hl hk (v := Int32.ofInt (x + y)) (by rw [Int32.ofInt_add]; rfl) hn rfl fun ls' hl' => k E p l e R s m args below meth c mc ms Q F H locs hG cells slots ls' hH hS h1 h2 (lv_has_mono hl' (xl_set1 hp))
theorem z_ist_4 {x : Int} {a0 a1 a2 a3 a4 : xV} {t : List xV} (hd : decode Y.2.1 pc = .ok (.istore 4, 2)) (hn : 4 < Y.2.2.1) (hp : (a3.1 == 1) = false) (k : xZ G d bc bs Y (pc + 2) (a0 :: a1 :: a2 :: a3 :: vI x :: t) S n σ K) : xZ G d bc bs Y pc (a0 :: a1 :: a2 :: a3 :: a4 :: t) (vI x :: S) n σ K := z_ist0 (i := 4) hd hn (fun u hu _ => by simp at hu; subst hu; simpa using hp) rfl k
theorem z_ist_5 {x : Int} {a0 a1 a2 a3 a4 a5 : xV} {t : List xV} (hd : decode Y.2.1 pc = .ok (.istore 5, 2)) (hn : 5 < Y.2.2.1) (hp : (a4.1 == 1) = false) (k : xZ G d bc bs Y (pc + 2) (a0 :: a1 :: a2 :: a3 :: a4 :: vI x :: t) S n σ K) : xZ G d bc bs Y pc (a0 :: a1 :: a2 :: a3 :: a4 :: a5 :: t) (vI x :: S) n σ K := z_ist0 (i := 5) hd hn (fun u hu _ => by simp at hu; subst hu; simpa using hp) rfl k
theorem z_ist_6 {x : Int} {a0 a1 a2 a3 a4 a5 a6 : xV} {t : List xV} (hd : decode Y.2.1 pc = .ok (.istore 6, 2)) (hn : 6 < Y.2.2.1) (hp : (a5.1 == 1) = false) (k : xZ G d bc bs Y (pc + 2) (a0 :: a1 :: a2 :: a3 :: a4 :: a5 :: vI x :: t) S n σ K) : xZ G d bc bs Y pc (a0 :: a1 :: a2 :: a3 :: a4 :: a5 :: a6 :: t) (vI x :: S) n σ K := z_ist0 (i := 6) hd hn (fun u hu _ => by simp at hu; subst hu; simpa using hp) rfl k
theorem z_ast_4 {x : Int} {a0 a1 a2 a3 a4 : xV} {t : List xV} (hd : decode Y.2.1 pc = .ok (.astore 4, 2)) (hx0 : 0 ≤ x) (hn : 4 < Y.2.2.1) (hp : (a3.1 == 1) = false) (k : xZ G d bc bs Y (pc + 2) (a0 :: a1 :: a2 :: a3 :: vR x :: t) S n σ K) : xZ G d bc bs Y pc (a0 :: a1 :: a2 :: a3 :: a4 :: t) (vR x :: S) n σ K := z_ast0 (i := 4) hd hx0 hn (fun u hu _ => by simp at hu; subst hu; simpa using hp) rfl k
theorem z_lst_6 {x : Int} {a0 a1 a2 a3 a4 a5 a6 b : xV} {t : List xV} (hd : decode Y.2.1 pc = .ok (.lstore 6, 2)) (hn : 6 + 1 < Y.2.2.1) (hp : (a5.1 == 1) = false) (k : xZ G d bc bs Y (pc + 2) (a0 :: a1 :: a2 :: a3 :: a4 :: a5 :: vL x :: vX :: t) S n σ K) : xZ G d bc bs Y pc (a0 :: a1 :: a2 :: a3 :: a4 :: a5 :: a6 :: b :: t) (vL x :: S) n σ K := z_lst0 (i := 6) hd hn (fun u hu _ => by simp at hu; subst hu; simpa using hp) rfl k
theorem z_inc_4 {x y : Int} {a0 a1 a2 a3 : xV} {t : List xV} (hd : decode Y.2.1 pc = .ok (.iinc 4 y, 3)) (hn : 4 < Y.2.2.1) (hp : (a3.1 == 1) = false) (k : xZ G d bc bs Y (pc + 3) (a0 :: a1 :: a2 :: a3 :: vI (x + y) :: t) S n σ K) : xZ G d bc bs Y pc (a0 :: a1 :: a2 :: a3 :: vI x :: t) S n σ K := z_inc0 (i := 4) hd rfl hn (fun u hu _ => by simp at hu; subst hu; simpa using hp) rfl k
theorem z_isub {a b : Int} (hd : decode Y.2.1 pc = .ok (.isub, 1))  (k : xZ G d bc bs Y (pc + 1) L (vI (a - b) :: S) n σ K) : xZ G d bc bs Y pc L (vI b :: vI a :: S) n σ K := by
  intro E p l e R s m args below meth c mc ms Q F H locs hG cells slots ls hH hS h1 h2 hl
  have k2 := k E p l e R s m args below meth c mc ms Q F H locs hG cells slots ls hH hS h1 h2 hl
  rw [List.map_cons, show xr E (vI (a - b)) = .int (Int32.ofInt a - Int32.ofInt b) from congrArg _ (Int32.ofInt_sub ..)] at k2
  exact lv_isub F.1 F.2.1 hd k2
theorem z_iand {a b : Int} (hd : decode Y.2.1 pc = .ok (.iand, 1))  (k : xZ G d bc bs Y (pc + 1) L (vI (xand a b) :: S) n σ K) : xZ G d bc bs Y pc L (vI b :: vI a :: S) n σ K := by
  intro E p l e R s m args below meth c mc ms Q F H locs hG cells slots ls hH hS h1 h2 hl
  have k2 := k E p l e R s m args below meth c mc ms Q F H locs hG cells slots ls hH hS h1 h2 hl
  rw [List.map_cons, show xr E (vI (xand a b)) = .int (Int32.ofInt a &&& Int32.ofInt b) from congrArg _ (w32_toInt _)] at k2
  exact lv_iand F.1 F.2.1 hd k2
theorem z_iadd {a b : Int} (hd : decode Y.2.1 pc = .ok (.iadd, 1))  (k : xZ G d bc bs Y (pc + 1) L (vI (a + b) :: S) n σ K) : xZ G d bc bs Y pc L (vI b :: vI a :: S) n σ K := by
  intro E p l e R s m args below meth c mc ms Q F H locs hG cells slots ls hH hS h1 h2 hl
  have k2 := k E p l e R s m args below meth c mc ms Q F H locs hG cells slots ls hH hS h1 h2 hl
  rw [List.map_cons, show xr E (vI (a + b)) = .int (Int32.ofInt a + Int32.ofInt b) from congrArg _ (Int32.ofInt_add ..)] at k2
  exact lv_iadd F.1 F.2.1 hd k2
theorem z_cgt {a b : Int} {off : Int} {tgt : Nat} (hd : decode Y.2.1 pc = .ok (.if_icmp .gt off, 3)) (ht : (pc : Int) + off = (tgt : Int)) (ha : I32 a) (hb : I32 b) (kt : b < a → xZ G d bc bs Y tgt L S n σ K) (kf : a ≤ b → xZ G d bc bs Y (pc + 3) L S n σ K) : xZ G d bc bs Y pc L (vI b :: vI a :: S) n σ K := by
  intro E p l e R s m args below meth c mc ms Q F H locs hG cells slots ls hH hS h1 h2 hl
  exact lv_icmp_gt F.1 F.2.1 hd ht (fun h => kt ((w32_lt hb ha).mp h) E p l e R s m args below meth c mc ms Q F H locs hG cells slots ls hH hS h1 h2 hl) (fun h => kf (by have h' := mt (w32_lt hb ha).mpr h; omega) E p l e R s m args below meth c mc ms Q F H locs hG cells slots ls hH hS h1 h2 hl)
theorem z_ceq {a b : Int} {off : Int} {tgt : Nat} (hd : decode Y.2.1 pc = .ok (.if_icmp .eq off, 3)) (ht : (pc : Int) + off = (tgt : Int)) (ha : I32 a) (hb : I32 b) (kt : a = b → xZ G d bc bs Y tgt L S n σ K) (kf : a ≠ b → xZ G d bc bs Y (pc + 3) L S n σ K) : xZ G d bc bs Y pc L (vI b :: vI a :: S) n σ K := by
  intro E p l e R s m args below meth c mc ms Q F H locs hG cells slots ls hH hS h1 h2 hl
  exact lv_icmp_eq F.1 F.2.1 hd ht (fun h => kt ((w32_eq ha hb).mp h) E p l e R s m args below meth c mc ms Q F H locs hG cells slots ls hH hS h1 h2 hl) (fun h => kf (by have h' := mt (w32_eq ha hb).mpr h; omega) E p l e R s m args below meth c mc ms Q F H locs hG cells slots ls hH hS h1 h2 hl)
theorem z_cle {a b : Int} {off : Int} {tgt : Nat} (hd : decode Y.2.1 pc = .ok (.if_icmp .le off, 3)) (ht : (pc : Int) + off = (tgt : Int)) (ha : I32 a) (hb : I32 b) (kt : a ≤ b → xZ G d bc bs Y tgt L S n σ K) (kf : b < a → xZ G d bc bs Y (pc + 3) L S n σ K) : xZ G d bc bs Y pc L (vI b :: vI a :: S) n σ K := by
  intro E p l e R s m args below meth c mc ms Q F H locs hG cells slots ls hH hS h1 h2 hl
  exact lv_icmp_le F.1 F.2.1 hd ht (fun h => kt ((w32_le ha hb).mp h) E p l e R s m args below meth c mc ms Q F H locs hG cells slots ls hH hS h1 h2 hl) (fun h => kf (by have h' := mt (w32_le ha hb).mpr h; omega) E p l e R s m args below meth c mc ms Q F H locs hG cells slots ls hH hS h1 h2 hl)
theorem z_clt {a b : Int} {off : Int} {tgt : Nat} (hd : decode Y.2.1 pc = .ok (.if_icmp .lt off, 3)) (ht : (pc : Int) + off = (tgt : Int)) (ha : I32 a) (hb : I32 b) (kt : a < b → xZ G d bc bs Y tgt L S n σ K) (kf : b ≤ a → xZ G d bc bs Y (pc + 3) L S n σ K) : xZ G d bc bs Y pc L (vI b :: vI a :: S) n σ K := by
  intro E p l e R s m args below meth c mc ms Q F H locs hG cells slots ls hH hS h1 h2 hl
  exact lv_icmp_lt F.1 F.2.1 hd ht (fun h => kt ((w32_lt ha hb).mp h) E p l e R s m args below meth c mc ms Q F H locs hG cells slots ls hH hS h1 h2 hl) (fun h => kf (by have h' := mt (w32_lt ha hb).mpr h; omega) E p l e R s m args below meth c mc ms Q F H locs hG cells slots ls hH hS h1 h2 hl)
theorem z_cge {a b : Int} {off : Int} {tgt : Nat} (hd : decode Y.2.1 pc = .ok (.if_icmp .ge off, 3)) (ht : (pc : Int) + off = (tgt : Int)) (ha : I32 a) (hb : I32 b) (kt : b ≤ a → xZ G d bc bs Y tgt L S n σ K) (kf : a < b → xZ G d bc bs Y (pc + 3) L S n σ K) : xZ G d bc bs Y pc L (vI b :: vI a :: S) n σ K := by
  intro E p l e R s m args below meth c mc ms Q F H locs hG cells slots ls hH hS h1 h2 hl
  exact lv_icmp_ge F.1 F.2.1 hd ht (fun h => kt ((w32_le hb ha).mp h) E p l e R s m args below meth c mc ms Q F H locs hG cells slots ls hH hS h1 h2 hl) (fun h => kf (by have h' := mt (w32_le hb ha).mpr h; omega) E p l e R s m args below meth c mc ms Q F H locs hG cells slots ls hH hS h1 h2 hl)
theorem z_zeq {a : Int} {off : Int} {tgt : Nat} (hd : decode Y.2.1 pc = .ok (.ifCond .eq off, 3)) (ht : (pc : Int) + off = (tgt : Int)) (ha : I32 a) (kt : a = 0 → xZ G d bc bs Y tgt L S n σ K) (kf : a ≠ 0 → xZ G d bc bs Y (pc + 3) L S n σ K) : xZ G d bc bs Y pc L (vI a :: S) n σ K := by
  intro E p l e R s m args below meth c mc ms Q F H locs hG cells slots ls hH hS h1 h2 hl
  exact lv_if_eq F.1 F.2.1 hd ht (fun h => kt ((w32_eq ha (show I32 0 by decide)).mp h) E p l e R s m args below meth c mc ms Q F H locs hG cells slots ls hH hS h1 h2 hl) (fun h => kf (by have h' := mt (w32_eq ha (show I32 0 by decide)).mpr h; omega) E p l e R s m args below meth c mc ms Q F H locs hG cells slots ls hH hS h1 h2 hl)
theorem z_zne {a : Int} {off : Int} {tgt : Nat} (hd : decode Y.2.1 pc = .ok (.ifCond .ne off, 3)) (ht : (pc : Int) + off = (tgt : Int)) (ha : I32 a) (kt : a ≠ 0 → xZ G d bc bs Y tgt L S n σ K) (kf : a = 0 → xZ G d bc bs Y (pc + 3) L S n σ K) : xZ G d bc bs Y pc L (vI a :: S) n σ K := by
  intro E p l e R s m args below meth c mc ms Q F H locs hG cells slots ls hH hS h1 h2 hl
  exact lv_if_ne F.1 F.2.1 hd ht (fun h => kt ((not_congr (w32_eq ha (show I32 0 by decide))).mp h) E p l e R s m args below meth c mc ms Q F H locs hG cells slots ls hH hS h1 h2 hl) (fun h => kf ((w32_eq ha (show I32 0 by decide)).mp h) E p l e R s m args below meth c mc ms Q F H locs hG cells slots ls hH hS h1 h2 hl)
theorem z_zlt {a : Int} {off : Int} {tgt : Nat} (hd : decode Y.2.1 pc = .ok (.ifCond .lt off, 3)) (ht : (pc : Int) + off = (tgt : Int)) (ha : I32 a) (kt : a < 0 → xZ G d bc bs Y tgt L S n σ K) (kf : 0 ≤ a → xZ G d bc bs Y (pc + 3) L S n σ K) : xZ G d bc bs Y pc L (vI a :: S) n σ K := by
  intro E p l e R s m args below meth c mc ms Q F H locs hG cells slots ls hH hS h1 h2 hl
  exact lv_if_lt F.1 F.2.1 hd ht (fun h => kt ((w32_lt ha (show I32 0 by decide)).mp h) E p l e R s m args below meth c mc ms Q F H locs hG cells slots ls hH hS h1 h2 hl) (fun h => kf (by have h' := mt (w32_lt ha (show I32 0 by decide)).mpr h; omega) E p l e R s m args below meth c mc ms Q F H locs hG cells slots ls hH hS h1 h2 hl)
theorem z_zge {a : Int} {off : Int} {tgt : Nat} (hd : decode Y.2.1 pc = .ok (.ifCond .ge off, 3)) (ht : (pc : Int) + off = (tgt : Int)) (ha : I32 a) (kt : 0 ≤ a → xZ G d bc bs Y tgt L S n σ K) (kf : a < 0 → xZ G d bc bs Y (pc + 3) L S n σ K) : xZ G d bc bs Y pc L (vI a :: S) n σ K := by
  intro E p l e R s m args below meth c mc ms Q F H locs hG cells slots ls hH hS h1 h2 hl
  exact lv_if_ge F.1 F.2.1 hd ht (fun h => kt ((w32_le (show I32 0 by decide) ha).mp h) E p l e R s m args below meth c mc ms Q F H locs hG cells slots ls hH hS h1 h2 hl) (fun h => kf (by have h' := mt (w32_le (show I32 0 by decide) ha).mpr h; omega) E p l e R s m args below meth c mc ms Q F H locs hG cells slots ls hH hS h1 h2 hl)
theorem z_goto {off : Int} {tgt : Nat} (hd : decode Y.2.1 pc = .ok (.goto off, 3)) (ht : (pc : Int) + off = (tgt : Int)) (k : xZ G d bc bs Y (tgt) L (S) n σ K) : xZ G d bc bs Y pc L (S) n σ K := by
  intro E p l e R s m args below meth c mc ms Q F H locs hG cells slots ls hH hS h1 h2 hl
  exact lv_goto F.1 F.2.1 hd ht (k E p l e R s m args below meth c mc ms Q F H locs hG cells slots ls hH hS h1 h2 hl)
theorem z_tsO {dflt lo hi : Int} {offs : Array Int} {len : Nat} {a : Int} {tgt : Nat} (hd : decode Y.2.1 pc = .ok (.tableswitch dflt lo hi offs, len)) (ha : I32 a) (h : a < lo ∨ hi < a) (ht : (pc : Int) + dflt = (tgt : Int)) (k : xZ G d bc bs Y tgt L S n σ K) : xZ G d bc bs Y pc L (vI a :: S) n σ K := by
  intro E p l e R s m args below meth c mc ms Q F H locs hG cells slots ls hH hS h1 h2 hl
  exact lv_tableOut F.1 F.2.1 hd (by rw [show (Int32.ofInt (vI a).2).toInt = a from w32 ha]; exact h) ht (k E p l e R s m args below meth c mc ms Q F H locs hG cells slots ls hH hS h1 h2 hl)
theorem z_tsI {dflt lo hi : Int} {offs : Array Int} {len : Nat} {a off : Int} {tgt : Nat} (hd : decode Y.2.1 pc = .ok (.tableswitch dflt lo hi offs, len)) (ha : I32 a) (h1' : lo ≤ a) (h2' : a ≤ hi) (ho : offs[(a - lo).toNat]? = some off) (ht : (pc : Int) + off = (tgt : Int)) (k : xZ G d bc bs Y tgt L S n σ K) : xZ G d bc bs Y pc L (vI a :: S) n σ K := by
  intro E p l e R s m args below meth c mc ms Q F H locs hG cells slots ls hH hS h1 h2 hl
  exact lv_tableIn F.1 F.2.1 hd (by rw [show (Int32.ofInt (vI a).2).toInt = a from w32 ha]; omega) (by rw [show (Int32.ofInt (vI a).2).toInt = a from w32 ha]; omega) (by rw [show (Int32.ofInt (vI a).2).toInt = a from w32 ha]; exact ho) ht (k E p l e R s m args below meth c mc ms Q F H locs hG cells slots ls hH hS h1 h2 hl)
theorem z_i2l {a : Int} (hd : decode Y.2.1 pc = .ok (.i2l, 1)) (ha : I32 a) (k : xZ G d bc bs Y (pc + 1) L (vL a :: S) n σ K) : xZ G d bc bs Y pc L (vI a :: S) n σ K := by
  intro E p l e R s m args below meth c mc ms Q F H locs hG cells slots ls hH hS h1 h2 hl
  exact lv_i2l F.1 F.2.1 hd (w32_i2l ha) (k E p l e R s m args below meth c mc ms Q F H locs hG cells slots ls hH hS h1 h2 hl)
theorem z_lcmp {a b : Int} (hd : decode Y.2.1 pc = .ok (.lcmp, 1)) (ha : I64 a) (hb : I64 b) (k : xZ G d bc bs Y (pc + 1) L (vI (xcmp a b) :: S) n σ K) : xZ G d bc bs Y pc L (vL b :: vL a :: S) n σ K := by
  intro E p l e R s m args below meth c mc ms Q F H locs hG cells slots ls hH hS h1 h2 hl
  have k2 := k E p l e R s m args below meth c mc ms Q F H locs hG cells slots ls hH hS h1 h2 hl
  rw [List.map_cons, show xr E (vI (xcmp a b)) = .int (lg_cmp (Int64.ofInt a) (Int64.ofInt b)) from congrArg _ (xcmp_lg ha hb)] at k2
  exact W.lcmp F.1 F.2.1 hd k2
theorem z_get0 {c : Int} {i ci k t : Nat} {fin : Bool} {ft : FieldType} {v : xV} (hd : decode Y.2.1 pc = .ok (.getfield i, 3)) (hf : xFL Y.1.cls i ci k fin ft) (hs : xis n c ci k t = true) (hv : xfv n t (σ c k) = v) (kk : xZ G d bc bs Y (pc + 3) L (v :: S) n σ K) : xZ G d bc bs Y pc L (vR c :: S) n σ K := by
  intro E p l e R s m args below meth c0 mc ms Q F H locs hG cells slots ls hH hS h1 h2 hl
  have k2 := kk E p l e R s m args below meth c0 mc ms Q F H locs hG cells slots ls hH hS h1 h2 hl
  obtain ⟨C, T, N, ty, f1, f2, f3, f4, f5, f6, f7, f8⟩ := hf
  obtain ⟨s0, s1, s2, s3, s4⟩ := xis_spec hs
  rw [List.map_cons, xr_R s0]
  have he := xp_get (E := E) (σ := σ) s0 s1
  rw [xe_obj s2, s3] at he
  have hfv : (xfs E n (σ c) 0 (xsh c).2.2)[k]? = some (xr E v) := by rw [xfs_get, s4]; simp [hv]
  rcases f8 with hq | ⟨host, hq⟩
  · exact va_get F.1 F.2.1 F.2.2.2.2.1 f3 F.2.2.2.1 F.2.2.2.2.2.1.1 hH.1 _ he f1 k f2 (F.2.2.2.2.1 _ hq) (fun _ h => h) hfv hd k2
  · exact va_getN F.1 F.2.1 F.2.2.2.2.1 f3 F.2.2.2.1 F.2.2.2.2.2.1.1 hH.1 _ he f1 k f2 ((F.2.2.2.2.2.1.2.1 _ hq).use rfl) (fun _ h => h) hfv hd k2
theorem z_getI {c : Int} {i ci k : Nat} (ki : Int) {fin : Bool} {ft : FieldType} (hd : decode Y.2.1 pc = .ok (.getfield i, 3)) (hf : xFL Y.1.cls i ci k fin ft) (hs : xis n c ci k 0 = true) (hk : (k : Int) = ki) (kk : xZ G d bc bs Y (pc + 3) L (vI (σ c ki) :: S) n σ K) : xZ G d bc bs Y pc L (vR c :: S) n σ K := by subst hk; exact z_get0 hd hf hs rfl kk
theorem z_getC {c : Int} {i ci k : Nat} (r : Int) {fin : Bool} {ft : FieldType} (hd : decode Y.2.1 pc = .ok (.getfield i, 3)) (hf : xFL Y.1.cls i ci k fin ft) (hs : xis 155 c ci k (r.toNat + 10) = true) (hr : 0 ≤ r) (kk : xZ G d bc bs Y (pc + 3) L (vR r :: S) 155 σ K) : xZ G d bc bs Y pc L (vR c :: S) 155 σ K :=
  z_get0 hd hf hs (by unfold xfv; rw [if_neg (by omega), if_neg (by omega), if_neg (by omega), if_neg (by omega), if_pos rfl]; congr 1; omega) kk
theorem z_lald {a j : Int} (len : Nat) (hd : decode Y.2.1 pc = .ok (.laload, 1)) (hs : xia n a 2 len = true) (hj : 0 ≤ j ∧ j < len) (hlen : len ≤ 2147483647) (kk : xZ G d bc bs Y (pc + 1) L (vL (σ a j) :: S) n σ K) : xZ G d bc bs Y pc L (vI j :: vR a :: S) n σ K := by
  intro E p l e R s m args below meth c0 mc ms Q F H locs hG cells slots ls hH hS h1 h2 hl
  have k2 := kk E p l e R s m args below meth c0 mc ms Q F H locs hG cells slots ls hH hS h1 h2 hl
  obtain ⟨s0, s1, s2, s3⟩ := xia_spec hs
  obtain ⟨c1, c2⟩ := xclamp hj.1 hj.2 hlen
  rw [List.map_cons, List.map_cons, xr_R s0]
  have he := xp_get (E := E) (σ := σ) s0 s1
  rw [xe_long s2, s3] at he
  refine va_lald F.1 F.2.1 F.2.2.2.2.2.1.1 hH.1 _ 1 he rfl c2 hd ?_
  have e1 : (Int32.ofInt (vI j).2).toNatClampNeg = j.toNat := c1
  rw [e1, show ((j.toNat : Nat) : Int) = j by omega]
  exact k2
theorem z_same {S' : List xV} (he : ∀ E, S'.map (xr E) = S.map (xr E)) (k : xZ G d bc bs Y pc L S' n σ K) : xZ G d bc bs Y pc L S n σ K := by
  intro E p l e R s m args below meth c mc ms Q F H locs hG cells slots ls hH hS h1 h2 hl
  have k2 := k E p l e R s m args below meth c mc ms Q F H locs hG cells slots ls hH hS h1 h2 hl
  rw [he E] at k2
  exact k2
theorem z_budget {bc' bs' : Nat} (h1 : bc' ≤ bc) (h2 : bs' ≤ bs) (k : xZ G d bc' bs' Y pc L S n σ K) : xZ G d bc bs Y pc L S n σ K := by
  intro E p l e R s m args below meth c mc ms Q F H locs hG cells slots ls hH hS q1 q2 hl
  exact k E p l e R s m args below meth c mc ms Q F H locs hG cells slots ls hH hS (by omega) (by omega) hl
theorem z_loc {L' : List xV} (h : ∀ (i : Nat) (v : xV), L'[i]? = some v → v.1 ≠ 9 → L[i]? = some v) (k : xZ G d bc bs Y pc L' S n σ K) : xZ G d bc bs Y pc L S n σ K := by
  intro E p l e R s m args below meth c mc ms Q F H locs hG cells slots ls hH hS h1 h2 hl
  refine k E p l e R s m args below meth c mc ms Q F H locs hG cells slots ls hH hS h1 h2 (lv_has_mono hl ?_)
  rintro ⟨j, w⟩ hq
  obtain ⟨i, v, q1, q2, q3, q4⟩ := (xl_mem _ _ _ _).mp hq
  exact (xl_mem _ _ _ _).mpr ⟨i, v, h i v q1 q2, q2, q3, q4⟩
theorem z_ldcS {k : Nat} (i : Nat) {q : String × Nat × String × List Int} (hd : decode Y.2.1 pc = .ok (.ldc k, 2)) (hq : xLits[i]? = some q) (h1 : q.1 = Y.1.cls) (h2 : q.2.1 = k) (kk : xZ G d bc bs Y (pc + 2) L (vT i :: S) n σ K) : xZ G d bc bs Y pc L S n σ K := by
  intro E p l e R s m args below meth c mc ms Q F H locs hG cells slots ls hH hS h3 h4 hl
  have k2 := kk E p l e R s m args below meth c mc ms Q F H locs hG cells slots ls hH hS h3 h4 hl
  obtain ⟨Fx, Fb, Fml, Fo, Ft, FK, -⟩ := id F
  have hR := (FK.2.2.1 i q hq).1
  rw [h1, h2] at hR
  exact va_ldcS Fx Fb Fo hR hd k2
theorem z_ldcwS {k : Nat} (i : Nat) {q : String × Nat × String × List Int} (hd : decode Y.2.1 pc = .ok (.ldc_w k, 3)) (hq : xLits[i]? = some q) (h1 : q.1 = Y.1.cls) (h2 : q.2.1 = k) (kk : xZ G d bc bs Y (pc + 3) L (vT i :: S) n σ K) : xZ G d bc bs Y pc L S n σ K := by
  intro E p l e R s m args below meth c mc ms Q F H locs hG cells slots ls hH hS h3 h4 hl
  have k2 := kk E p l e R s m args below meth c mc ms Q F H locs hG cells slots ls hH hS h3 h4 hl
  obtain ⟨Fx, Fb, Fml, Fo, Ft, FK, -⟩ := id F
  have hR := (FK.2.2.1 i q hq).1
  rw [h1, h2] at hR
  intro T hT X
  obtain ⟨t, a1, b1⟩ := k2 T hT X
  exact ⟨t, x_ldcw X Fx Fo hR.1 hR.2 (g := F0 m pc ls (S.map (xr E))) rfl (by rw [Fb]; exact hd) t a1, b1⟩
theorem z_wr1 {a a' : Int} (ha : xw a = a') (k : xZ G d bc bs Y pc L (vI a' :: S) n σ K) : xZ G d bc bs Y pc L (vI a :: S) n σ K := by
  subst ha
  exact z_same (fun E => by rw [List.map_cons, List.map_cons, xr_xw]) k
theorem z_wr2 {a b a' b' : Int} (ha : xw a = a') (hb : xw b = b') (k : xZ G d bc bs Y pc L (vI b' :: vI a' :: S) n σ K) : xZ G d bc bs Y pc L (vI b :: vI a :: S) n σ K := by
  subst ha hb
  exact z_same (fun E => by rw [List.map_cons, List.map_cons, List.map_cons, List.map_cons, xr_xw, xr_xw]) k
theorem z_wl2 {a b a' b' : Int} (ha : xwl a = a') (hb : xwl b = b') (k : xZ G d bc bs Y pc L (vL b' :: vL a' :: S) n σ K) : xZ G d bc bs Y pc L (vL b :: vL a :: S) n σ K := by
  subst ha hb
  exact z_same (fun E => by rw [List.map_cons, List.map_cons, List.map_cons, List.map_cons, xr_xwl, xr_xwl]) k
theorem z_dropL (A : List xV) {a : xV} {t : List xV} (k : xZ G d bc bs Y pc (A ++ vX :: t) S n σ K) : xZ G d bc bs Y pc (A ++ a :: t) S n σ K := by
  refine z_loc (fun i v h1 h2 => ?_) k
  rcases Nat.lt_trichotomy i A.length with h | h | h
  · rw [List.getElem?_append_left h] at h1 ⊢
    exact h1
  · subst h
    simp at h1
    subst h1
    exact absurd rfl h2
  · rw [List.getElem?_append_right (by omega)] at h1 ⊢
    obtain ⟨j, hj⟩ : ∃ j, i - A.length = j + 1 := ⟨i - A.length - 1, by omega⟩
    rw [hj] at h1 ⊢
    exact h1
theorem z_drop_5 {a0 a1 a2 a3 a4 a5 : xV} {t : List xV} (k : xZ G d bc bs Y pc (a0 :: a1 :: a2 :: a3 :: a4 :: vX :: t) S n σ K) : xZ G d bc bs Y pc (a0 :: a1 :: a2 :: a3 :: a4 :: a5 :: t) S n σ K := z_dropL [a0, a1, a2, a3, a4] k
theorem z_drop_6 {a0 a1 a2 a3 a4 a5 a6 : xV} {t : List xV} (k : xZ G d bc bs Y pc (a0 :: a1 :: a2 :: a3 :: a4 :: a5 :: vX :: t) S n σ K) : xZ G d bc bs Y pc (a0 :: a1 :: a2 :: a3 :: a4 :: a5 :: a6 :: t) S n σ K := z_dropL [a0, a1, a2, a3, a4, a5] k
theorem z_wi2l {a a' : Int} (hd : decode Y.2.1 pc = .ok (.i2l, 1)) (ha : xw a = a') (k : xZ G d bc bs Y (pc + 1) L (vL a' :: S) n σ K) : xZ G d bc bs Y pc L (vI a :: S) n σ K :=
  z_wr1 ha (z_i2l hd (by rw [← ha]; exact I32_xw a) k)
theorem z_lln {j : Fin 4} {i : Nat} {x : Int} (hd : decode Y.2.1 pc = .ok (.lload_n j, 1)) (hi : (j : Nat) = i) (hL : L[i]? = some (vL x)) (k : xZ G d bc bs Y (pc + 1) L (vL x :: S) n σ K) : xZ G d bc bs Y pc L (S) n σ K := by
  intro E p l e R s m args below meth c mc ms Q F H locs hG cells slots ls hH hS h1 h2 hl
  exact lv_lload_n F.1 F.2.1 hd hi (xl_get hl hL (fun h => nomatch h)) (k E p l e R s m args below meth c mc ms Q F H locs hG cells slots ls hH hS h1 h2 hl)
theorem z_astn0 {j : Fin 4} {i : Nat} {x : Int} {L' : List xV} (hd : decode Y.2.1 pc = .ok (.astore_n j, 1)) (hi : (j : Nat) = i) (hx0 : 0 ≤ x) (hn : i < Y.2.2.1) (hp : ∀ u, L[i - 1]? = some u → 0 < i → u.1 ≠ 1) (hL : L.set i (vR x) = L') (k : xZ G d bc bs Y (pc + 1) L' S n σ K) : xZ G d bc bs Y pc L (vR x :: S) n σ K := by
  intro E p l e R s m args below meth c mc ms Q F H locs hG cells slots ls hH hS h1 h2 hl
  have hx : xr E (vR x) = .ref (E.1 + x.toNat) := by unfold xr vR; simp only []; rw [if_neg (by omega)]
  subst hL
  rw [List.map_cons, hx]
  exact lv_astore_n F.1 F.2.1 hd hi hl hn rfl fun ls' hl' => k E p l e R s m args below meth c mc ms Q F H locs hG cells slots ls' hH hS h1 h2 (lv_has_mono hl' (by rw [← hx]; exact xl_set1 hp))
theorem z_astn_3 {x : Int} {a0 a1 a2 a3 : xV} {t : List xV} (hd : decode Y.2.1 pc = .ok (.astore_n 3, 1)) (hx0 : 0 ≤ x) (hn : 3 < Y.2.2.1) (hp : (a2.1 == 1) = false) (k : xZ G d bc bs Y (pc + 1) (a0 :: a1 :: a2 :: vR x :: t) S n σ K) : xZ G d bc bs Y pc (a0 :: a1 :: a2 :: a3 :: t) (vR x :: S) n σ K := z_astn0 (i := 3) hd rfl hx0 hn (fun u hu _ => by simp at hu; subst hu; simpa using hp) rfl k
theorem z_last (hGs : xGs G) {a j x : Int} (len : Nat) (hd : decode Y.2.1 pc = .ok (.lastore, 1)) (hs : xia 155 a 2 len = true) (hj : 0 ≤ j ∧ j < len) (hlen : len ≤ 2147483647) (kk : xZ G d bc bs Y (pc + 1) L S 155 (xu σ a j x) K) : xZ G d bc bs Y pc L (vL x :: vI j :: vR a :: S) 155 σ K := by
  intro E p l e R s m args below meth c0 mc ms Q F H locs hG cells slots ls hH hS h1 h2 hl
  obtain ⟨s0, s1, s2, s3⟩ := xia_spec hs
  obtain ⟨c1, c2⟩ := xclamp hj.1 hj.2 hlen
  rw [List.map_cons, List.map_cons, List.map_cons, xr_R s0]
  have he := xp_get (E := E) (n := 155) (σ := σ) s0 s1
  rw [xe_long s2, s3] at he
  refine va_last F.1 F.2.1 F.2.2.2.2.2.1.1 hH.1 xp_D hS _ 1 he rfl c2 hd fun H1 locs1 hP1 hD1 hS1 => ?_
  have e1 : (Int32.ofInt (vI j).2).toNatClampNeg = j.toNat := c1
  rw [e1, show (Int64.ofInt (vL x).2) = Int64.ofInt x from rfl, xu_arrL hj.1, ← s3, ← xe_long (E := E) (n := 155) s2, xp_set (σ' := xu σ a j x) s0 s1 (fun c' h => xu_row σ _ _ h)] at hP1
  exact kk E p l e R s m args below meth c0 mc ms Q F H1 locs1 (hGs _ _ _ _ _ _ _ _ _ _ _ _ _ _ _ _ _ _ hG) cells slots ls (xH155 hP1) hS1 h1 h2 hl
theorem z_callV (hGs : xGs G) {c : Int} {as : List xV} {i ci na d' b1 b2 : Nat} {Y' : xMD} (hd : decode Y.2.1 pc = .ok (.invokevirtual i, 3)) (hm : xMV Y.1.cls i ci na Y') (hs : xob n c ci = true) (hC : xC d' b1 b2 Y' (vR c :: as) n σ K') (hna : as.length = na) (hdd : d' + 1 ≤ d) (hrest : (S.map (fun v => if v.1 = 1 then 2 else 1)).sum ≤ 8)
    (k : ∀ (r : List xV) (n' : Nat) (σ' : xW), r.length ≤ 1 → K' r n' σ' → xZ G d bc bs Y (pc + 3) L (r ++ S) n' σ' K) : xZ G d (bc + b1) (bs + b2) Y pc L (as.reverse ++ vR c :: S) n σ K := by
  intro E p l e R s m args below meth c0 mc ms Q F H locs hG cells slots ls hH hS h1 h2 hl
  obtain ⟨m1, ⟨m2, m3, m4, m4b⟩, m5, m6, m7⟩ := hm
  obtain ⟨s0, s1, s2, s3⟩ := xob_spec hs
  obtain ⟨Fx, Fb, Fml, Fo, Ft, FK, ⟨Fr1, Fr2, Fr3, Fr4⟩, -, -⟩ := id F
  have he := xp_get (E := E) (σ := σ) s0 s1
  rw [xe_obj s2, s3] at he
  obtain ⟨rr, q1, cell, q2, q3, q4, -⟩ := hH.1 _ _ he
  obtain ⟨-, hfc, -⟩ := FK.1.1 ci _ q1
  rw [q1] at m7
  have hrr : rr.1 = Y'.1.cls := Option.some.inj m7
  have hM := hC E l
  have hst : ((as.reverse ++ vR c :: S).map (xr E)) = (as.map (xr E)).reverse ++ .ref (E.1 + c.toNat) :: S.map (xr E) := by rw [List.map_append, List.map_reverse, List.map_cons, xr_R s0]
  have hp : PreV s H Y'.1.cls (E.1 + c.toNat) (xP E (vR c :: as) n σ) (as.map (xr E)) := ⟨xP_blind, ⟨cell, q2, by rw [q4]; rfl, by rw [← hrr, q3]; exact hfc⟩, fun U hU hW => ⟨by rw [List.map_cons, xr_R s0], by rw [hU]; exact hH, xK_warm hW hS hU FK⟩⟩
  have hroom : (xrm d' b1 b2).frames + 1 ≤ R.frames ∧ 8 + (Y'.2.2.1 + 11) + (xrm d' b1 b2).locals ≤ R.locals := ⟨Nat.le_trans hdd Fr1, by show 8 + (Y'.2.2.1 + 11) + 100 * d' ≤ R.locals; omega⟩
  have hRest : 2 * (F0 m pc ls ((as.reverse ++ vR c :: S).map (xr E))).monitorRoom + ((S.map (xr E)).map fun v => v.category).sum ≤ 8 := lv_room (by rw [xcat]; exact hrest)
  have hini := Ft _ m2
  have hcode := Ft _ m3
  refine x_after (rest := S.map (xr E)) (mc := b1) (ms := b2) (K' := K') (E := E) (a := (Value.ref (E.1 + c.toNat) :: as.map (xr E)).toArray) ?_ hS (fun r n' σ' H1 locs1 hl1 hk hH1 hS1 => ?_)
  · rcases m1 with hq | ⟨host, hq⟩
    · have hq1 := Ft _ hq
      exact va_runV (Ts := xTB) ⟨Fx, Fb, Fml, Fo, Ft⟩ hM ⟨callB_of (bytes := Y'.2.1) (maxL := Y'.2.2.1) (ret := Y'.2.2.2) na Ft (xTB_goodc m3) rfl rfl rfl hini hq1 m4 hroom, Ft _ m5, Ft _ m6⟩ hp rfl (by rw [List.length_map]; exact hna) hl.1 hst hRest hd ⟨by omega, by omega⟩
    · have hq1 := FK.2.1 _ hq
      exact va_runVN (Ts := xTB) ⟨Fx, Fb, Fml, Fo, Ft⟩ hM ⟨va_cnB (bytes := Y'.2.1) (maxL := Y'.2.2.1) (ret := Y'.2.2.2) na Ft (xTB_goodc m3) rfl rfl rfl hq1 hini m4 hroom, Ft _ m5, Ft _ m6⟩ hp rfl (by rw [List.length_map]; exact hna) hl.1 hst hRest hd ⟨by omega, by omega⟩
  · rw [← List.map_append]
    exact k r n' σ' hl1 hk E p l e R s m args below meth c0 mc ms Q F H1 locs1 (hGs _ _ _ _ _ _ _ _ _ _ _ _ _ _ _ _ _ _ hG) (cells + b1) (slots + b2) ls hH1 hS1 (by omega) (by omega) hl
/-- a row of xG whose end is never reached serves as it stands -/
theorem z_of (k : xG d bc bs Y pc L S n σ K) : xZ G d bc bs Y pc L S n σ K := fun E p l e R s m args below meth c mc ms Q F H locs _ cells slots ls hH hS h1 h2 hl => k E p l e R s m args below meth c mc ms Q F H locs cells slots ls hH hS h1 h2 hl
end ZJ
