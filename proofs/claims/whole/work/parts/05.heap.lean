/-! the world's list -/
def xu (σ : xW) (c k v : Int) : xW := fun c' k' => if c' = c ∧ k' = k then v else σ c' k'
theorem xu_same (σ : xW) (c k v : Int) : xu σ c k v c k = v := by simp [xu]
theorem xu_cell (σ : xW) {c c' : Int} (k k' v : Int) (h : c' ≠ c) : xu σ c k v c' k' = σ c' k' := by simp [xu, h]
theorem xu_slot (σ : xW) (c : Int) {k k' : Int} (v : Int) (h : k' ≠ k) : xu σ c k v c k' = σ c k' := by simp [xu, h]
theorem xu_row (σ : xW) {c c' : Int} (k v : Int) (h : c' ≠ c) : xu σ c k v c' = σ c' := by funext j; simp [xu, h]
theorem xp_get {E : xE} {n : Nat} {σ : xW} {c : Int} (h0 : 0 ≤ c) (h1 : c < n) : (xp E n σ)[c.toNat]? = some (E.1 + c.toNat, xe E n (xsh c) (σ c)) := by
  unfold xp
  rw [List.getElem?_map, List.getElem?_range (by omega)]
  simp only [Option.map_some]
  rw [show ((c.toNat : Nat) : Int) = c by omega]
theorem xp_set {E : xE} {n : Nat} {σ σ' : xW} {c : Int} (h0 : 0 ≤ c) (h1 : c < n) (hr : ∀ c', c' ≠ c → σ' c' = σ c') : (xp E n σ).set c.toNat (E.1 + c.toNat, xe E n (xsh c) (σ' c)) = xp E n σ' := by
  apply List.ext_getElem?
  intro i
  rw [List.getElem?_set]
  by_cases hi : c.toNat = i
  · subst hi
    rw [if_pos rfl, if_pos (by unfold xp; simp; omega), xp_get h0 h1]
  · rw [if_neg hi]
    unfold xp
    by_cases hn : i < n
    · rw [List.getElem?_map, List.getElem?_map, List.getElem?_range hn]
      simp only [Option.map_some]
      rw [hr i (by omega)]
    · rw [List.getElem?_eq_none (by simp; omega), List.getElem?_eq_none (by simp; omega)]
theorem xp_D {E : xE} {n : Nat} {σ : xW} : va_D (xA E) (xp E n σ) := by
  have key : ∀ (k : Nat) (q : Nat × va_E), (xp E n σ)[k]? = some q → q.1 = E.1 + k := by
    intro k q h
    unfold xp at h
    rw [List.getElem?_map] at h
    by_cases hk : k < n
    · rw [List.getElem?_range hk] at h
      cases h
      rfl
    · rw [List.getElem?_eq_none (by simp; omega)] at h
      cases h
  refine ⟨fun i j p q hp hq hpq => ?_, fun k q h => ?_⟩
  · rw [key i p hp, key j q hq] at hpq
    omega
  · rw [key k q h]
    exact Nat.le_add_right _ _
theorem xfs_get {E : xE} {n : Nat} {f : Int → Int} : ∀ (ts : List Nat) (i k : Nat), (xfs E n f i ts)[k]? = (ts[k]?).map fun t => xr E (xfv n t (f ((i + k : Nat) : Int)))
  | [], i, k => by simp [xfs]
  | t :: ts, i, k => by
    cases k with
    | zero => simp [xfs]
    | succ k => simp only [xfs, List.getElem?_cons_succ]; rw [xfs_get ts (i + 1) k, show i + 1 + k = i + (k + 1) by omega]
theorem xfs_len {E : xE} {n : Nat} {f : Int → Int} : ∀ (ts : List Nat) (i : Nat), (xfs E n f i ts).length = ts.length
  | [], i => rfl
  | t :: ts, i => by simp [xfs, xfs_len ts (i + 1)]
theorem xfs_set {E : xE} {n : Nat} {f f' : Int → Int} {ts : List Nat} {k t : Nat} (ht : ts[k]? = some t) (hr : ∀ j : Int, j ≠ k → f' j = f j) : (xfs E n f 0 ts).set k (xr E (xfv n t (f' k))) = xfs E n f' 0 ts := by
  apply List.ext_getElem?
  intro i
  have hk : k < ts.length := (List.getElem?_eq_some_iff.mp ht).1
  rw [List.getElem?_set]
  by_cases hi : k = i
  · subst hi
    rw [if_pos rfl, if_pos (by rw [xfs_len]; exact hk), xfs_get, ht]
    simp
  · rw [if_neg hi, xfs_get, xfs_get, Nat.zero_add, hr i (by omega)]
/-- the cell c is an object of the class ci with a field k of the kind t -/
def xis (n : Nat) (c : Int) (ci k t : Nat) : Bool := decide (0 ≤ c) && decide (c < n) && (xsh c).1 == 0 && (xsh c).2.1 == ci && (xsh c).2.2[k]? == some t
/-- the cell a is an array of the kind t, len long -/
def xia (n : Nat) (a : Int) (t len : Nat) : Bool := decide (0 ≤ a) && decide (a < n) && (xsh a).1 == t && (xsh a).2.1 == len
theorem xis_spec {n : Nat} {c : Int} {ci k t : Nat} (h : xis n c ci k t = true) : 0 ≤ c ∧ c < n ∧ (xsh c).1 = 0 ∧ (xsh c).2.1 = ci ∧ (xsh c).2.2[k]? = some t := by
  simpa [xis, and_assoc] using h
theorem xia_spec {n : Nat} {a : Int} {t len : Nat} (h : xia n a t len = true) : 0 ≤ a ∧ a < n ∧ (xsh a).1 = t ∧ (xsh a).2.1 = len := by
  simpa [xia, and_assoc] using h
theorem xr_R {E : xE} {x : Int} (h : 0 ≤ x) : xr E (vR x) = .ref (E.1 + x.toNat) := by unfold xr vR; simp only []; rw [if_neg (by omega)]
theorem xe_obj {E : xE} {n : Nat} {s : Nat × Nat × List Nat} {f : Int → Int} (h : s.1 = 0) : xe E n s f = .inr (s.2.1, xfs E n f 0 s.2.2) := by unfold xe; rw [if_pos h]
theorem xclamp {i : Int} {len : Nat} (h0 : 0 ≤ i) (h1 : i < len) (h2 : len ≤ 2147483647) : (Int32.ofInt i).toNatClampNeg = i.toNat ∧ vp_in (Int32.ofInt i) len := by
  have e : (Int32.ofInt i).toInt = i := w32 (by omega)
  have e1 : (Int32.ofInt i).toNatClampNeg = i.toNat := by rw [← Int32.toNat_toInt, e]
  refine ⟨e1, fun h => ?_⟩
  rcases h with h | h
  · rw [Int32.lt_iff_toInt_lt, e, Int32.toInt_zero] at h
    omega
  · rw [e1] at h
    omega
theorem xH155 {E : xE} {σ : xW} {H : Heap} (h : va_P E.2.2.1 xcls (xp E 155 σ) H) : xH E 155 σ H := by
  refine ⟨h, Or.inl rfl, ?_⟩
  have h1 := (h _ _ (xp_get (E := E) (n := 155) (σ := σ) (c := 154) (by decide) (by decide))).lt
  have h2 : E.1 + (154 : Int).toNat < H.size := h1
  have h3 : (154 : Int).toNat = 154 := rfl
  omega
section XH
variable {d bc bs : Nat} {Y : xMD} {pc : Nat} {L S : List xV} {n : Nat} {σ : xW} {K : List xV → Nat → xW → Prop}
theorem g_get0 {c : Int} {i ci k t : Nat} {fin : Bool} {ft : FieldType} {v : xV} (hd : decode Y.2.1 pc = .ok (.getfield i, 3)) (hf : xFL Y.1.cls i ci k fin ft) (hs : xis n c ci k t = true) (hv : xfv n t (σ c k) = v) (kk : xG d bc bs Y (pc + 3) L (v :: S) n σ K) : xG d bc bs Y pc L (vR c :: S) n σ K := by
  intro E p l e R s m args below meth c0 mc ms Q F H locs cells slots ls hH hS h1 h2 hl
  have k2 := kk E p l e R s m args below meth c0 mc ms Q F H locs cells slots ls hH hS h1 h2 hl
  obtain ⟨C, T, N, ty, f1, f2, f3, f4, f5, f6, f7, f8⟩ := hf
  obtain ⟨s0, s1, s2, s3, s4⟩ := xis_spec hs
  rw [List.map_cons, xr_R s0]
  have he := xp_get (E := E) (σ := σ) s0 s1
  rw [xe_obj s2, s3] at he
  have hfv : (xfs E n (σ c) 0 (xsh c).2.2)[k]? = some (xr E v) := by rw [xfs_get, s4]; simp [hv]
  rcases f8 with hq | ⟨host, hq⟩
  · exact va_get F.1 F.2.1 F.2.2.2.2.1 f3 F.2.2.2.1 F.2.2.2.2.2.1.1 hH.1 _ he f1 k f2 (F.2.2.2.2.1 _ hq) (fun _ h => h) hfv hd k2
  · exact va_getN F.1 F.2.1 F.2.2.2.2.1 f3 F.2.2.2.1 F.2.2.2.2.2.1.1 hH.1 _ he f1 k f2 ((F.2.2.2.2.2.1.2.1 _ hq).use rfl) (fun _ h => h) hfv hd k2
theorem g_getI {c : Int} {i ci k : Nat} (ki : Int) {fin : Bool} {ft : FieldType} (hd : decode Y.2.1 pc = .ok (.getfield i, 3)) (hf : xFL Y.1.cls i ci k fin ft) (hs : xis n c ci k 0 = true) (hk : (k : Int) = ki) (kk : xG d bc bs Y (pc + 3) L (vI (σ c ki) :: S) n σ K) : xG d bc bs Y pc L (vR c :: S) n σ K := by subst hk; exact g_get0 hd hf hs rfl kk
theorem g_getZ {c : Int} {i ci k : Nat} (ki : Int) {fin : Bool} {ft : FieldType} (hd : decode Y.2.1 pc = .ok (.getfield i, 3)) (hf : xFL Y.1.cls i ci k fin ft) (hs : xis n c ci k 3 = true) (hk : (k : Int) = ki) (kk : xG d bc bs Y (pc + 3) L (vI (σ c ki) :: S) n σ K) : xG d bc bs Y pc L (vR c :: S) n σ K := by subst hk; exact g_get0 hd hf hs rfl kk
theorem g_getR {c : Int} {i ci k : Nat} (ki : Int) {fin : Bool} {ft : FieldType} (hd : decode Y.2.1 pc = .ok (.getfield i, 3)) (hf : xFL Y.1.cls i ci k fin ft) (hs : xis n c ci k 2 = true) (hk : (k : Int) = ki) (kk : xG d bc bs Y (pc + 3) L (vR (σ c ki) :: S) n σ K) : xG d bc bs Y pc L (vR c :: S) n σ K := by subst hk; exact g_get0 hd hf hs rfl kk
theorem g_getC {c : Int} {i ci k : Nat} (r : Int) {fin : Bool} {ft : FieldType} (hd : decode Y.2.1 pc = .ok (.getfield i, 3)) (hf : xFL Y.1.cls i ci k fin ft) (hs : xis 155 c ci k (r.toNat + 10) = true) (hr : 0 ≤ r) (kk : xG d bc bs Y (pc + 3) L (vR r :: S) 155 σ K) : xG d bc bs Y pc L (vR c :: S) 155 σ K :=
  g_get0 hd hf hs (by unfold xfv; rw [if_neg (by omega), if_neg (by omega), if_neg (by omega), if_neg (by omega), if_pos rfl]; congr 1; omega) kk
theorem g_put0 {c x : Int} {i ci k t : Nat} {ft : FieldType} {v : xV} (hd : decode Y.2.1 pc = .ok (.putfield i, 3)) (hf : xFL Y.1.cls i ci k false ft) (hs : xis 155 c ci k t = true) (hv : xfv 155 t x = v) (hn : ∀ E, narrow ft (xr E v) = xr E v ∧ fits ft (xr E v) = true) (kk : xG d bc bs Y (pc + 3) L S 155 (xu σ c k x) K) : xG d bc bs Y pc L (v :: vR c :: S) 155 σ K := by
  intro E p l e R s m args below meth c0 mc ms Q F H locs cells slots ls hH hS h1 h2 hl
  obtain ⟨C, T, N, ty, f1, f2, f3, f4, f5, f6, f7, f8⟩ := hf
  obtain ⟨s0, s1, s2, s3, s4⟩ := xis_spec hs
  rw [List.map_cons, List.map_cons, xr_R s0]
  have he := xp_get (E := E) (σ := σ) s0 s1
  rw [xe_obj s2, s3] at he
  have hlen : k < (xfs E 155 (σ c) 0 (xsh c).2.2).length := by rw [xfs_len]; exact (List.getElem?_eq_some_iff.mp s4).1
  have hset : (xp E 155 σ).set c.toNat (E.1 + c.toNat, .inr (ci, (xfs E 155 (σ c) 0 (xsh c).2.2).set k (xr E v))) = xp E 155 (xu σ c k x) := by
    rw [← xp_set (σ := σ) (σ' := xu σ c k x) s0 s1 (fun c' h => xu_row σ _ _ h), xe_obj s2, s3, ← xfs_set (f := σ c) (f' := xu σ c k x c) s4 (fun j h => xu_slot σ c x h), xu_same, hv]
  have fin : ∀ (H1 : Heap) (locs1 : List Loc), va_P E.2.2.1 xcls ((xp E 155 σ).set c.toNat (E.1 + c.toNat, .inr (ci, (xfs E 155 (σ c) 0 (xsh c).2.2).set k (xr E v)))) H1 → va_D (xA E) ((xp E 155 σ).set c.toNat (E.1 + c.toNat, .inr (ci, (xfs E 155 (σ c) 0 (xsh c).2.2).set k (xr E v)))) → va_S (xA E) s.heap H1 locs1 → W p l e R s m args below meth c0 H1 locs1 cells slots Q (F0 m (pc + 3) ls (S.map (xr E))) := by
    intro H1 locs1 hP1 hD1 hS1
    rw [hset] at hP1
    exact kk E p l e R s m args below meth c0 mc ms Q F H1 locs1 cells slots ls (xH155 hP1) hS1 h1 h2 hl
  rcases f8 with hq | ⟨host, hq⟩
  · exact va_put F.1 F.2.1 F.2.2.2.2.1 f3 ty f4 f5 F.2.2.2.1 F.2.2.2.2.2.1.1 hH.1 xp_D hS _ he f1 k f2 (F.2.2.2.2.1 _ hq) (fun _ h => h) f6 ((f4 k f2).trans (congrArg some f7)) (hn E).1 (hn E).2 hlen hd fin
  · exact va_putN F.1 F.2.1 F.2.2.2.2.1 f3 ty f4 f5 F.2.2.2.1 F.2.2.2.2.2.1.1 hH.1 xp_D hS _ he f1 k f2 ((F.2.2.2.2.2.1.2.1 _ hq).use rfl) (fun _ h => h) f6 ((f4 k f2).trans (congrArg some f7)) (hn E).1 (hn E).2 hlen hd fin
theorem g_putI {c x : Int} {i ci k : Nat} (ki : Int) (hd : decode Y.2.1 pc = .ok (.putfield i, 3)) (hf : xFL Y.1.cls i ci k false .int) (hs : xis 155 c ci k 0 = true) (hk : (k : Int) = ki) (kk : xG d bc bs Y (pc + 3) L S 155 (xu σ c ki x) K) : xG d bc bs Y pc L (vI x :: vR c :: S) 155 σ K := by
  subst hk; exact g_put0 hd hf hs rfl (fun _ => ⟨rfl, rfl⟩) kk
theorem g_putZ {c x : Int} {i ci k : Nat} (ki : Int) (hd : decode Y.2.1 pc = .ok (.putfield i, 3)) (hf : xFL Y.1.cls i ci k false .boolean) (hs : xis 155 c ci k 3 = true) (hx : x = 0 ∨ x = 1) (hk : (k : Int) = ki) (kk : xG d bc bs Y (pc + 3) L S 155 (xu σ c ki x) K) : xG d bc bs Y pc L (vI x :: vR c :: S) 155 σ K := by
  subst hk; exact g_put0 hd hf hs rfl (fun _ => by rcases hx with rfl | rfl <;> exact ⟨rfl, rfl⟩) kk
theorem g_putR {c x : Int} {i ci k : Nat} (ki : Int) {C : String} (hd : decode Y.2.1 pc = .ok (.putfield i, 3)) (hf : xFL Y.1.cls i ci k false (.object C)) (hs : xis 155 c ci k 2 = true) (hx : 0 ≤ x) (hk : (k : Int) = ki) (kk : xG d bc bs Y (pc + 3) L S 155 (xu σ c ki x) K) : xG d bc bs Y pc L (vR x :: vR c :: S) 155 σ K := by
  subst hk; exact g_put0 hd hf hs rfl (fun E => by rw [xr_R hx]; exact ⟨rfl, rfl⟩) kk
theorem g_retI {x : Int} (hr : Y.2.2.2 = some .int) (hd : decode Y.2.1 pc = .ok (.ireturn, 1)) (k : K [vI x] n σ) : xG d bc bs Y pc L [vI x] n σ K := g_ret [vI x] hd (by rw [hr]; rfl) k
theorem g_retZ {x : Int} (hr : Y.2.2.2 = some .boolean) (hd : decode Y.2.1 pc = .ok (.ireturn, 1)) (hx : x = 0 ∨ x = 1) (k : K [vI x] n σ) : xG d bc bs Y pc L [vI x] n σ K := g_ret [vI x] hd (by rw [hr]; exact ⟨rfl, hx⟩) k
theorem g_retC {x : Int} (hr : Y.2.2.2 = some .char) (hd : decode Y.2.1 pc = .ok (.ireturn, 1)) (hx : 0 ≤ x ∧ x < 65536) (k : K [vI x] n σ) : xG d bc bs Y pc L [vI x] n σ K := g_ret [vI x] hd (by rw [hr]; exact ⟨rfl, hx⟩) k
theorem g_retL {x : Int} (hr : Y.2.2.2 = some .long) (hd : decode Y.2.1 pc = .ok (.lreturn, 1)) (k : K [vL x] n σ) : xG d bc bs Y pc L [vL x] n σ K := g_ret [vL x] hd (by rw [hr]; rfl) k
theorem g_retV (hr : Y.2.2.2 = none) (hd : decode Y.2.1 pc = .ok (.return_, 1)) (k : K [] n σ) : xG d bc bs Y pc L [] n σ K := g_ret [] hd (by rw [hr]; trivial) k
/-! arrays -/
theorem xe_int {E : xE} {n : Nat} {s : Nat × Nat × List Nat} {f : Int → Int} {t : Nat} (h : s.1 = t) (ht : t = 1 ∨ t = 3 ∨ t = 4) : xe E n s f = .inl (E.2.2.2 t, s.2.1, .inl fun j => Int32.ofInt (f j)) := by
  subst h
  unfold xe
  rw [if_neg (by omega), if_neg (by omega), if_neg (by omega)]
theorem xe_long {E : xE} {n : Nat} {s : Nat × Nat × List Nat} {f : Int → Int} (h : s.1 = 2) : xe E n s f = .inl (E.2.2.2 2, s.2.1, .inr (.inl fun j => Int64.ofInt (f j))) := by
  unfold xe
  rw [if_neg (by omega), if_pos h]
theorem xe_town {E : xE} {s : Nat × Nat × List Nat} {f : Int → Int} (h : s.1 = 5) : xe E 155 s f = .inl (E.2.2.2 5, s.2.1, .inr (.inr (.inr (.inr fun j => xrf E (((s.2.2.getD 0 0 : Nat) : Int) + 4 * j))))) := by
  unfold xe
  rw [if_neg (by omega), if_neg (by omega), if_pos h]
  rfl
theorem g_iald {a j : Int} (len : Nat) (hd : decode Y.2.1 pc = .ok (.iaload, 1)) (hs : xia n a 1 len = true) (hj : 0 ≤ j ∧ j < len) (hlen : len ≤ 2147483647) (kk : xG d bc bs Y (pc + 1) L (vI (σ a j) :: S) n σ K) : xG d bc bs Y pc L (vI j :: vR a :: S) n σ K := by
  intro E p l e R s m args below meth c0 mc ms Q F H locs cells slots ls hH hS h1 h2 hl
  have k2 := kk E p l e R s m args below meth c0 mc ms Q F H locs cells slots ls hH hS h1 h2 hl
  obtain ⟨s0, s1, s2, s3⟩ := xia_spec hs
  obtain ⟨c1, c2⟩ := xclamp hj.1 hj.2 hlen
  rw [List.map_cons, List.map_cons, xr_R s0]
  have he := xp_get (E := E) (σ := σ) s0 s1
  rw [xe_int s2 (Or.inl rfl), s3] at he
  refine va_iald F.1 F.2.1 F.2.2.2.2.2.1.1 hH.1 _ 0 he rfl c2 hd ?_
  have e1 : (Int32.ofInt (vI j).2).toNatClampNeg = j.toNat := c1
  rw [e1, show ((j.toNat : Nat) : Int) = j by omega]
  exact k2
theorem g_cald {a j : Int} (len : Nat) (hd : decode Y.2.1 pc = .ok (.caload, 1)) (hs : xia n a 4 len = true) (hj : 0 ≤ j ∧ j < len) (hlen : len ≤ 2147483647) (kk : xG d bc bs Y (pc + 1) L (vI (σ a j) :: S) n σ K) : xG d bc bs Y pc L (vI j :: vR a :: S) n σ K := by
  intro E p l e R s m args below meth c0 mc ms Q F H locs cells slots ls hH hS h1 h2 hl
  have k2 := kk E p l e R s m args below meth c0 mc ms Q F H locs cells slots ls hH hS h1 h2 hl
  obtain ⟨s0, s1, s2, s3⟩ := xia_spec hs
  obtain ⟨c1, c2⟩ := xclamp hj.1 hj.2 hlen
  rw [List.map_cons, List.map_cons, xr_R s0]
  have he := xp_get (E := E) (σ := σ) s0 s1
  rw [xe_int s2 (Or.inr (Or.inr rfl)), s3] at he
  refine va_cald F.1 F.2.1 F.2.2.2.2.2.1.1 hH.1 _ 3 he rfl c2 hd ?_
  have e1 : (Int32.ofInt (vI j).2).toNatClampNeg = j.toNat := c1
  rw [e1, show ((j.toNat : Nat) : Int) = j by omega]
  exact k2
theorem g_zald {a j : Int} (len : Nat) (hd : decode Y.2.1 pc = .ok (.baload, 1)) (hs : xia n a 3 len = true) (hj : 0 ≤ j ∧ j < len) (hlen : len ≤ 2147483647) (kk : xG d bc bs Y (pc + 1) L (vI (σ a j) :: S) n σ K) : xG d bc bs Y pc L (vI j :: vR a :: S) n σ K := by
  intro E p l e R s m args below meth c0 mc ms Q F H locs cells slots ls hH hS h1 h2 hl
  have k2 := kk E p l e R s m args below meth c0 mc ms Q F H locs cells slots ls hH hS h1 h2 hl
  obtain ⟨s0, s1, s2, s3⟩ := xia_spec hs
  obtain ⟨c1, c2⟩ := xclamp hj.1 hj.2 hlen
  rw [List.map_cons, List.map_cons, xr_R s0]
  have he := xp_get (E := E) (σ := σ) s0 s1
  rw [xe_int s2 (Or.inr (Or.inl rfl)), s3] at he
  refine va_zald F.1 F.2.1 F.2.2.2.2.2.1.1 hH.1 _ 2 he rfl c2 hd ?_
  have e1 : (Int32.ofInt (vI j).2).toNatClampNeg = j.toNat := c1
  rw [e1, show ((j.toNat : Nat) : Int) = j by omega]
  exact k2
theorem g_lald {a j : Int} (len : Nat) (hd : decode Y.2.1 pc = .ok (.laload, 1)) (hs : xia n a 2 len = true) (hj : 0 ≤ j ∧ j < len) (hlen : len ≤ 2147483647) (kk : xG d bc bs Y (pc + 1) L (vL (σ a j) :: S) n σ K) : xG d bc bs Y pc L (vI j :: vR a :: S) n σ K := by
  intro E p l e R s m args below meth c0 mc ms Q F H locs cells slots ls hH hS h1 h2 hl
  have k2 := kk E p l e R s m args below meth c0 mc ms Q F H locs cells slots ls hH hS h1 h2 hl
  obtain ⟨s0, s1, s2, s3⟩ := xia_spec hs
  obtain ⟨c1, c2⟩ := xclamp hj.1 hj.2 hlen
  rw [List.map_cons, List.map_cons, xr_R s0]
  have he := xp_get (E := E) (σ := σ) s0 s1
  rw [xe_long s2, s3] at he
  refine va_lald F.1 F.2.1 F.2.2.2.2.2.1.1 hH.1 _ 1 he rfl c2 hd ?_
  have e1 : (Int32.ofInt (vI j).2).toNatClampNeg = j.toNat := c1
  rw [e1, show ((j.toNat : Nat) : Int) = j by omega]
  exact k2
theorem g_aald {a j : Int} (len : Nat) (r0 : Nat) (hd : decode Y.2.1 pc = .ok (.aaload, 1)) (hs : xia 155 a 5 len = true) (hr : (xsh a).2.2.getD 0 0 = r0) (hj : 0 ≤ j ∧ j < len) (hlen : len ≤ 2147483647) (kk : xG d bc bs Y (pc + 1) L (vR ((r0 : Int) + 4 * j) :: S) 155 σ K) : xG d bc bs Y pc L (vI j :: vR a :: S) 155 σ K := by
  intro E p l e R s m args below meth c0 mc ms Q F H locs cells slots ls hH hS h1 h2 hl
  have k2 := kk E p l e R s m args below meth c0 mc ms Q F H locs cells slots ls hH hS h1 h2 hl
  obtain ⟨s0, s1, s2, s3⟩ := xia_spec hs
  obtain ⟨c1, c2⟩ := xclamp hj.1 hj.2 hlen
  rw [List.map_cons, List.map_cons, xr_R s0]
  have he := xp_get (E := E) (n := 155) (σ := σ) s0 s1
  rw [xe_town s2, s3, hr] at he
  refine va_aldq F.1 F.2.1 F.2.2.2.2.2.1.1 hH.1 _ 4 he rfl c2 hd ?_
  have e1 : (Int32.ofInt (vI j).2).toNatClampNeg = j.toNat := c1
  rw [e1, show ((j.toNat : Nat) : Int) = j by omega]
  rw [List.map_cons, xr_R (by omega)] at k2
  unfold xrf
  rw [if_neg (by omega)]
  exact k2
theorem g_alen {a : Int} (t len : Nat) (hd : decode Y.2.1 pc = .ok (.arraylength, 1)) (hs : xia n a t len = true) (ht : t = 1 ∨ t = 2) (kk : xG d bc bs Y (pc + 1) L (vI len :: S) n σ K) : xG d bc bs Y pc L (vR a :: S) n σ K := by
  intro E p l e R s m args below meth c0 mc ms Q F H locs cells slots ls hH hS h1 h2 hl
  have k2 := kk E p l e R s m args below meth c0 mc ms Q F H locs cells slots ls hH hS h1 h2 hl
  obtain ⟨s0, s1, s2, s3⟩ := xia_spec hs
  rw [List.map_cons, xr_R s0]
  have he := xp_get (E := E) (σ := σ) s0 s1
  rcases ht with rfl | rfl
  · rw [xe_int s2 (Or.inl rfl), s3] at he
    exact va_alen F.1 F.2.1 F.2.2.2.2.2.1.1 hH.1 _ 0 he rfl (v := Int32.ofInt len) rfl hd k2
  · rw [xe_long s2, s3] at he
    exact va_alen F.1 F.2.1 F.2.2.2.2.2.1.1 hH.1 _ 1 he rfl (v := Int32.ofInt len) rfl hd k2
theorem xu_arr {σ : xW} {a j x : Int} (hj : 0 ≤ j) : (upd (fun i : Nat => Int32.ofInt (σ a i)) j.toNat (Int32.ofInt x)) = fun i : Nat => Int32.ofInt (xu σ a j x a i) := by
  funext i
  unfold upd xu
  by_cases h : i = j.toNat
  · subst h; simp [Int.toNat_of_nonneg hj]
  · rw [if_neg h, if_neg (by omega)]
theorem xu_arrL {σ : xW} {a j x : Int} (hj : 0 ≤ j) : (vp_updL (fun i : Nat => Int64.ofInt (σ a i)) j.toNat (Int64.ofInt x)) = fun i : Nat => Int64.ofInt (xu σ a j x a i) := by
  funext i
  unfold vp_updL xu
  by_cases h : i = j.toNat
  · subst h; simp [Int.toNat_of_nonneg hj]
  · rw [if_neg h, if_neg (by omega)]
theorem g_iast {a j x : Int} (len : Nat) (hd : decode Y.2.1 pc = .ok (.iastore, 1)) (hs : xia 155 a 1 len = true) (hj : 0 ≤ j ∧ j < len) (hlen : len ≤ 2147483647) (kk : xG d bc bs Y (pc + 1) L S 155 (xu σ a j x) K) : xG d bc bs Y pc L (vI x :: vI j :: vR a :: S) 155 σ K := by
  intro E p l e R s m args below meth c0 mc ms Q F H locs cells slots ls hH hS h1 h2 hl
  obtain ⟨s0, s1, s2, s3⟩ := xia_spec hs
  obtain ⟨c1, c2⟩ := xclamp hj.1 hj.2 hlen
  rw [List.map_cons, List.map_cons, List.map_cons, xr_R s0]
  have he := xp_get (E := E) (n := 155) (σ := σ) s0 s1
  rw [xe_int s2 (Or.inl rfl), s3] at he
  refine va_iast F.1 F.2.1 F.2.2.2.2.2.1.1 hH.1 xp_D hS _ 0 he rfl c2 hd fun H1 locs1 hP1 hD1 hS1 => ?_
  have e1 : (Int32.ofInt (vI j).2).toNatClampNeg = j.toNat := c1
  rw [e1, show (Int32.ofInt (vI x).2) = Int32.ofInt x from rfl, xu_arr hj.1, ← s3, ← xe_int (E := E) (n := 155) s2 (Or.inl rfl), xp_set (σ' := xu σ a j x) s0 s1 (fun c' h => xu_row σ _ _ h)] at hP1
  exact kk E p l e R s m args below meth c0 mc ms Q F H1 locs1 cells slots ls (xH155 hP1) hS1 h1 h2 hl
theorem g_cast {a j x : Int} (len : Nat) (hd : decode Y.2.1 pc = .ok (.castore, 1)) (hs : xia 155 a 4 len = true) (hj : 0 ≤ j ∧ j < len) (hlen : len ≤ 2147483647) (hx : vp_nar .char (Int32.ofInt x) = Int32.ofInt x) (kk : xG d bc bs Y (pc + 1) L S 155 (xu σ a j x) K) : xG d bc bs Y pc L (vI x :: vI j :: vR a :: S) 155 σ K := by
  intro E p l e R s m args below meth c0 mc ms Q F H locs cells slots ls hH hS h1 h2 hl
  obtain ⟨s0, s1, s2, s3⟩ := xia_spec hs
  obtain ⟨c1, c2⟩ := xclamp hj.1 hj.2 hlen
  rw [List.map_cons, List.map_cons, List.map_cons, xr_R s0]
  have he := xp_get (E := E) (n := 155) (σ := σ) s0 s1
  rw [xe_int s2 (Or.inr (Or.inr rfl)), s3] at he
  refine va_cast F.1 F.2.1 F.2.2.2.2.2.1.1 hH.1 xp_D hS _ 3 he rfl c2 hd fun H1 locs1 hP1 hD1 hS1 => ?_
  have e1 : (Int32.ofInt (vI j).2).toNatClampNeg = j.toNat := c1
  rw [e1, show (Int32.ofInt (vI x).2) = Int32.ofInt x from rfl, hx, xu_arr hj.1, ← s3, ← xe_int (E := E) (n := 155) s2 (Or.inr (Or.inr rfl)), xp_set (σ' := xu σ a j x) s0 s1 (fun c' h => xu_row σ _ _ h)] at hP1
  exact kk E p l e R s m args below meth c0 mc ms Q F H1 locs1 cells slots ls (xH155 hP1) hS1 h1 h2 hl
theorem g_zast {a j x : Int} (len : Nat) (hd : decode Y.2.1 pc = .ok (.bastore, 1)) (hs : xia 155 a 3 len = true) (hj : 0 ≤ j ∧ j < len) (hlen : len ≤ 2147483647) (hx : x = 0 ∨ x = 1) (kk : xG d bc bs Y (pc + 1) L S 155 (xu σ a j x) K) : xG d bc bs Y pc L (vI x :: vI j :: vR a :: S) 155 σ K := by
  intro E p l e R s m args below meth c0 mc ms Q F H locs cells slots ls hH hS h1 h2 hl
  obtain ⟨s0, s1, s2, s3⟩ := xia_spec hs
  obtain ⟨c1, c2⟩ := xclamp hj.1 hj.2 hlen
  rw [List.map_cons, List.map_cons, List.map_cons, xr_R s0]
  have he := xp_get (E := E) (n := 155) (σ := σ) s0 s1
  rw [xe_int s2 (Or.inr (Or.inl rfl)), s3] at he
  refine va_zast F.1 F.2.1 F.2.2.2.2.2.1.1 hH.1 xp_D hS _ 2 he rfl c2 hd fun H1 locs1 hP1 hD1 hS1 => ?_
  have e1 : (Int32.ofInt (vI j).2).toNatClampNeg = j.toNat := c1
  have hz : vp_nar .boolean (Int32.ofInt x) = Int32.ofInt x := by rcases hx with rfl | rfl <;> rfl
  rw [e1, show (Int32.ofInt (vI x).2) = Int32.ofInt x from rfl, hz, xu_arr hj.1, ← s3, ← xe_int (E := E) (n := 155) s2 (Or.inr (Or.inl rfl)), xp_set (σ' := xu σ a j x) s0 s1 (fun c' h => xu_row σ _ _ h)] at hP1
  exact kk E p l e R s m args below meth c0 mc ms Q F H1 locs1 cells slots ls (xH155 hP1) hS1 h1 h2 hl
theorem g_last {a j x : Int} (len : Nat) (hd : decode Y.2.1 pc = .ok (.lastore, 1)) (hs : xia 155 a 2 len = true) (hj : 0 ≤ j ∧ j < len) (hlen : len ≤ 2147483647) (kk : xG d bc bs Y (pc + 1) L S 155 (xu σ a j x) K) : xG d bc bs Y pc L (vL x :: vI j :: vR a :: S) 155 σ K := by
  intro E p l e R s m args below meth c0 mc ms Q F H locs cells slots ls hH hS h1 h2 hl
  obtain ⟨s0, s1, s2, s3⟩ := xia_spec hs
  obtain ⟨c1, c2⟩ := xclamp hj.1 hj.2 hlen
  rw [List.map_cons, List.map_cons, List.map_cons, xr_R s0]
  have he := xp_get (E := E) (n := 155) (σ := σ) s0 s1
  rw [xe_long s2, s3] at he
  refine va_last F.1 F.2.1 F.2.2.2.2.2.1.1 hH.1 xp_D hS _ 1 he rfl c2 hd fun H1 locs1 hP1 hD1 hS1 => ?_
  have e1 : (Int32.ofInt (vI j).2).toNatClampNeg = j.toNat := c1
  rw [e1, show (Int64.ofInt (vL x).2) = Int64.ofInt x from rfl, xu_arrL hj.1, ← s3, ← xe_long (E := E) (n := 155) s2, xp_set (σ' := xu σ a j x) s0 s1 (fun c' h => xu_row σ _ _ h)] at hP1
  exact kk E p l e R s m args below meth c0 mc ms Q F H1 locs1 cells slots ls (xH155 hP1) hS1 h1 h2 hl
end XH
