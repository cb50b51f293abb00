/-- xG beside a text w that lies at E.2.1 (-1) and stays -/
def xGJ (w : List Int) (d bc bs : Nat) (Y : xMD) (pc : Nat) (L S : List xV) (n : Nat) (σ : xW) (K : List xV → Nat → xW → Prop) : Prop :=
  ∀ (E : xE) (tB : Nat) (p : Program) (l : Launch) (e : Env) (R : Room) (s : State) (m : MethodId) (args : Array Value) (below : List Frame) (meth : Method) (c : Code) (mc ms : Nat) (Q : State → Prop), xF E Y d K p l e R s m args below meth c mc ms Q →
  ∀ (H : Heap) (locs : List Loc) (cells slots : Nat) (ls : Array Slot), xH E n σ H → va_S (xA E) s.heap H locs → (∀ U : State, U.heap = H → s.vm.Alike U.vm → xSK (E.2.1 (-1)) tB w U) → cells + bc ≤ mc → slots + bs ≤ ms → lv_has ls Y.2.2.1 (xl E 0 L) →
  W p l e R s m args below meth c H locs cells slots Q (F0 m pc ls (S.map (xr E)))
def xCJ (w : List Int) (d bc bs : Nat) (Y : xMD) (as : List xV) (n : Nat) (σ : xW) (K : List xV → Nat → xW → Prop) : Prop :=
  ∀ (E : xE) (tB : Nat) (l : Launch), Met l Y.1 (Cond.code Y.1 Y.2.1 Y.2.2.1 Y.2.2.2 :: xTB) (xrm d bc bs) (va_Pc (as.map (xr E)) (fun U => xH E n σ U.heap ∧ xK E U ∧ xSK (E.2.1 (-1)) tB w U)) (xQ E K) bc bs (xA E)
section QJ
variable {w : List Int} {d bc bs : Nat} {Y : xMD} {pc : Nat} {L S : List xV} {n : Nat} {σ : xW} {K : List xV → Nat → xW → Prop}
theorem xGJ.of (k : xG d bc bs Y pc L S n σ K) : xGJ w d bc bs Y pc L S n σ K := fun E tB p l e R s m args below meth c mc ms Q F H locs cells slots ls hH hS hJ h1 h2 hl => k E p l e R s m args below meth c mc ms Q F H locs cells slots ls hH hS h1 h2 hl
theorem q_ic {v : Int} (hd : decode Y.2.1 pc = .ok (.iconst v, 1)) (k : xGJ w d bc bs Y (pc + 1) L (vI v :: S) n σ K) : xGJ w d bc bs Y pc L (S) n σ K := by
  intro E tB p l e R s m args below meth c mc ms Q F H locs cells slots ls hH hS hJ h1 h2 hl
  exact lv_iconst F.1 F.2.1 hd rfl (k E tB p l e R s m args below meth c mc ms Q F H locs cells slots ls hH hS hJ h1 h2 hl)
theorem q_iln {j : Fin 4} {i : Nat} {x : Int} (hd : decode Y.2.1 pc = .ok (.iload_n j, 1)) (hi : (j : Nat) = i) (hL : L[i]? = some (vI x)) (k : xGJ w d bc bs Y (pc + 1) L (vI x :: S) n σ K) : xGJ w d bc bs Y pc L (S) n σ K := by
  intro E tB p l e R s m args below meth c mc ms Q F H locs cells slots ls hH hS hJ h1 h2 hl
  exact lv_iload_n F.1 F.2.1 hd hi (xl_get hl hL (fun h => nomatch h)) (k E tB p l e R s m args below meth c mc ms Q F H locs cells slots ls hH hS hJ h1 h2 hl)
theorem q_tln {j : Fin 4} {i : Nat} {x : Int} (hd : decode Y.2.1 pc = .ok (.aload_n j, 1)) (hi : (j : Nat) = i) (hL : L[i]? = some (vT x)) (k : xGJ w d bc bs Y (pc + 1) L (vT x :: S) n σ K) : xGJ w d bc bs Y pc L (S) n σ K := by
  intro E tB p l e R s m args below meth c mc ms Q F H locs cells slots ls hH hS hJ h1 h2 hl
  exact lv_aload_n F.1 F.2.1 hd hi (xl_get hl hL (fun h => nomatch h)) (k E tB p l e R s m args below meth c mc ms Q F H locs cells slots ls hH hS hJ h1 h2 hl)
theorem q_aln {j : Fin 4} {i : Nat} {x : Int} (hd : decode Y.2.1 pc = .ok (.aload_n j, 1)) (hi : (j : Nat) = i) (hL : L[i]? = some (vR x)) (hx0 : 0 ≤ x) (k : xGJ w d bc bs Y (pc + 1) L (vR x :: S) n σ K) : xGJ w d bc bs Y pc L (S) n σ K := by
  intro E tB p l e R s m args below meth c mc ms Q F H locs cells slots ls hH hS hJ h1 h2 hl
  have hx : xr E (vR x) = .ref (E.1 + x.toNat) := by unfold xr vR; simp only []; rw [if_neg (by omega)]
  have hq := xl_get hl hL (fun h => nomatch h)
  rw [hx] at hq
  have k2 := k E tB p l e R s m args below meth c mc ms Q F H locs cells slots ls hH hS hJ h1 h2 hl
  rw [List.map_cons, hx] at k2
  exact lv_aload_n F.1 F.2.1 hd hi hq k2
theorem q_istn0 {j : Fin 4} {i : Nat} {x : Int} {L' : List xV} (hd : decode Y.2.1 pc = .ok (.istore_n j, 1)) (hi : (j : Nat) = i) (hn : i < Y.2.2.1) (hp : ∀ u, L[i - 1]? = some u → 0 < i → u.1 ≠ 1) (hL : L.set i (vI x) = L') (k : xGJ w d bc bs Y (pc + 1) L' S n σ K) : xGJ w d bc bs Y pc L (vI x :: S) n σ K := by
  intro E tB p l e R s m args below meth c mc ms Q F H locs cells slots ls hH hS hJ h1 h2 hl
  subst hL
  exact lv_istore_n F.1 F.2.1 hd hi hl hn rfl fun ls' hl' => k E tB p l e R s m args below meth c mc ms Q F H locs cells slots ls' hH hS hJ h1 h2 (lv_has_mono hl' (xl_set1 hp))
theorem q_istn_2 {x : Int} {a0 a1 a2 : xV} {t : List xV} (hd : decode Y.2.1 pc = .ok (.istore_n 2, 1)) (hn : 2 < Y.2.2.1) (hp : (a1.1 == 1) = false) (k : xGJ w d bc bs Y (pc + 1) (a0 :: a1 :: vI x :: t) S n σ K) : xGJ w d bc bs Y pc (a0 :: a1 :: a2 :: t) (vI x :: S) n σ K := q_istn0 (i := 2) hd rfl hn (fun u hu _ => by simp at hu; subst hu; simpa using hp) rfl k
theorem q_inc0 {i : Nat} {x y : Int} {L' : List xV} (hd : decode Y.2.1 pc = .ok (.iinc i y, 3)) (hL0 : L[i]? = some (vI x)) (hn : i < Y.2.2.1) (hp : ∀ u, L[i - 1]? = some u → 0 < i → u.1 ≠ 1) (hL : L.set i (vI (x + y)) = L') (k : xGJ w d bc bs Y (pc + 3) L' S n σ K) : xGJ w d bc bs Y pc L S n σ K := by
  intro E tB p l e R s m args below meth c mc ms Q F H locs cells slots ls hH hS hJ h1 h2 hl
  subst hL
  obtain ⟨kk, hk⟩ := List.getElem?_of_mem ((xl_mem (E := E) L 0 i _).mpr ⟨i, vI x, hL0, (fun h => nomatch h), by omega, rfl⟩)
  exact lv_iinc F.1 F.2.1 hd hl hk (v := Int32.ofInt (x + y)) (by rw [Int32.ofInt_add]; rfl) hn rfl fun ls' hl' => k E tB p l e R s m args below meth c mc ms Q F H locs cells slots ls' hH hS hJ h1 h2 (lv_has_mono hl' (xl_set1 hp))
theorem q_inc_2 {x y : Int} {a0 a1 : xV} {t : List xV} (hd : decode Y.2.1 pc = .ok (.iinc 2 y, 3)) (hn : 2 < Y.2.2.1) (hp : (a1.1 == 1) = false) (k : xGJ w d bc bs Y (pc + 3) (a0 :: a1 :: vI (x + y) :: t) S n σ K) : xGJ w d bc bs Y pc (a0 :: a1 :: vI x :: t) S n σ K := q_inc0 (i := 2) hd rfl hn (fun u hu _ => by simp at hu; subst hu; simpa using hp) rfl k
theorem q_goto {off : Int} {tgt : Nat} (hd : decode Y.2.1 pc = .ok (.goto off, 3)) (ht : (pc : Int) + off = (tgt : Int)) (k : xGJ w d bc bs Y (tgt) L (S) n σ K) : xGJ w d bc bs Y pc L (S) n σ K := by
  intro E tB p l e R s m args below meth c mc ms Q F H locs cells slots ls hH hS hJ h1 h2 hl
  exact lv_goto F.1 F.2.1 hd ht (k E tB p l e R s m args below meth c mc ms Q F H locs cells slots ls hH hS hJ h1 h2 hl)
theorem q_cge {a b : Int} {off : Int} {tgt : Nat} (hd : decode Y.2.1 pc = .ok (.if_icmp .ge off, 3)) (ht : (pc : Int) + off = (tgt : Int)) (ha : I32 a) (hb : I32 b) (kt : b ≤ a → xGJ w d bc bs Y tgt L S n σ K) (kf : a < b → xGJ w d bc bs Y (pc + 3) L S n σ K) : xGJ w d bc bs Y pc L (vI b :: vI a :: S) n σ K := by
  intro E tB p l e R s m args below meth c mc ms Q F H locs cells slots ls hH hS hJ h1 h2 hl
  exact lv_icmp_ge F.1 F.2.1 hd ht (fun h => kt ((w32_le hb ha).mp h) E tB p l e R s m args below meth c mc ms Q F H locs cells slots ls hH hS hJ h1 h2 hl) (fun h => kf (by have h' := mt (w32_le hb ha).mpr h; omega) E tB p l e R s m args below meth c mc ms Q F H locs cells slots ls hH hS hJ h1 h2 hl)
theorem q_cne {a b : Int} {off : Int} {tgt : Nat} (hd : decode Y.2.1 pc = .ok (.if_icmp .ne off, 3)) (ht : (pc : Int) + off = (tgt : Int)) (ha : I32 a) (hb : I32 b) (kt : a ≠ b → xGJ w d bc bs Y tgt L S n σ K) (kf : a = b → xGJ w d bc bs Y (pc + 3) L S n σ K) : xGJ w d bc bs Y pc L (vI b :: vI a :: S) n σ K := by
  intro E tB p l e R s m args below meth c mc ms Q F H locs cells slots ls hH hS hJ h1 h2 hl
  exact lv_icmp_ne F.1 F.2.1 hd ht (fun h => kt ((not_congr (w32_eq ha hb)).mp h) E tB p l e R s m args below meth c mc ms Q F H locs cells slots ls hH hS hJ h1 h2 hl) (fun h => kf ((w32_eq ha hb).mp h) E tB p l e R s m args below meth c mc ms Q F H locs cells slots ls hH hS hJ h1 h2 hl)
theorem q_same {S' : List xV} (he : ∀ E, S'.map (xr E) = S.map (xr E)) (k : xGJ w d bc bs Y pc L S' n σ K) : xGJ w d bc bs Y pc L S n σ K := by
  intro E tB p l e R s m args below meth c mc ms Q F H locs cells slots ls hH hS hJ h1 h2 hl
  have k2 := k E tB p l e R s m args below meth c mc ms Q F H locs cells slots ls hH hS hJ h1 h2 hl
  rw [he E] at k2
  exact k2
theorem q_wr2 {a b a' b' : Int} (ha : xw a = a') (hb : xw b = b') (k : xGJ w d bc bs Y pc L (vI b' :: vI a' :: S) n σ K) : xGJ w d bc bs Y pc L (vI b :: vI a :: S) n σ K := by
  subst ha hb
  exact q_same (fun E => by rw [List.map_cons, List.map_cons, List.map_cons, List.map_cons, xr_xw, xr_xw]) k
theorem q_wge {a b a' b' : Int} {off : Int} {tgt : Nat} (hd : decode Y.2.1 pc = .ok (.if_icmp .ge off, 3)) (ht : (pc : Int) + off = (tgt : Int)) (ha : xw a = a') (hb : xw b = b') (kt : ¬ (a' < b') → xGJ w d bc bs Y tgt L S n σ K) (kf : a' < b' → xGJ w d bc bs Y (pc + 3) L S n σ K) : xGJ w d bc bs Y pc L (vI b :: vI a :: S) n σ K :=
  q_wr2 ha hb (q_cge hd ht (by rw [← ha]; exact I32_xw a) (by rw [← hb]; exact I32_xw b) (fun h => kt (by omega)) (fun h => kf (by omega)))
theorem q_wne {a b a' b' : Int} {off : Int} {tgt : Nat} (hd : decode Y.2.1 pc = .ok (.if_icmp .ne off, 3)) (ht : (pc : Int) + off = (tgt : Int)) (ha : xw a = a') (hb : xw b = b') (kt : ¬ (a' = b') → xGJ w d bc bs Y tgt L S n σ K) (kf : a' = b' → xGJ w d bc bs Y (pc + 3) L S n σ K) : xGJ w d bc bs Y pc L (vI b :: vI a :: S) n σ K :=
  q_wr2 ha hb (q_cne hd ht (by rw [← ha]; exact I32_xw a) (by rw [← hb]; exact I32_xw b) (fun h => kt (by omega)) (fun h => kf (by omega)))
theorem q_get0 {c : Int} {i ci k t : Nat} {fin : Bool} {ft : FieldType} {v : xV} (hd : decode Y.2.1 pc = .ok (.getfield i, 3)) (hf : xFL Y.1.cls i ci k fin ft) (hs : xis n c ci k t = true) (hv : xfv n t (σ c k) = v) (kk : xGJ w d bc bs Y (pc + 3) L (v :: S) n σ K) : xGJ w d bc bs Y pc L (vR c :: S) n σ K := by
  intro E tB p l e R s m args below meth c0 mc ms Q F H locs cells slots ls hH hS hJ h1 h2 hl
  have k2 := kk E tB p l e R s m args below meth c0 mc ms Q F H locs cells slots ls hH hS hJ h1 h2 hl
  obtain ⟨C, T, N, ty, f1, f2, f3, f4, f5, f6, f7, f8⟩ := hf
  obtain ⟨s0, s1, s2, s3, s4⟩ := xis_spec hs
  rw [List.map_cons, xr_R s0]
  have he := xp_get (E := E) (σ := σ) s0 s1
  rw [xe_obj s2, s3] at he
  have hfv : (xfs E n (σ c) 0 (xsh c).2.2)[k]? = some (xr E v) := by rw [xfs_get, s4]; simp [hv]
  rcases f8 with hq | ⟨host, hq⟩
  · exact va_get F.1 F.2.1 F.2.2.2.2.1 f3 F.2.2.2.1 F.2.2.2.2.2.1.1 hH.1 _ he f1 k f2 (F.2.2.2.2.1 _ hq) (fun _ h => h) hfv hd k2
  · exact va_getN F.1 F.2.1 F.2.2.2.2.1 f3 F.2.2.2.1 F.2.2.2.2.2.1.1 hH.1 _ he f1 k f2 ((F.2.2.2.2.2.1.2.1 _ hq).use rfl) (fun _ h => h) hfv hd k2
theorem q_getI {c : Int} {i ci k : Nat} (ki : Int) {fin : Bool} {ft : FieldType} (hd : decode Y.2.1 pc = .ok (.getfield i, 3)) (hf : xFL Y.1.cls i ci k fin ft) (hs : xis n c ci k 0 = true) (hk : (k : Int) = ki) (kk : xGJ w d bc bs Y (pc + 3) L (vI (σ c ki) :: S) n σ K) : xGJ w d bc bs Y pc L (vR c :: S) n σ K := by subst hk; exact q_get0 hd hf hs rfl kk
theorem q_getC {c : Int} {i ci k : Nat} (r : Int) {fin : Bool} {ft : FieldType} (hd : decode Y.2.1 pc = .ok (.getfield i, 3)) (hf : xFL Y.1.cls i ci k fin ft) (hs : xis 155 c ci k (r.toNat + 10) = true) (hr : 0 ≤ r) (kk : xGJ w d bc bs Y (pc + 3) L (vR r :: S) 155 σ K) : xGJ w d bc bs Y pc L (vR c :: S) 155 σ K :=
  q_get0 hd hf hs (by unfold xfv; rw [if_neg (by omega), if_neg (by omega), if_neg (by omega), if_neg (by omega), if_pos rfl]; congr 1; omega) kk
theorem q_iald {a j : Int} (len : Nat) (hd : decode Y.2.1 pc = .ok (.iaload, 1)) (hs : xia n a 1 len = true) (hj : 0 ≤ j ∧ j < len) (hlen : len ≤ 2147483647) (kk : xGJ w d bc bs Y (pc + 1) L (vI (σ a j) :: S) n σ K) : xGJ w d bc bs Y pc L (vI j :: vR a :: S) n σ K := by
  intro E tB p l e R s m args below meth c0 mc ms Q F H locs cells slots ls hH hS hJ h1 h2 hl
  have k2 := kk E tB p l e R s m args below meth c0 mc ms Q F H locs cells slots ls hH hS hJ h1 h2 hl
  obtain ⟨s0, s1, s2, s3⟩ := xia_spec hs
  obtain ⟨c1, c2⟩ := xclamp hj.1 hj.2 hlen
  rw [List.map_cons, List.map_cons, xr_R s0]
  have he := xp_get (E := E) (σ := σ) s0 s1
  rw [xe_int s2 (Or.inl rfl), s3] at he
  refine va_iald F.1 F.2.1 F.2.2.2.2.2.1.1 hH.1 _ 0 he rfl c2 hd ?_
  have e1 : (Int32.ofInt (vI j).2).toNatClampNeg = j.toNat := c1
  rw [e1, show ((j.toNat : Nat) : Int) = j by omega]
  exact k2
theorem xCJ.of {as : List xV} (L : List xV) (hy : plainName Y.1.cls = true) (hlen : (xen as).length ≤ Y.2.2.1) (hL : xen as ++ List.replicate (Y.2.2.1 - (xen as).length) vX = L) (k : xGJ w d bc bs Y 0 L [] n σ K) : xCJ w d bc bs Y as n σ K := by
  intro E tB l
  refine Met.ofW (cc := Y.2.1) (maxL := Y.2.2.1) (ret := Y.2.2.2) hy rfl ?_
  intro p e s m args below meth c s₁ B hml hv
  obtain ⟨rfl, hH, hK, hJ⟩ := hv
  have hts : ∀ w ∈ Cond.code Y.1 Y.2.1 Y.2.2.1 Y.2.2.2 :: xTB, w.before ((as.map (xr E)).toArray) s = true := atoms_spec (ws := Cond.code Y.1 Y.2.1 Y.2.2.1 Y.2.2.2 :: xTB) B.pre
  have hl := lv_entry (as.map (xr E)) (n := Y.2.2.1) (by rw [xen_len]; exact hlen)
  rw [lg_entry_eq]
  generalize (lg_sl (as.map (xr E)) ++ List.replicate (Y.2.2.1 - (lg_sl (as.map (xr E))).length) Slot.unset).toArray = ls at hl ⊢
  have hlL : lv_has ls Y.2.2.1 (xl E 0 L) := lv_has_mono hl (by rw [← hL]; exact xen_args _ as 0)
  have hr := B.returns
  have hlocks := B.notSynchronized
  have hsz : E.1 ≤ s.heap.size := Nat.le_trans (Nat.le_add_right _ _) hH.2.2
  refine k E tB p l e (xrm d bc bs) s m _ below meth c bc bs _ ⟨B.exec, B.bytes, hml, findClass_of_methodNamed B.named, fun w hw => hts w (List.mem_cons_of_mem _ hw), hK, ⟨Nat.le_refl _, Nat.le_refl _, Nat.le_refl _, Nat.le_refl _⟩, hsz, ?_⟩ s.heap [] 0 0 ls hH va_S.rf (fun U hU hvm => xSK_go hvm hU hJ) (Nat.le_of_eq (Nat.zero_add _)) (Nat.le_of_eq (Nat.zero_add _)) hlL
  intro r n' σ' pc ls' H locs cells slots hk hok hdg hH' hS' hc1 hc2
  refine W.widen hc1 hc2 ?_
  have hq : ∀ (v : Option Value) (t : State), r.head?.map (xr E) = v → r.length ≤ 1 → t.heap = H → xQ E K ((as.map (xr E)).toArray) s (.returned v) t := fun v t hv hl1 ht => ⟨⟨r, n', σ', by rw [hv], hl1, hk, by rw [ht]; exact hH'⟩, hS'.F ht⟩
  rcases r with _ | ⟨v, _ | ⟨v2, r⟩⟩
  · cases hret : Y.2.2.2 with
    | none =>
      rw [hret] at hr
      exact W.vret B.exec B.bytes hr (fun t ht _ => hq none t rfl (by simp) ht) (x_locs hS') hdg
    | some ty => rw [hret] at hok; cases ty <;> exact absurd hok (by simp [xok])
  · cases hret : Y.2.2.2 with
    | none => rw [hret] at hok; exact absurd hok (by simp [xok])
    | some ty =>
      rw [hret] at hok hr
      obtain ⟨t0, x⟩ := v
      cases ty with
      | int =>
        have ht0 : t0 = 0 := hok
        subst ht0
        exact W.iret B.exec B.bytes hr (fun t ht _ => hq _ t rfl (by simp) ht) (x_locs hS') hdg
      | boolean =>
        obtain ⟨ht0, hx⟩ := hok
        have ht0 : t0 = 0 := ht0
        subst ht0
        refine W.zret B.exec B.bytes hr ?_ (fun t ht _ => hq _ t rfl (by simp) ht) (x_locs hS') hdg
        rcases hx with hx | hx <;> (have hx : x = _ := hx) <;> subst hx <;> rfl
      | char =>
        obtain ⟨ht0, hx⟩ := hok
        have ht0 : t0 = 0 := ht0
        subst ht0
        exact W.zret B.exec B.bytes hr (x_nchar hx.1 hx.2) (fun t ht _ => hq _ t rfl (by simp) ht) (x_locs hS') hdg
      | long =>
        have ht0 : t0 = 1 := hok
        subst ht0
        exact W.lret B.exec B.bytes hr (fun t ht _ => hq _ t rfl (by simp) ht) (x_locs hS') hdg
      | _ => exact absurd hok (by simp [xok])
  · cases hret : Y.2.2.2 with
    | none => rw [hret] at hok; exact absurd hok (by simp [xok])
    | some ty => rw [hret] at hok; cases ty <;> exact absurd hok (by simp [xok])
theorem q_len {i : Nat} (hd : decode Y.2.1 pc = .ok (.invokevirtual i, 3)) (hm : Cond.methodLink Y.1.cls i nJ_len ∈ xTB) (hdd : 2 ≤ d) (hrest : decide ((S.map (fun v => if v.1 = 1 then 2 else 1)).sum ≤ 8) = true) (k : xGJ w d bc bs Y (pc + 3) L (vI (w.length : Int) :: S) n σ K) : xGJ w d bc bs Y pc L (vT (-1) :: S) n σ K := by
  intro E tB p l e R s m args below meth c mc ms Q F H locs cells slots ls hH hS hJ h1 h2 hl
  have k2 := k E tB p l e R s m args below meth c mc ms Q F H locs cells slots ls hH hS hJ h1 h2 hl
  obtain ⟨Fx, Fb, Fml, Fo, Ft, FK, ⟨Fr1, Fr2, Fr3, Fr4⟩, -, -⟩ := id F
  obtain ⟨cell, q1, q2, q3, -⟩ := (hJ ({ s with heap := H } : State) rfl (Vm.Alike.refl _)).1
  exact w_jV (d := d) (as := []) (Y' := yJ_len) Fx Fb Fml Fo Ft ⟨Fr1, Fr2⟩ hm w_len wi_len wv_len (j_len (a := E.2.1 (-1)) (t := tB) (w := w)) ⟨cell, q1, q2, q3⟩ (fun U hU hW => hJ U hU hW.alike) rfl (by omega) (by rw [xcat]; exact of_decide_eq_true hrest) hl.1 ⟨by omega, by omega⟩ hd k2
theorem q_chat {i : Nat} {x : Int} (hw : xB7 w) (h0 : 0 ≤ x ∧ x < (w.length : Int)) (hd : decode Y.2.1 pc = .ok (.invokevirtual i, 3)) (hm : Cond.methodLink Y.1.cls i nJ_chat ∈ xTB) (hdd : 4 ≤ d) (hrest : decide ((S.map (fun v => if v.1 = 1 then 2 else 1)).sum ≤ 8) = true) (k : xGJ w d bc bs Y (pc + 3) L (vI (xch w x) :: S) n σ K) : xGJ w d bc bs Y pc L (vI x :: vT (-1) :: S) n σ K := by
  intro E tB p l e R s m args below meth c mc ms Q F H locs cells slots ls hH hS hJ h1 h2 hl
  have k2 := k E tB p l e R s m args below meth c mc ms Q F H locs cells slots ls hH hS hJ h1 h2 hl
  obtain ⟨Fx, Fb, Fml, Fo, Ft, FK, ⟨Fr1, Fr2, Fr3, Fr4⟩, -, -⟩ := id F
  obtain ⟨cell, q1, q2, q3, -⟩ := (hJ ({ s with heap := H } : State) rfl (Vm.Alike.refl _)).1
  exact w_jV (d := d) (as := [.int (Int32.ofInt x)]) (Y' := yJ_chat) Fx Fb Fml Fo Ft ⟨Fr1, Fr2⟩ hm w_chat wi_chat wv_chat (j_chat (a := E.2.1 (-1)) (t := tB) hw h0.1 h0.2) ⟨cell, q1, q2, q3⟩ (fun U hU hW => hJ U hU hW.alike) rfl (by omega) (by rw [xcat]; exact of_decide_eq_true hrest) hl.1 ⟨by omega, by omega⟩ hd k2
end QJ
theorem dX11_takesOf_0 : decode cX11_takesOf 0 = .ok (.iconst 0, 1) := by decide +kernel
theorem dX11_takesOf_1 : decode cX11_takesOf 1 = .ok (.istore_n 2, 1) := by decide +kernel
theorem dX11_takesOf_2 : decode cX11_takesOf 2 = .ok (.iload_n 2, 1) := by decide +kernel
theorem dX11_takesOf_3 : decode cX11_takesOf 3 = .ok (.aload_n 1, 1) := by decide +kernel
theorem dX11_takesOf_4 : decode cX11_takesOf 4 = .ok (.invokevirtual 167, 3) := by decide +kernel
theorem dX11_takesOf_7 : decode cX11_takesOf 7 = .ok (.if_icmp .ge 49, 3) := by decide +kernel
theorem dX11_takesOf_10 : decode cX11_takesOf 10 = .ok (.aload_n 0, 1) := by decide +kernel
theorem dX11_takesOf_11 : decode cX11_takesOf 11 = .ok (.getfield 144, 3) := by decide +kernel
theorem dX11_takesOf_14 : decode cX11_takesOf 14 = .ok (.aload_n 0, 1) := by decide +kernel
theorem dX11_takesOf_15 : decode cX11_takesOf 15 = .ok (.getfield 156, 3) := by decide +kernel
theorem dX11_takesOf_18 : decode cX11_takesOf 18 = .ok (.if_icmp .ge 38, 3) := by decide +kernel
theorem dX11_takesOf_21 : decode cX11_takesOf 21 = .ok (.aload_n 1, 1) := by decide +kernel
theorem dX11_takesOf_22 : decode cX11_takesOf 22 = .ok (.iload_n 2, 1) := by decide +kernel
theorem dX11_takesOf_23 : decode cX11_takesOf 23 = .ok (.invokevirtual 173, 3) := by decide +kernel
theorem dX11_takesOf_26 : decode cX11_takesOf 26 = .ok (.aload_n 0, 1) := by decide +kernel
theorem dX11_takesOf_27 : decode cX11_takesOf 27 = .ok (.getfield 53, 3) := by decide +kernel
theorem dX11_takesOf_30 : decode cX11_takesOf 30 = .ok (.aload_n 0, 1) := by decide +kernel
theorem dX11_takesOf_31 : decode cX11_takesOf 31 = .ok (.getfield 144, 3) := by decide +kernel
theorem dX11_takesOf_34 : decode cX11_takesOf 34 = .ok (.iaload, 1) := by decide +kernel
theorem dX11_takesOf_35 : decode cX11_takesOf 35 = .ok (.if_icmp .ne 15, 3) := by decide +kernel
theorem dX11_takesOf_38 : decode cX11_takesOf 38 = .ok (.aload_n 0, 1) := by decide +kernel
theorem dX11_takesOf_39 : decode cX11_takesOf 39 = .ok (.dup, 1) := by decide +kernel
theorem dX11_takesOf_40 : decode cX11_takesOf 40 = .ok (.getfield 144, 3) := by decide +kernel
theorem dX11_takesOf_43 : decode cX11_takesOf 43 = .ok (.iconst 1, 1) := by decide +kernel
theorem dX11_takesOf_44 : decode cX11_takesOf 44 = .ok (.iadd, 1) := by decide +kernel
theorem dX11_takesOf_45 : decode cX11_takesOf 45 = .ok (.putfield 144, 3) := by decide +kernel
theorem dX11_takesOf_48 : decode cX11_takesOf 48 = .ok (.iload_n 2, 1) := by decide +kernel
theorem dX11_takesOf_49 : decode cX11_takesOf 49 = .ok (.ireturn, 1) := by decide +kernel
theorem dX11_takesOf_50 : decode cX11_takesOf 50 = .ok (.iinc 2 1, 3) := by decide +kernel
theorem dX11_takesOf_53 : decode cX11_takesOf 53 = .ok (.goto (-51), 3) := by decide +kernel
theorem dX11_takesOf_56 : decode cX11_takesOf 56 = .ok (.iconst (-1), 1) := by decide +kernel
theorem dX11_takesOf_57 : decode cX11_takesOf 57 = .ok (.ireturn, 1) := by decide +kernel
theorem s_X11_takesOf_2 {l1_1 : List Int} (hw : xB7 l1_1) {q : Int × xW} {k : Int → xW → Option (Int × xW)} (hk : ∀ (l2_11 : Int) (s12 : xW), k l2_11 s12 = some q → xGJ l1_1 4 0 0 mX11_takesOf 56 [vR 121, vT (-1), vI l2_11] [] 155 s12 (xRv (vI q.1) q.2)) : ∀ (f : Nat) (l2_2 : Int) (s3 : xW), F_X11_takesOf_2 l1_1 f l2_2 s3 k = some q → xGJ l1_1 4 0 0 mX11_takesOf 2 [vR 121, vT (-1), vI l2_2] [] 155 s3 (xRv (vI q.1) q.2) := by
  intro f
  induction f with
  | zero => intro l2_2 s3 h; cases h
  | succ f ih =>
    intro l2_2 s3 h
    unfold F_X11_takesOf_2 at h
    refine q_iln dX11_takesOf_2 rfl rfl ?_
    refine q_tln dX11_takesOf_3 rfl rfl ?_
    refine q_len dX11_takesOf_4 wl_NoonGunModel_167 (by decide) rfl ?_
    refine q_wge dX11_takesOf_7 (tgt := 56) rfl rfl rfl (fun q4 => ?_) (fun q4 => ?_)
    · replace h := xif_f q4 h
      exact hk l2_2 s3 h
    · replace h := xif_t q4 h
      refine q_aln dX11_takesOf_10 rfl rfl (by decide) ?_
      refine q_getI 16 dX11_takesOf_11 fl_X11_144 rfl rfl ?_
      refine q_aln dX11_takesOf_14 rfl rfl (by decide) ?_
      refine q_getI 17 dX11_takesOf_15 fl_X11_156 rfl rfl ?_
      refine q_wge dX11_takesOf_18 (tgt := 56) rfl rfl rfl (fun q5 => ?_) (fun q5 => ?_)
      · replace h := xif_f q5 h
        exact hk l2_2 s3 h
      · replace h := xif_t q5 h
        refine q_tln dX11_takesOf_21 rfl rfl ?_
        refine q_iln dX11_takesOf_22 rfl rfl ?_
        obtain ⟨hg6, h⟩ := xgd_e h
        refine q_chat hw hg6 dX11_takesOf_23 wl_NoonGunModel_173 (by decide) rfl ?_
        refine q_aln dX11_takesOf_26 rfl rfl (by decide) ?_
        refine q_getC 129 dX11_takesOf_27 fl_X11_53 rfl (by decide) ?_
        refine q_aln dX11_takesOf_30 rfl rfl (by decide) ?_
        refine q_getI 16 dX11_takesOf_31 fl_X11_144 rfl rfl ?_
        obtain ⟨hg7, h⟩ := xgd_e h
        refine q_iald 80 dX11_takesOf_34 rfl hg7 (by decide) ?_
        refine q_wne dX11_takesOf_35 (tgt := 50) rfl rfl rfl (fun q8 => ?_) (fun q8 => ?_)
        · replace h := xif_f q8 h
          refine q_inc_2 dX11_takesOf_50 (by decide) rfl ?_
          refine q_goto dX11_takesOf_53 (tgt := 2) rfl ?_
          exact ih (l2_2 + 1) s3 h
        · replace h := xif_t q8 h
          refine xGJ.of ?_
          refine g_aln dX11_takesOf_38 rfl rfl (by decide) ?_
          refine g_dup dX11_takesOf_39 rfl ?_
          refine g_getI 16 dX11_takesOf_40 fl_X11_144 rfl rfl ?_
          refine g_ic dX11_takesOf_43 ?_
          refine g_iadd dX11_takesOf_44 ?_
          obtain ⟨s9, e10, h⟩ := xlt_e h
          refine h_putI 16 dX11_takesOf_45 fl_X11_144 rfl rfl e10 ?_
          refine g_iln dX11_takesOf_48 rfl rfl ?_
          exact g_rI rfl dX11_takesOf_49 h
theorem s_X11_takesOf {w : List Int} (hw : xB7 w) {s0 : xW} {q : Int × xW} (h : F_X11_takesOf w s0 = some q) : xCJ w 4 0 0 mX11_takesOf [vR 121, vT (-1)] 155 s0 (xRv (vI q.1) q.2) := by
  refine xCJ.of [vR 121, vT (-1), vX] (by decide +kernel) (Nat.le_of_ble_eq_true rfl) rfl ?_
  unfold F_X11_takesOf at h
  refine q_ic dX11_takesOf_0 ?_
  refine q_istn_2 dX11_takesOf_1 (by decide) rfl ?_
  refine s_X11_takesOf_2 hw (fun l2_13 s14 h => ?_) xN _ _ h
  refine xGJ.of ?_
  refine g_ic dX11_takesOf_56 ?_
  exact g_rI rfl dX11_takesOf_57 h
/-! E with another text at -1 -/
def xEs (E : xE) (a : Nat) : xE := (E.1, (fun k => if k = -1 then a else E.2.1 k), E.2.2)
theorem xr_Es {E : xE} {a : Nat} {v : xV} (h : v.1 ≤ 2) : xr (xEs E a) v = xr E v := by
  obtain ⟨t, x⟩ := v
  have h : t ≤ 2 := h
  match t, h with
  | 0, _ => rfl
  | 1, _ => rfl
  | 2, _ => rfl
theorem xfs_Es {E : xE} {a n : Nat} {f : Int → Int} : ∀ (ts : List Nat) (k : Nat), xfs (xEs E a) n f k ts = xfs E n f k ts
  | [], _ => rfl
  | t :: ts, k => by
    unfold xfs
    rw [xfs_Es ts (k + 1), xr_Es (by unfold xfv; split <;> (try split) <;> (try split) <;> (try split) <;> (try split) <;> simp [vI, vL, vR])]
theorem xe_Es {E : xE} {a n : Nat} {s : Nat × Nat × List Nat} {f : Int → Int} : xe (xEs E a) n s f = xe E n s f := by
  unfold xe
  rw [xfs_Es]
  rfl
theorem xp_Es {E : xE} {a n : Nat} {σ : xW} : xp (xEs E a) n σ = xp E n σ := by
  unfold xp
  apply List.map_congr_left
  intro c _
  rw [xe_Es]
  rfl
theorem xH_Es {E : xE} {a n : Nat} {σ : xW} {H : Heap} : xH (xEs E a) n σ H ↔ xH E n σ H := by
  unfold xH
  rw [xp_Es]
  exact Iff.rfl
theorem xK_Es {E : xE} {a : Nat} {U : State} (h : xK E U) : xK (xEs E a) U := by
  obtain ⟨h1, h2, g1, g2⟩ := h
  refine ⟨h1, h2, fun i q hi => ?_, g2⟩
  have e : (xEs E a).2.1 (i : Int) = E.2.1 (i : Int) := by show (if (i : Int) = -1 then a else E.2.1 (i : Int)) = _; exact if_neg (by omega)
  rw [e]
  exact g1 i q hi
theorem xEs_at {E : xE} {a : Nat} : (xEs E a).2.1 (-1) = a := by show (if (-1 : Int) = -1 then a else E.2.1 (-1)) = a; exact if_pos rfl
