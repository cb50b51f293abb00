/-! walks that end in a throw -/
def xTQ (E : xE) (σ : xW) (below : List Frame) (s : State) (mc ms : Nat) : State → Prop := fun t => ∃ z, t.status = .running ∧ Ended t below (.threw z) ∧
  (xH E 155 σ t.heap ∧ va_F (xA E) s t ∧ ∃ (ce : Cell) (cX : ClassId), t.heap[z]? = some ce ∧ ce.vm = .none ∧ ce.cls = cX ∧ s.vm.findClass xNS = some cX ∧ s.vm.assignable cX cX = true ∧ E.1 ≤ z) ∧ s.WarmedH t.vm ∧ s.sameButNew ({ t with vm := s.vm } : State) [] mc ms
/-- a static field that is laid, outside the world -/
def xLs (C n d : String) (A : Nat → Prop) (U : State) (H : Heap) : Prop := ∃ (c : ClassId) (k : Class) (i : Nat) (f : Field) (a : Nat) (cell : Cell), U.vm.findClass C = some c ∧ U.fieldFound? C n d = some (c, k, i, f) ∧ f.isStatic = true ∧ k.statics = some a ∧ H[a]? = some cell ∧ cell.vm.isStatics = true ∧ cell.cls = c ∧ f.slot < cell.slots.size ∧ k.staticTypes[f.slot]? = some f.type ∧ ¬ A a
theorem xLs.of {C n d : String} {A : Nat → Prop} {s : State} {args : Array Value} (h : (Cond.laysStatic C n d).before args s = true) (hA : ∀ a : Nat, a < s.heap.size → ¬ A a) : xLs C n d A s s.heap := by
  obtain ⟨c, k, i, f, a, cell, h1, h2, h3, h4, h5, h6, h7, h8, h9⟩ := Cond.laysStatic_spec h
  exact ⟨c, k, i, f, a, cell, h1, h2, h3, h4, h5, h6, h7, h8, h9, hA a (Array.getElem?_eq_some_iff.mp h5).1⟩
theorem xLs.use {C n d : String} {A : Nat → Prop} {s : State} {args : Array Value} (h : xLs C n d A s s.heap) : (Cond.laysStatic C n d).before args s = true := by
  obtain ⟨c, k, i, f, a, cell, h1, h2, h3, h4, h5, h6, h7, h8, h9, -⟩ := h
  simp [Cond.before, Cond.holds, Cond.value, h1, h2, h3, h4, h5, h6, h7, h8, h9]
theorem xLs.moved {C n d : String} {A : Nat → Prop} {u U : State} {H : Heap} (hvm : u.vm.Alike U.vm) (h : xLs C n d A u H) : xLs C n d A U H := by
  obtain ⟨c, k, i, f, a, cell, h1, h2, h3, h4, h5, h6, h7, h8, h9, h10⟩ := h
  obtain ⟨k', hi', he⟩ := State.fieldFound?_setVm hvm h2
  exact ⟨c, k', i, f, a, cell, by rw [hvm.findClass]; exact h1, hi', h3, by rw [he]; exact h4, h5, h6, h7, h8, by rw [he]; exact h9, h10⟩
theorem xLs.kept {C n d : String} {A : Nat → Prop} {U : State} {H H1 : Heap} (h : xLs C n d A U H) (hq : ∀ a : Nat, a < H.size → ¬ A a → H1[a]? = H[a]?) : xLs C n d A U H1 := by
  obtain ⟨c, k, i, f, a, cell, h1, h2, h3, h4, h5, h6, h7, h8, h9, h10⟩ := h
  exact ⟨c, k, i, f, a, cell, h1, h2, h3, h4, by rw [hq a (Array.getElem?_eq_some_iff.mp h5).1 h10]; exact h5, h6, h7, h8, h9, h10⟩
theorem declA {x : MethodName} {s U : State} (hvm : s.vm.Alike U.vm) (hZ : va_Nw (.declares x) s) : va_Nw (.declares x) U := va_tabs rfl (rfl : (s.setVm U.vm).vm = U.vm) (by rw [Cond.declares_setVm hvm]; exact hZ)
def xL3 (U : State) : Prop := va_Nw (.declares (Bundle.initS xRT)) U ∧ va_Nw (.declares (Bundle.initS xEX)) U ∧ va_Nw (.declares (Bundle.initS Bundle.tN)) U
theorem xL3.moved {s U : State} (hvm : s.vm.Alike U.vm) (h : xL3 s) : xL3 U := ⟨declA hvm h.1, declA hvm h.2.1, declA hvm h.2.2⟩
def xL2 (E : xE) (U : State) : Prop := (xLs Bundle.tN "UNASSIGNED_STACK" Bundle.steD (xA E) U U.heap ∧ xLs Bundle.tN "SUPPRESSED_SENTINEL" Bundle.listD (xA E) U U.heap) ∧ xL3 U
theorem xL2.go {E : xE} {s U : State} {H : Heap} {locs : List Loc} (hvm : s.vm.Alike U.vm) (hS : va_S (xA E) s.heap H locs) (hU : U.heap = H) (h : xL2 E s) : xL2 E U := by
  unfold xL2
  rw [hU]
  exact ⟨⟨(h.1.1.moved hvm).kept (fun a h1 h2 => hS.2.1 a h1 h2), (h.1.2.moved hvm).kept (fun a h1 h2 => hS.2.1 a h1 h2)⟩, h.2.moved hvm⟩
/-- a contract's start where a throw may come -/
def xPt (E : xE) (as : List xV) (σ : xW) : Array Value → State → Prop := fun a U => xP E as 155 σ a U ∧ xL2 E U
theorem xPt_blind {E : xE} {as : List xV} {σ : xW} : FrameBlind (xPt E as σ) := fun a U g mk h => ⟨xP_blind a U g mk h.1, ⟨h.2.1.1.moved (u := U) (U := U.calling g mk a) (Vm.Alike.refl U.vm), h.2.1.2.moved (u := U) (U := U.calling g mk a) (Vm.Alike.refl U.vm)⟩, h.2.2.moved (s := U) (U := U.calling g mk a) (Vm.Alike.refl U.vm)⟩
def xGT (σ : xW) : xGt := fun E _ l _ _ s _ _ below meth c mc ms Q H locs => xL2 E s ∧ l.flags = flags0 ∧ H = s.heap ∧ locs = [] ∧ Q = xTQ E σ below s mc ms ∧ meth.locks = false ∧ c.exceptionTable.isEmpty = true
theorem Zq_isRef {C n d : String} {A : Nat → Prop} {s : State} {args : Array Value} (h : va_Zq C n d A s s.heap) : (Cond.isRef (.static C n d)).before args s = true := by
  rcases h with ⟨cf, kf, fi, f, a, cell, h1, h2, h3, h4, h5, h6, h7, h8⟩ | ⟨t, cf, kf, fi, f, a, cell, h1, h2, h3, h4, h5, h6, h7, h8⟩ <;> simp [Cond.before, Cond.holds, Cond.value, Term.eval, State.fieldNamed?, h1, h2, h4, h5, h6, h7]
theorem w_145 : Cond.classLink RX10 145 xNS ∈ xTB := x_tb (tb5 50 (by decide +kernel)) rfl
theorem w_NS6 : Cond.instantiable xNS 6 ∈ xTB := x_tb (tb5 51 (by decide +kernel)) rfl
theorem w_NSi : Cond.initialized xNS ∈ xTB := x_tb (tb1 24 (by decide +kernel)) rfl
theorem xOA_g : ∀ w ∈ xOA.filter goodWord, w ∈ xTB := x_all _ [21, 1032, 1041, 1043, 1046, 1048, 1033, 1034, 32, 33, 1035, 1040, 1044, 1064, 1022, 1065, 1024, 1066, 1026, 1036, 1038, 1028, 1060, 1061, 1063, 1028, 1051, 1052, 1053, 1054, 1054, 1055, 1056, 1057, 1057, 1058, 1059, 1060, 1050, 1011, 1019, 1020, 1021, 1023, 1025, 1027, 1031, 1030, 1029] (by decide +kernel) (by decide +kernel)
theorem xOA_n : xOA.filter (fun w => !goodWord w) = [.laysStatic Bundle.tN "UNASSIGNED_STACK" Bundle.steD, .laysStatic Bundle.tN "SUPPRESSED_SENTINEL" Bundle.listD, .declares (Bundle.initS xRT), .declares (Bundle.initS xEX), .declares (Bundle.initS Bundle.tN), .castable xNS xNS] := by decide +kernel
theorem xOA_or (w : Cond) (hw : w ∈ xOA) : w ∈ xTB ∨ w = .laysStatic Bundle.tN "UNASSIGNED_STACK" Bundle.steD ∨ w = .laysStatic Bundle.tN "SUPPRESSED_SENTINEL" Bundle.listD ∨ w = .declares (Bundle.initS xRT) ∨ w = .declares (Bundle.initS xEX) ∨ w = .declares (Bundle.initS Bundle.tN) ∨ w = .castable xNS xNS := by
  by_cases h : goodWord w = true
  · exact Or.inl (xOA_g w (List.mem_filter.mpr ⟨hw, h⟩))
  · have q : w ∈ xOA.filter (fun w => !goodWord w) := List.mem_filter.mpr ⟨hw, by simpa using h⟩
    rw [xOA_n] at q
    simp only [List.mem_cons, List.not_mem_nil, or_false] at q
    exact Or.inr q
theorem cast_NS {args : Array Value} {s : State} (h : (Cond.instantiable xNS 6).before args s = true) : (Cond.castable xNS xNS).before args s = true := by
  obtain ⟨cX, kX, h1, h2, h3, -⟩ := Cond.instantiable_spec h
  have ha : s.vm.assignable cX cX = true := by simp [Vm.assignable, Vm.assignableAux, h2, h3, Vm.isSubclass, Vm.isSubclassAux]
  simp [Cond.before, Cond.holds, Cond.value, h1, ha]
theorem no_traces {l : Launch} {e : Env} (ha : l.admits e) (hf : l.flags = flags0) : e.platform.stackTraces = false := by
  rw [ha.platform]
  show l.stackTraces = false
  unfold Launch.stackTraces
  rw [hf]
  decide +kernel
theorem no_cover {c : Code} (h : c.exceptionTable.isEmpty = true) (pc : Nat) : ∀ x ∈ c.exceptionTable.toList, covers x pc = false := by
  intro x hx
  have e : c.exceptionTable.toList = [] := by simpa using h
  rw [e] at hx
  cases hx
section ZT
variable {d bc bs : Nat} {Y : xMD} {pc : Nat} {L S : List xV} {σ : xW} {K K' : List xV → Nat → xW → Prop}
theorem z_throw0 {E : xE} {p : Program} {l : Launch} {e : Env} {R : Room} {s : State} {m : MethodId} {args : Array Value} {below : List Frame} {meth : Method} {c : Code} {mc ms : Nat} {H1 : Heap} {cells slots pc' tx : Nat} {ls : Array Slot} {cX : ClassId} {kC : Class}
    (Fx : p.tables.exec = Jvm.exec) (Fo : s.vm.findClass RX10 = some m.cls) (Ft : ∀ w ∈ xTB, w.before args s = true) (FK : xK E s) (FL : xL2 E s) (hr : 6 ≤ R.frames ∧ 600 ≤ R.locals) (hsl : ls.size = c.maxLocals)
    (gF : l.flags = flags0) (gL : meth.locks = false) (gX : c.exceptionTable.isEmpty = true) (hcX : s.vm.findClass xNS = some cX) (hkC : s.vm.classes[cX]? = some kC)
    (e1 : H1[s.heap.size]? = some (blank cX kC)) (z1 : H1.size = s.heap.size + 1) (o1 : ∀ q, q < s.heap.size → H1[q]? = s.heap[q]?) (hH : xH E 155 σ s.heap)
    (hd6 : decode c.code pc' = .ok (.invokespecial 149, 3)) (hd9 : decode c.code (pc' + 3) = .ok (.athrow, 1)) (hc : cells ≤ mc) (hs : slots ≤ ms) :
    W p l e R s m args below meth c H1 [] cells slots (xTQ E σ below s mc ms) (F0 m pc' ls [.ref tx, .ref s.heap.size, .ref s.heap.size]) := by
  intro T hT X
  obtain ⟨U, a1, a2, a3, a4, a5, ⟨ce, b1, b2, b3⟩, b4, b5⟩ := xt_throw X Fx (no_traces X.admits gF) Fo (fun w hw => by
      rcases xOA_or w hw with h | rfl | rfl | rfl | rfl | rfl | rfl
      · exact Ft w h
      · exact FL.1.1.use
      · exact FL.1.2.use
      · exact FL.2.1
      · exact FL.2.2.1
      · exact FL.2.2.2
      · exact cast_NS (Ft _ w_NS6)) (fun w hw => by
      rcases List.mem_cons.mp hw with rfl | hw
      · exact Zq_isRef FK.2.2.2.2.2.2.1
      · rcases List.mem_cons.mp hw with rfl | hw
        · exact Zq_isRef FK.2.2.2.2.2.2.2
        · cases hw) hcX hkC (by rw [hT]; exact e1) (Nat.le_refl _) (msg := .ref tx) rfl (g := F0 m pc' ls [.ref tx, .ref s.heap.size, .ref s.heap.size]) rfl hsl rfl rfl (rest := []) rfl hd6 hd9 (no_cover gX _) (by omega) (by
        have : 2 * (F0 m pc' ls [Value.ref tx, .ref s.heap.size, .ref s.heap.size]).monitorRoom + ([Value.ref s.heap.size].map fun v => v.category).sum ≤ 8 := lv_room (show ([Value.ref s.heap.size].map fun v => v.category).sum ≤ 8 from (by decide : 1 ≤ 8))
        omega) gL
  have hold : ∀ q, q < s.heap.size → U.heap[q]? = s.heap[q]? := fun q hq => by rw [b4 q (Nat.ne_of_lt hq), hT]; exact o1 q hq
  have hsz : s.heap.size < U.heap.size := (Array.getElem?_eq_some_iff.mp b1).1
  refine ⟨U, a1, s.heap.size, a2, a3, ⟨⟨fun k x hx => ?_, Or.inl rfl, ?_⟩, ⟨by omega, fun q hq _ => hold q hq⟩, ce, cX, b1, b2, b3, hcX, b5, by have := hH.2.2; omega⟩, a4, a5.weaken (fun y hy _ => by cases hy) hc hs⟩
  · exact (hH.1.kept (fun k x hx => hold x.1 ((hH.1 k x hx).lt))) k x hx
  · have := hH.2.2; omega
theorem z_throw {k i : Nat} {q : String × Nat × String × List Int} (hY : Y.1.cls = RX10) (hd0 : decode Y.2.1 pc = .ok (.new 145, 3)) (hd1 : decode Y.2.1 (pc + 3) = .ok (.dup, 1)) (hd2 : decode Y.2.1 (pc + 4) = .ok (.ldc k, 2)) (hq : xLits[i]? = some q) (h1' : q.1 = RX10) (h2' : q.2.1 = k)
    (hd6 : decode Y.2.1 (pc + 6) = .ok (.invokespecial 149, 3)) (hd9 : decode Y.2.1 (pc + 9) = .ok (.athrow, 1)) (hdd : 6 ≤ d) : xZ (xGT σ) d 1 6 Y pc L [] 155 σ K := by
  intro E p l e R s m args below meth c mc ms Q F H locs hG cells slots ls hH hS h1 h2 hl
  obtain ⟨FL, gF, rfl, rfl, rfl, gL, gX⟩ := hG
  obtain ⟨Fx, Fb, Fml, Fo, Ft, FK, ⟨Fr1, Fr2, Fr3, Fr4⟩, FE, -⟩ := id F
  rw [hY] at Fo
  obtain ⟨cX, kX, hcX, hkX, -⟩ := Cond.instantiable_spec (Ft _ w_NS6)
  refine W.newcK Fx Fb Fo (Ft _ w_145) (Ft _ w_NS6) (Ft _ w_NSi) rfl hd0 (by omega) (by omega) hcX rfl fun H1 kC hkC e1 z1 o1 => ?_
  have hR := (FK.2.2.1 i q hq).1
  rw [h1', h2'] at hR
  refine lv_dup Fx Fb hd1 rfl (va_ldcS Fx Fb Fo hR hd2 ?_)
  exact z_throw0 Fx Fo Ft FK FL ⟨by omega, by omega⟩ (by rw [Fml]; exact hl.1) gF gL gX hcX hkC e1 z1 o1 hH (by rw [Fb]; exact hd6) (by rw [Fb]; exact hd9) (by omega) (by omega)
theorem z_throwW {k i : Nat} {q : String × Nat × String × List Int} (hY : Y.1.cls = RX10) (hd0 : decode Y.2.1 pc = .ok (.new 145, 3)) (hd1 : decode Y.2.1 (pc + 3) = .ok (.dup, 1)) (hd2 : decode Y.2.1 (pc + 4) = .ok (.ldc_w k, 3)) (hq : xLits[i]? = some q) (h1' : q.1 = RX10) (h2' : q.2.1 = k)
    (hd6 : decode Y.2.1 (pc + 7) = .ok (.invokespecial 149, 3)) (hd9 : decode Y.2.1 (pc + 10) = .ok (.athrow, 1)) (hdd : 6 ≤ d) : xZ (xGT σ) d 1 6 Y pc L [] 155 σ K := by
  intro E p l e R s m args below meth c mc ms Q F H locs hG cells slots ls hH hS h1 h2 hl
  obtain ⟨FL, gF, rfl, rfl, rfl, gL, gX⟩ := hG
  obtain ⟨Fx, Fb, Fml, Fo, Ft, FK, ⟨Fr1, Fr2, Fr3, Fr4⟩, FE, -⟩ := id F
  rw [hY] at Fo
  obtain ⟨cX, kX, hcX, hkX, -⟩ := Cond.instantiable_spec (Ft _ w_NS6)
  refine W.newcK Fx Fb Fo (Ft _ w_145) (Ft _ w_NS6) (Ft _ w_NSi) rfl hd0 (by omega) (by omega) hcX rfl fun H1 kC hkC e1 z1 o1 => ?_
  have hR := (FK.2.2.1 i q hq).1
  rw [h1', h2'] at hR
  refine lv_dup Fx Fb hd1 rfl ?_
  intro T hT X
  obtain ⟨t, a1, b1⟩ := (z_throw0 (mc := mc) (ms := ms) (pc' := pc + 7) (tx := E.2.1 i) (ls := ls) Fx Fo Ft FK FL ⟨by omega, by omega⟩ (by rw [Fml]; exact hl.1) gF gL gX hcX hkC e1 z1 o1 hH (by rw [Fb]; exact hd6) (by rw [Fb]; exact hd9) (by omega) (by omega)) T hT X
  exact ⟨t, x_ldcw X Fx Fo hR.1 hR.2 (g := F0 m (pc + 4) ls [.ref s.heap.size, .ref s.heap.size]) rfl (by rw [Fb]; exact hd2) t a1, b1⟩
/-- from the walk to the contract of a throw -/
def xThr (l : Launch) (d : Nat) (Y : xMD) (as : List xV) (σ : xW) : Prop := ∀ E : xE, MetFree l Y.1 (headSpec (Cond.code Y.1 Y.2.1 Y.2.2.1 Y.2.2.2 :: xTB) (xrm d 1 6)) (xPt E as σ) (fun _ _ _ _ _ => True) (fun _ st o t => ∃ z, o = .threw z ∧
  (xH E 155 σ t.heap ∧ va_F (xA E) st t ∧ ∃ (ce : Cell) (cX : ClassId), t.heap[z]? = some ce ∧ ce.vm = .none ∧ ce.cls = cX ∧ st.vm.findClass xNS = some cX ∧ st.vm.assignable cX cX = true ∧ E.1 ≤ z) ∧ st.WarmedH t.vm ∧ st.sameButNew ({ t with vm := st.vm } : State) [] 1 6)
theorem xThr.of {l : Launch} {as : List xV} (L : List xV) (hfl : l.flags = flags0) (hy : plainName Y.1.cls = true) (hlen : (xen as).length ≤ Y.2.2.1) (hL : xen as ++ List.replicate (Y.2.2.1 - (xen as).length) vX = L) (k : xZ (xGT σ) d 1 6 Y 0 L [] 155 σ (fun _ _ _ => False)) : xThr l d Y as σ := by
  intro E
  refine MetFree.of_bodyS (code := Y.2.1) (maxLocals := Y.2.2.1) (ret := Y.2.2.2) hy ?_ ?_
  · intro args s m h hn
    obtain ⟨meth, c, h1, h2, h3, h4, h5, h6, -, -⟩ := Cond.code_spec hn (atoms_spec (ws := Cond.code Y.1 Y.2.1 Y.2.2.1 Y.2.2.2 :: xTB) h _ List.mem_cons_self)
    exact ⟨meth, c, h1, h2, h3, h4, h5, h6⟩
  · intro p e s m args below meth c s₁ B hml hv _
    obtain ⟨⟨rfl, hH, hK⟩, hL2⟩ := hv
    have hts : ∀ w ∈ Cond.code Y.1 Y.2.1 Y.2.2.1 Y.2.2.2 :: xTB, w.before ((as.map (xr E)).toArray) s = true := atoms_spec (ws := Cond.code Y.1 Y.2.1 Y.2.2.1 Y.2.2.2 :: xTB) B.pre
    have hl := lv_entry (as.map (xr E)) (n := Y.2.2.1) (by rw [xen_len]; exact hlen)
    rw [lg_entry_eq]
    generalize (lg_sl (as.map (xr E)) ++ List.replicate (Y.2.2.1 - (lg_sl (as.map (xr E))).length) Slot.unset).toArray = ls at hl ⊢
    have hlL : lv_has ls Y.2.2.1 (xl E 0 L) := lv_has_mono hl (by rw [← hL]; exact xen_args _ as 0)
    have hsz : E.1 ≤ s.heap.size := Nat.le_trans (Nat.le_add_right _ _) hH.2.2
    have hh0 : s₁.heap = s.heap := by rw [B.state]; rfl
    obtain ⟨t, a1, z, b1, b2, b3⟩ := k E p l e (xrm d 1 6) s m _ below meth c 1 6 (xTQ E σ below s 1 6) ⟨B.exec, B.bytes, hml, findClass_of_methodNamed B.named, fun w hw => hts w (List.mem_cons_of_mem _ hw), hK, ⟨Nat.le_refl _, Nat.le_refl _, Nat.le_refl _, Nat.le_refl _⟩, hsz, fun r n' σ' pc' ls' H locs cells slots hk => hk.elim⟩ s.heap [] ⟨hL2, hfl, rfl, rfl, rfl, B.notSynchronized, BodyLoose.noHandlers B (hts _ List.mem_cons_self)⟩ 0 0 ls hH va_S.rf (Nat.le_of_eq (Nat.zero_add _)) (Nat.le_of_eq (Nat.zero_add _)) hlL s₁ hh0 (Stand.of_body B)
    exact ⟨t, .threw z, a1, b1, b2, z, rfl, b3⟩
end ZT
