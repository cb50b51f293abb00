/-! the law's own three: called, caught -/
section CATCH
variable {p : Program} {l : Launch} {e : Env} {R : Room} {s : State} {m : MethodId} {args : Array Value} {below : List Frame} {meth : Method} {c : Code} {T : State} {locs : List Loc} {cells slots : Nat}
theorem x_stepT {s0 : State} {a : Addr} {f : JFrame} {r : List Frame} {x : ExceptionTableEntry} {code : Code} {cc : ClassId} {cell : Cell} {vm' : Vm} (hm : s0.vm.method? f.method = some meth) (hc : meth.code = some code) (ht : code.exceptionTable.toList = [x]) (hx : covers x f.pc = true) (h0 : x.catchType ≠ 0)
    (hg : (Jvm.resolveClass f.method.cls x.catchType).Gives e.toSetting s0.vm (.ok cc) vm') (hsz : vm'.classes.size ≤ s0.vm.classes.size) (hcell : s0.heap[a]? = some cell) (hobj : ∀ k, cell.vm ≠ .statics k) (hk : ∃ k, vm'.classes[cell.cls]? = some k) (hcl : ∃ k, vm'.classes[cc]? = some k) (hfit : vm'.assignable cell.cls cc = true) :
    (stepThrowing e s0 a (.java f :: r)).1 = (s0.setVm vm').setFrames (.java { f with pc := x.handlerPc, stack := [.ref a] } :: r) := by
  obtain ⟨ha, htb⟩ := hg.op (op := VmOp.resolveClass f.method.cls x.catchType) rfl
  have hcell' : (s0.setVm vm').heap[a]? = some cell := hcell
  simp only [covers] at hx
  have hfind : ∀ (Q : Handler → Pre) (Ec : CtlPost) (d : Bool) (acts : List Action), wp (findHandler f a) Q Ec e d acts s0 ↔ Q (.found x.handlerPc) d acts (s0.setVm vm') := by
    intro Q Ec d acts
    rw [W.findHandler_eq hm hc, ht]
    simp [findHandler.go, hx, h0, ha, htb, hsz, hcell, hcell', hobj, hk, hcl, hfit, VmOp.dirties, VmOp.acts]
  simp only [stepThrowing, searchFrame, vmDo]
  generalize hr : Sem.go _ e false [] s0 = res
  obtain ⟨as, rfl, hb⟩ := Sem.eq_ok_of hr (a := Handler.found x.handlerPc) (s' := s0.setVm vm') (acts' := []) (by simp [hfind _ _ _ _])
  rfl
theorem x_catch (X : Stand p l e R s m args below meth c T locs cells slots) {own C : String} {idx : Nat} (hown : s.vm.findClass own = some m.cls) (hcl : (Cond.classLink own idx C).before args s = true) (h0 : idx ≠ 0) {g : JFrame} (hg : g.method = m) {x : ExceptionTableEntry} (ht : c.exceptionTable.toList = [x]) (hct : x.catchType = idx) (hx : covers x g.pc = true)
    {a : Addr} {cell : Cell} (hcell : T.heap[a]? = some cell) (hobj : cell.vm = .none) (hcls : s.vm.findClass C = some cell.cls) (hasg : s.vm.assignable cell.cls cell.cls = true) :
    ∃ vm', Stand p l e R s m args below meth c (T.setVm vm') locs cells slots ∧ ∀ target, Steps p.tables e below ((T.setVm vm').setTop { g with pc := x.handlerPc, stack := [.ref a] }) target → Steps p.tables e below ((T.setTop g).pushFrame (.throwing a)) target := by
  subst hg
  subst hct
  have hpl : e.platform.magicAccessors = ({} : Platform).magicAccessors := by rw [X.admits.platform]
  obtain ⟨cc, hfc, hlk⟩ := Cond.classLink_spec hown hcl e.platform hpl
  obtain rfl : cell.cls = cc := Option.some.inj (hcls.symm.trans hfc)
  obtain ⟨hg₁, hw₁, hr₁⟩ := State.classEntry (e := e) X.warmed hlk
  have hszn : (T.vm.noted g.method.cls x.catchType (.cls cell.cls)).classes.size ≤ T.vm.classes.size := by simp [Vm.noted]
  generalize T.vm.noted g.method.cls x.catchType (.cls cell.cls) = vm₁ at hg₁ hw₁ hr₁ hszn
  refine ⟨vm₁, X.noted hw₁, fun target hrest => ?_⟩
  obtain ⟨kk, hkk⟩ := Vm.classAt_of_findClass hcls
  obtain ⟨k₁, hk₁, -⟩ := hw₁.alike.2.2 _ _ hkk
  have h := X.here
  obtain ⟨hgo, hw⟩ := h.throwing a
  refine Steps.head hgo hw ?_
  rw [stepThread_throwing (frames_entered h.top _), x_stepT (vm' := vm₁) (meth := meth) (code := c) (cell := cell) (cc := cell.cls) (by rw [Stand.throwing_vm]; exact X.method') X.code ht hx h0 (by rw [Stand.throwing_vm]; exact hg₁) (by rw [Stand.throwing_vm]; exact hszn) (by rw [Stand.throwing_heap]; exact hcell) (fun k => by rw [hobj]; simp) ⟨k₁, hk₁⟩ ⟨k₁, hk₁⟩ (by rw [hw₁.alike.assignable]; exact hasg)]
  obtain ⟨g₀, hg⟩ := Option.isSome_iff_exists.mp h.top
  obtain ⟨r, hr⟩ := State.topJava?_eq_some.mp hg
  have hr' : (T.setVm vm₁).frames = .java g₀ :: r := hr
  rw [State.setTop_of_frames _ hr'] at hrest
  rw [hr]
  have e1 : (((T.setTop g).pushFrame (.throwing a)).setVm vm₁).setFrames (.java { g with pc := x.handlerPc, stack := [.ref a] } :: (Frame.java g₀ :: r).tail) = (T.setVm vm₁).setFrames (.java { g with pc := x.handlerPc, stack := [.ref a] } :: r) := by
    rw [State.pushFrame, State.setTop_of_frames _ hr, State.setFrames_setFrames]
    show ((T.setFrames _).setVm vm₁).setFrames _ = _
    rw [show (T.setFrames (.throwing a :: (T.setFrames (.java g :: r)).frames)).setVm vm₁ = (T.setVm vm₁).setFrames (.throwing a :: (T.setFrames (.java g :: r)).frames) from rfl, State.setFrames_setFrames]
    rfl
  rw [e1]
  exact hrest
end CATCH
def xGC (hs : List (Nat × Nat × Nat × Nat)) : xGt := fun E _ l _ _ s _ _ _ _ c _ _ _ _ _ => (l.flags = flags0 ∧ xL2 E s) ∧ c.exceptionTable.toList.map (fun h => (h.startPc, h.endPc, h.handlerPc, h.catchType)) = hs
theorem xGC_s {hs : List (Nat × Nat × Nat × Nat)} : xGs (xGC hs) := fun _ _ _ _ _ _ _ _ _ _ _ _ _ _ _ _ _ _ h => h
theorem w_L13 : Cond.classLink RL 13 xNS ∈ xTB := x_tb (tb5 45 (by decide +kernel)) rfl
def xTo (E : xE) (σ : xW) (st : State) (o : Outcome) (t : State) : Prop := ∃ z, o = .threw z ∧
  (xH E 155 σ t.heap ∧ va_F (xA E) st t ∧ ∃ (ce : Cell) (cX : ClassId), t.heap[z]? = some ce ∧ ce.vm = .none ∧ ce.cls = cX ∧ st.vm.findClass xNS = some cX ∧ st.vm.assignable cX cX = true ∧ E.1 ≤ z) ∧ st.WarmedH t.vm ∧ st.sameButNew ({ t with vm := st.vm } : State) [] 1 6
section ZC
variable {d bc bs : Nat} {Y : xMD} {pc : Nat} {L S : List xV} {σ : xW} {K : List xV → Nat → xW → Prop}
theorem z_callT {c : Int} {as : List xV} {i ci na d' a0 a1 a2 : Nat} {Y' : xMD} (hd : decode Y.2.1 pc = .ok (.invokevirtual i, 3)) (hY : Y.1.cls = RL) (hlk : Cond.methodLink RL i Y'.1 ∈ xTB) (hmy : xMY Y' na) (m5 : Cond.instanceMethod Y'.1 ∈ xTB) (m6 : Cond.selects Y'.1.cls Y'.1 Y'.1 ∈ xTB) (m7 : (xcls[ci]?).map (fun q => q.1) = some Y'.1.cls) (hs : xob 155 c ci = true) (hT : ∀ l : Launch, l.flags = flags0 → xThr l d' Y' (vR c :: as) σ) (hna : as.length = na) (hdd : d' + 1 ≤ d) (hrest : (S.map (fun v => if v.1 = 1 then 2 else 1)).sum ≤ 8)
    (hin : a0 ≤ pc ∧ pc < a1) (k : ∀ x : Int, 0 ≤ x → xZ (xGC [(a0, a1, a2, 13)]) d bc bs Y a2 L [vR x] 155 σ K) : xZ (xGC [(a0, a1, a2, 13)]) d (bc + 1) (bs + 6) Y pc L (as.reverse ++ vR c :: S) 155 σ K := by
  intro E p l e R s m args below meth c0 mc ms Q F H locs hG cells slots ls hH hS h1 h2 hl
  obtain ⟨⟨gF, gL2⟩, gX⟩ := id hG
  obtain ⟨m2, m3, m4, m4b⟩ := hmy
  obtain ⟨s0, s1, s2, s3⟩ := xob_spec hs
  obtain ⟨Fx, Fb, Fml, Fo, Ft, FK, ⟨Fr1, Fr2, Fr3, Fr4⟩, FE, -⟩ := id F
  rw [hY] at Fo
  have he := xp_get (E := E) (n := 155) (σ := σ) s0 s1
  rw [xe_obj s2, s3] at he
  obtain ⟨rr, q1, cell, q2, q3, q4, -⟩ := hH.1 _ _ he
  obtain ⟨-, hfc, -⟩ := FK.1.1 ci _ q1
  rw [q1] at m7
  have hrr : rr.1 = Y'.1.cls := Option.some.inj m7
  have hcls : s.vm.findClass Y'.1.cls = some cell.cls := by rw [← hrr, q3]; exact hfc
  have hst : ((as.reverse ++ vR c :: S).map (xr E)) = (as.map (xr E)).reverse ++ .ref (E.1 + c.toNat) :: S.map (xr E) := by rw [List.map_append, List.map_reverse, List.map_cons, xr_R s0]
  have hRest : 2 * (F0 m pc ls (S.map (xr E))).monitorRoom + ((S.map (xr E)).map fun v => v.category).sum ≤ 8 := lv_room (by rw [xcat]; exact hrest)
  intro T hT0 X
  obtain ⟨mk, methM, hnamed, hmethM, hstM, habM⟩ := Cond.instanceMethod_spec (Ft _ m5)
  obtain ⟨methM', cM, hmethM', hcM, -, hlM, -, -, -, hsigM⟩ := Cond.code_spec hnamed (Ft _ m3)
  cases hmethM.symm.trans hmethM'
  obtain ⟨c2, r2, m2', p1, p2, p3, p4, kP, hkP, hkPi⟩ := Cond.selects_spec (Ft _ m6)
  cases hcls.symm.trans p1
  cases (State.methodFound?_of_named hnamed ⟨m4.1, m4.2.1⟩).symm.trans p2
  cases hnamed.symm.trans p3
  have hselP : selectMethod e.platform s.vm cell.cls mk = .method mk := by rw [Launch.admits_selectMethod X.admits]; exact p4
  have hlenA : (as.map (xr E)).length = methM.sig.parameters.length := by
    have := m4.2.2
    rw [hsigM] at this
    rw [List.length_map, hna]
    exact (Option.some.inj this).symm
  obtain ⟨vm₁, X₁, hstep₁⟩ := X.invokevirtual Fx Fo (Ft _ hlk) hnamed hmethM hstM hkP hkPi ⟨m4.1, m4.2.1⟩ (a := E.1 + c.toNat) (cell := cell) (by rw [hT0]; exact q2)
    (fun z h => by rw [q4] at h; cases h) hselP hmethM habM hkP hkPi (g := F0 m pc ls ((as.reverse ++ vR c :: S).map (xr E))) rfl (argsL := as.map (xr E)) (rest := S.map (xr E)) hlenA hst (by rw [Fb]; exact hd)
  have h : At (T.setVm vm₁) m c0 below := X₁.here
  have hn₁ : (T.setVm vm₁).methodNamed? Y'.1 = some mk := X₁.named hnamed
  obtain ⟨methY, cY, hmY, hcY, -, hlY, -, -, -, -⟩ := Cond.code_spec hn₁ (word_at (a' := (Value.ref (E.1 + c.toNat) :: as.map (xr E)).toArray) X₁.warmed (good_of_word (List.mem_filter.mp m3).2) (Ft _ m3))
  obtain ⟨kY, hkY, -⟩ := className_of_methodNamed hn₁
  have hinitY : kY.init = .initialized := Cond.initialized_spec (findClass_of_methodNamed hn₁) hkY (word_at (a' := (Value.ref (E.1 + c.toNat) :: as.map (xr E)).toArray) X₁.warmed (good_of_word (List.mem_filter.mp m2).2) (Ft _ m2))
  have happ : (headSpec (Cond.code Y'.1 Y'.2.1 Y'.2.2.1 Y'.2.2.2 :: xTB) (xrm d' 1 6)).appliesLoose Y'.1 e.platform ((T.setVm vm₁).calling (F0 m pc ls (S.map (xr E))) mk (Value.ref (E.1 + c.toNat) :: as.map (xr E)).toArray) = true :=
    Spec.appliesLoose_calling (g := F0 m pc ls (S.map (xr E))) h (by rw [Fb]; exact hd) hn₁ hkY hinitY
      (X₁.room_calling (g := F0 m pc ls (S.map (xr E))) (R' := xrm d' 1 6) (by rw [Fml]; exact hl.1) hmY hcY (Nat.le_trans hdd Fr1) (by rw [hlY]; show 2 * (F0 m pc ls (S.map (xr E))).monitorRoom + ((S.map (xr E)).map fun v => v.category).sum + (Y'.2.2.1 + 11) + 100 * d' ≤ R.locals; omega) (by show cells + 1 ≤ R.cells; omega) (by show slots + 6 ≤ R.slots; omega))
      (atoms_intro fun w hw => word_at X₁.warmed (good_of_word (List.mem_filter.mp (show w ∈ xTB by rcases List.mem_cons.mp hw with rfl | hw; exact m3; exact hw)).2) (Ft _ (by rcases List.mem_cons.mp hw with rfl | hw; exact m3; exact hw)))
  obtain ⟨mid, hmid⟩ := h.above
  have hfr : ((T.setVm vm₁).setTop (F0 m pc ls (S.map (xr E)))).frames = (.java (F0 m pc ls (S.map (xr E))) :: mid) ++ below := by rw [State.frames_setTop' _ h.top, hmid]; rfl
  have hP : xPt E (vR c :: as) σ (Value.ref (E.1 + c.toNat) :: as.map (xr E)).toArray ((T.setVm vm₁).calling (F0 m pc ls (S.map (xr E))) mk (Value.ref (E.1 + c.toNat) :: as.map (xr E)).toArray) :=
    xPt_blind _ _ _ _ ⟨⟨by rw [List.map_cons, xr_R s0], by show xH E 155 σ T.heap; rw [hT0]; exact hH, xK_warm X₁.warmed hS hT0 FK⟩, gL2.go X₁.warmed.alike hS hT0⟩
  obtain ⟨o, s₂, hsteps, -, hend, hq0⟩ := Steps.callFree (hT l gF E) p X₁.admits X₁.cas X₁.clock (acts := []) hfr happ hP trivial
  have hq1 : xTo E σ ((T.setVm vm₁).calling (F0 m pc ls (S.map (xr E))) mk (Value.ref (E.1 + c.toNat) :: as.map (xr E)).toArray) o s₂ := hq0
  obtain ⟨z, rfl, ⟨hHt, hFt, ce, cX, y1, y2, y3, y4, y5, y6⟩, hWt, hsm⟩ := hq1
  rw [State.frames_setTop' _ h.top] at hend
  obtain ⟨g₀, hg0⟩ := Option.isSome_iff_exists.mp h.top
  obtain ⟨r, hr⟩ := State.topJava?_eq_some.mp hg0
  obtain ⟨z1, z2, z3, z4, z5, z6⟩ := id hsm
  have hf₂ : s₂.frames = .throwing z :: .java (F0 m pc ls (S.map (xr E))) :: (T.setVm vm₁).frames.tail := hend
  have e3 : s₂ = ({ ((T.setVm vm₁).calling (F0 m pc ls (S.map (xr E))) mk (Value.ref (E.1 + c.toNat) :: as.map (xr E)).toArray).setFrames s₂.frames with heap := s₂.heap, slotsUsed := s₂.slotsUsed } : State).setVm s₂.vm := by
    have q : s₂ = ({ s₂ with vm := ((T.setVm vm₁).calling (F0 m pc ls (S.map (xr E))) mk (Value.ref (E.1 + c.toNat) :: as.map (xr E)).toArray).vm } : State).setVm s₂.vm := rfl
    rw [show _ = _ from z1] at q
    exact q
  have hs₂ : s₂ = ((({ T.setVm vm₁ with heap := s₂.heap, slotsUsed := s₂.slotsUsed } : State).setVm s₂.vm).setTop (F0 m pc ls (S.map (xr E)))).pushFrame (.throwing z) := by
    have hr' : (({ T.setVm vm₁ with heap := s₂.heap, slotsUsed := s₂.slotsUsed } : State).setVm s₂.vm).frames = .java g₀ :: r := hr
    refine e3.trans ?_
    rw [hf₂, State.calling_eq h.top, State.setFrames_setFrames, State.pushFrame, State.frames_setTop _ hr', State.setTop_of_frames _ hr', State.setFrames_setFrames, hr]
    rfl
  have hW' : (T.setVm vm₁).WarmedH s₂.vm := hWt
  have hsame : (T.setVm vm₁).sameButNew ({ T.setVm vm₁ with heap := s₂.heap, slotsUsed := s₂.slotsUsed } : State) [] 1 6 := by
    refine ⟨?_, z2, z3, z4, z5, z6⟩
    obtain ⟨t, ht, -⟩ := State.frames_cons hr
    show ({ T.setVm vm₁ with heap := s₂.heap, slotsUsed := s₂.slotsUsed } : State) = { (T.setVm vm₁).setFrames (T.setVm vm₁).frames with heap := s₂.heap, slotsUsed := s₂.slotsUsed }
    rw [State.setFrames_self ht]
  have X₂ : Stand p l e R s m args below meth c0 (({ T.setVm vm₁ with heap := s₂.heap, slotsUsed := s₂.slotsUsed } : State).setVm s₂.vm) (locs ++ []) (cells + 1) (slots + 6) :=
    ⟨X₁.admits, X₁.cas, X₁.clock, X₁.frames, X₁.room, X₁.hears, X₁.method, X₁.code, (X₁.here.setHeapUsed s₂.heap s₂.slotsUsed).setVm hW'.alike, X₁.tail, State.WarmedH.trans X₁.warmed hW', X₁.limits, X₁.bytes, X₁.same.trans (hsame.setVm s.vm)⟩
  rw [List.append_nil] at X₂
  subst y3
  have y4' : s.vm.findClass xNS = some ce.cls := by rw [← X₁.warmed.alike.findClass]; exact y4
  have y5' : s.vm.assignable ce.cls ce.cls = true := by rw [← X₁.warmed.alike.assignable]; exact y5
  obtain ⟨hx, hgx⟩ : ∃ x, c0.exceptionTable.toList = [x] ∧ (x.startPc, x.endPc, x.handlerPc, x.catchType) = (a0, a1, a2, 13) := by
    rcases hq : c0.exceptionTable.toList with _ | ⟨x, _ | ⟨x2, r2⟩⟩
    · rw [hq] at gX; simp at gX
    · rw [hq] at gX; exact ⟨x, rfl, by simpa using gX⟩
    · rw [hq] at gX; simp at gX
  obtain ⟨hgx1, hgx2⟩ := hgx
  simp only [Prod.mk.injEq] at hgx2
  obtain ⟨w1, w2, w3, w4⟩ := hgx2
  obtain ⟨vm₃, X₃, hstep₃⟩ := x_catch X₂ Fo (Ft _ w_L13) (by decide) (g := F0 m pc ls (S.map (xr E))) rfl hgx1 w4 (by show (decide _ && decide _) = true; rw [w1, w2]; simp; exact hin) (a := z) (cell := ce) y1 y2 y4' y5'
  have hzr : xr E (vR ((z - E.1 : Nat) : Int)) = .ref z := by rw [xr_R (Int.natCast_nonneg _), Int.toNat_natCast]; exact congrArg Value.ref (Nat.add_sub_of_le y6)
  have hh2 : ((T.setVm vm₁).calling (F0 m pc ls (S.map (xr E))) mk (Value.ref (E.1 + c.toNat) :: as.map (xr E)).toArray).heap = H := hT0
  obtain ⟨v1, v2⟩ := hFt
  rw [hh2] at v1 v2
  obtain ⟨t, a1', b1⟩ := k ((z - E.1 : Nat) : Int) (Int.natCast_nonneg _) E p l e R s m args below meth c0 mc ms Q F s₂.heap locs hG (cells + 1) (slots + 6) ls hHt ⟨Nat.le_trans hS.1 v1, fun q r1 r2 => (v2 q (Nat.lt_of_lt_of_le r1 hS.1) r2).trans (hS.2.1 q r1 r2), hS.2.2⟩ (by omega) (by omega) hl ((({ T.setVm vm₁ with heap := s₂.heap, slotsUsed := s₂.slotsUsed } : State).setVm s₂.vm).setVm vm₃) rfl X₃
  rw [List.map_cons, List.map_nil, hzr] at a1'
  refine ⟨t, hstep₁ _ fun acts => ?_, b1⟩
  rw [doInvoke_state]
  refine hsteps.trans ?_
  rw [hs₂]
  refine hstep₃ t ?_
  rw [w3]
  exact a1'
end ZC
