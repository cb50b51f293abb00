/-! contracts of methods with a table of handlers; calls of them -/
def xCw (d b1 b2 : Nat) (Y : xMD) (hs : List (Nat × Nat × Nat × Nat)) (as : List xV) (σ : xW) (K : List xV → Nat → xW → Prop) : Prop := ∀ (E : xE) (l : Launch), l.flags = flags0 → Met l Y.1 (Cond.codeWith Y.1 Y.2.1 Y.2.2.1 Y.2.2.2 hs :: xTB) (xrm d b1 b2) (xPt E as σ) (xQ E K) b1 b2 (xA E)
def xRo (E : xE) (K : List xV → Nat → xW → Prop) (b1 b2 : Nat) (st : State) (o : Outcome) (t : State) : Prop := ((∃ (r : List xV) (n : Nat) (σ : xW), o = .returned (r.head?.map (xr E)) ∧ r.length ≤ 1 ∧ K r n σ ∧ xH E n σ t.heap) ∧ va_F (xA E) st t) ∧ ∃ L, FrameEnd st o t L b1 b2 ∧ ∀ q ∈ L, xA E q.base
section ZW
variable {G : xGt} {d bc bs : Nat} {Y : xMD} {pc : Nat} {L S : List xV} {σ : xW} {K K' : List xV → Nat → xW → Prop} {hs : List (Nat × Nat × Nat × Nat)}
theorem xCw.of {as : List xV} (L : List xV) (hr : Y.2.2.2 = some .int) (hy : plainName Y.1.cls = true) (hlen : (xen as).length ≤ Y.2.2.1) (hL : xen as ++ List.replicate (Y.2.2.1 - (xen as).length) vX = L) (k : xZ (xGC hs) d bc bs Y 0 L [] 155 σ K) : xCw d bc bs Y hs as σ K := by
  intro E l hfl
  refine MetFree.of_bodyS (code := Y.2.1) (maxLocals := Y.2.2.1) (ret := Y.2.2.2) hy ?_ ?_
  · intro args s m h hn
    obtain ⟨m', meth, c, h0, h1, h2, h3, h4, -, h5, h6, -⟩ := Cond.codeWith_spec (atoms_spec (ws := Cond.codeWith Y.1 Y.2.1 Y.2.2.1 Y.2.2.2 hs :: xTB) h _ List.mem_cons_self)
    cases hn.symm.trans h0
    exact ⟨meth, c, h1, h2, h3, h4, h5, h6⟩
  · intro p e s m args below meth c s₁ B hml hv _
    obtain ⟨⟨rfl, hH, hK⟩, hL2⟩ := hv
    have hts : ∀ w ∈ Cond.codeWith Y.1 Y.2.1 Y.2.2.1 Y.2.2.2 hs :: xTB, w.before ((as.map (xr E)).toArray) s = true := atoms_spec (ws := Cond.codeWith Y.1 Y.2.1 Y.2.2.1 Y.2.2.2 hs :: xTB) B.pre
    have hl := lv_entry (as.map (xr E)) (n := Y.2.2.1) (by rw [xen_len]; exact hlen)
    rw [lg_entry_eq]
    generalize (lg_sl (as.map (xr E)) ++ List.replicate (Y.2.2.1 - (lg_sl (as.map (xr E))).length) Slot.unset).toArray = ls at hl ⊢
    have hlL : lv_has ls Y.2.2.1 (xl E 0 L) := lv_has_mono hl (by rw [← hL]; exact xen_args _ as 0)
    have hsz : E.1 ≤ s.heap.size := Nat.le_trans (Nat.le_add_right _ _) hH.2.2
    have hh0 : s₁.heap = s.heap := by rw [B.state]; rfl
    have htab : c.exceptionTable.toList.map (fun h => (h.startPc, h.endPc, h.handlerPc, h.catchType)) = hs := by
      obtain ⟨m', meth', c', h0, h1, h2, -, -, h5, -, -, -⟩ := Cond.codeWith_spec (hts _ List.mem_cons_self)
      cases B.named.symm.trans h0
      cases B.method.symm.trans h1
      cases (Stand.of_body B).code.symm.trans h2
      exact h5
    obtain ⟨t, a1, o, b1, b2, b3⟩ := k E p l e (xrm d bc bs) s m _ below meth c bc bs (MQ below (xQ E K) ((as.map (xr E)).toArray) s bc bs (xA E)) ⟨B.exec, B.bytes, hml, findClass_of_methodNamed B.named, fun w hw => hts w (List.mem_cons_of_mem _ hw), hK, ⟨Nat.le_refl _, Nat.le_refl _, Nat.le_refl _, Nat.le_refl _⟩, hsz, fun r n' σ' pc' ls' H locs cells slots hk hok hdg hH' hS' hc1 hc2 => by
      refine W.widen hc1 hc2 ?_
      rw [hr] at hok
      rcases r with _ | ⟨⟨t0, x⟩, _ | ⟨v2, r⟩⟩
      · exact absurd hok (by simp [xok])
      · have ht0 : t0 = 0 := hok
        subst ht0
        exact W.iret B.exec B.bytes (B.returns.trans hr) (fun t ht _ => ⟨⟨_, n', σ', rfl, by simp, hk, by rw [ht]; exact hH'⟩, hS'.F ht⟩) (x_locs hS') hdg B.notSynchronized
      · exact absurd hok (by simp [xok])⟩ s.heap [] ⟨⟨hfl, hL2⟩, htab⟩ 0 0 ls hH va_S.rf (Nat.le_of_eq (Nat.zero_add _)) (Nat.le_of_eq (Nat.zero_add _)) hlL s₁ hh0 (Stand.of_body B)
    exact ⟨t, o, a1, b1, b2, b3.1, b3.2⟩
def xGf (G : xGt) : Prop := ∀ E p l e R s m args below meth c mc ms Q H locs, G E p l e R s m args below meth c mc ms Q H locs → l.flags = flags0 ∧ xL2 E s
theorem z_callW (hGs : xGs G) (hGf : xGf G) {as : List xV} {i na d' b1 b2 : Nat} {Y' : xMD} (hd : decode Y.2.1 pc = .ok (.invokestatic i, 3)) (hlk : Cond.methodLink Y.1.cls i Y'.1 ∈ xTB) (hstt : Cond.static Y'.1 ∈ xTB) (hini : Cond.initialized Y'.1.cls ∈ xTB) (hcw : Cond.codeWith Y'.1 Y'.2.1 Y'.2.2.1 Y'.2.2.2 hs ∈ xTB) (m4 : Y'.1.cls ≠ "java/lang/invoke/MethodHandle" ∧ Y'.1.cls ≠ "java/lang/invoke/VarHandle" ∧ (parseMethodDescriptor Y'.1.desc).map (fun d => d.parameters.length) = some na) (m4b : Y'.2.2.1 ≤ 80) (hC : xCw d' b1 b2 Y' hs as σ K') (hna : as.length = na) (hdd : d' + 1 ≤ d) (hrest : (S.map (fun v => if v.1 = 1 then 2 else 1)).sum ≤ 8)
    (k : ∀ (r : List xV) (n' : Nat) (σ' : xW), r.length ≤ 1 → K' r n' σ' → xZ G d bc bs Y (pc + 3) L (r ++ S) n' σ' K) : xZ G d (bc + b1) (bs + b2) Y pc L (as.reverse ++ S) 155 σ K := by
  intro E p l e R s m args below meth c0 mc ms Q F H locs hG cells slots ls hH hS h1 h2 hl
  obtain ⟨Fx, Fb, Fml, Fo, Ft, FK, ⟨Fr1, Fr2, Fr3, Fr4⟩, FE, -⟩ := id F
  have hst : ((as.reverse ++ S).map (xr E)) = (as.map (xr E)).reverse ++ S.map (xr E) := by rw [List.map_append, List.map_reverse]
  have hRest : 2 * (F0 m pc ls (S.map (xr E))).monitorRoom + ((S.map (xr E)).map fun v => v.category).sum ≤ 8 := lv_room (by rw [xcat]; exact hrest)
  intro T hT0 X
  obtain ⟨mk, methM, cM, hnamed, hmethM, hcM, -, hlM, -, -, -, hsigM⟩ := Cond.codeWith_spec (Ft _ hcw)
  have hstatic : methM.isStatic = true := Cond.static_spec hnamed hmethM (Ft _ hstt)
  obtain ⟨kP, hkP, -⟩ := className_of_methodNamed hnamed
  have hinitP : kP.init = .initialized := Cond.initialized_spec (findClass_of_methodNamed hnamed) hkP (Ft _ hini)
  have hlenA : (as.map (xr E)).length = methM.sig.parameters.length := by
    have := m4.2.2
    rw [hsigM] at this
    rw [List.length_map, hna]
    exact (Option.some.inj this).symm
  obtain ⟨vm₁, X₁, hstep₁⟩ := X.invokestatic Fx Fo (Ft _ hlk) hnamed hmethM hstatic hkP hinitP ⟨m4.1, m4.2.1⟩ (g := F0 m pc ls ((as.reverse ++ S).map (xr E))) rfl (argsL := as.map (xr E)) (rest := S.map (xr E)) hlenA hst (by rw [Fb]; exact hd)
  have h : At (T.setVm vm₁) m c0 below := X₁.here
  have hn₁ : (T.setVm vm₁).methodNamed? Y'.1 = some mk := X₁.named hnamed
  obtain ⟨mk2, methY, cY, hn2, hmY, hcY, -, hlY, -, -, -, -⟩ := Cond.codeWith_spec (word_at (a' := (as.map (xr E)).toArray) X₁.warmed (good_of_word (List.mem_filter.mp hcw).2) (Ft _ hcw))
  cases hn₁.symm.trans hn2
  obtain ⟨kY, hkY, -⟩ := className_of_methodNamed hn₁
  have hinitY : kY.init = .initialized := Cond.initialized_spec (findClass_of_methodNamed hn₁) hkY (word_at (a' := (as.map (xr E)).toArray) X₁.warmed (good_of_word (List.mem_filter.mp hini).2) (Ft _ hini))
  have happ : (headSpec (Cond.codeWith Y'.1 Y'.2.1 Y'.2.2.1 Y'.2.2.2 hs :: xTB) (xrm d' b1 b2)).appliesLoose Y'.1 e.platform ((T.setVm vm₁).calling (F0 m pc ls (S.map (xr E))) mk (as.map (xr E)).toArray) = true :=
    Spec.appliesLoose_calling (g := F0 m pc ls (S.map (xr E))) h (by rw [Fb]; exact hd) hn₁ hkY hinitY
      (X₁.room_calling (g := F0 m pc ls (S.map (xr E))) (R' := xrm d' b1 b2) (by rw [Fml]; exact hl.1) hmY hcY (Nat.le_trans hdd Fr1) (by rw [hlY]; show 2 * (F0 m pc ls (S.map (xr E))).monitorRoom + ((S.map (xr E)).map fun v => v.category).sum + (Y'.2.2.1 + 11) + 100 * d' ≤ R.locals; omega) (by show cells + b1 ≤ R.cells; omega) (by show slots + b2 ≤ R.slots; omega))
      (atoms_intro fun w hw => word_at X₁.warmed (good_of_word (List.mem_filter.mp (show w ∈ xTB by rcases List.mem_cons.mp hw with rfl | hw; exact hcw; exact hw)).2) (Ft _ (by rcases List.mem_cons.mp hw with rfl | hw; exact hcw; exact hw)))
  obtain ⟨mid, hmid⟩ := h.above
  have hfr : ((T.setVm vm₁).setTop (F0 m pc ls (S.map (xr E)))).frames = (.java (F0 m pc ls (S.map (xr E))) :: mid) ++ below := by rw [State.frames_setTop' _ h.top, hmid]; rfl
  have hP : xPt E as σ (as.map (xr E)).toArray ((T.setVm vm₁).calling (F0 m pc ls (S.map (xr E))) mk (as.map (xr E)).toArray) :=
    xPt_blind _ _ _ _ ⟨⟨rfl, by show xH E 155 σ T.heap; rw [hT0]; exact hH, xK_warm X₁.warmed hS hT0 FK⟩, (hGf _ _ _ _ _ _ _ _ _ _ _ _ _ _ _ _ hG).2.go X₁.warmed.alike hS hT0⟩
  obtain ⟨o, s₂, hsteps, -, hend, hq0⟩ := Steps.callFree (hC E l (hGf _ _ _ _ _ _ _ _ _ _ _ _ _ _ _ _ hG).1) p X₁.admits X₁.cas X₁.clock (acts := []) hfr happ hP trivial
  have hq1 : xRo E K' b1 b2 ((T.setVm vm₁).calling (F0 m pc ls (S.map (xr E))) mk (as.map (xr E)).toArray) o s₂ := hq0
  obtain ⟨⟨⟨r, n', σ', hv, hl1, hk, hHt⟩, hFt⟩, Lw, ⟨-, hWt, hsm⟩, hLf⟩ := hq1
  subst hv
  rw [State.frames_setTop' _ h.top] at hend
  obtain ⟨c₂, i₂, len₂, hc₂, hd₂, hf₂⟩ := hend
  obtain ⟨g₀, hg0⟩ := Option.isSome_iff_exists.mp h.top
  obtain ⟨rr, hr⟩ := State.topJava?_eq_some.mp hg0
  obtain ⟨z1, z2, z3, z4, z5, z6⟩ := id hsm
  have hW' : (T.setVm vm₁).WarmedH s₂.vm := hWt
  have hcc : c₂ = c0 := by
    have q : s₂.code? m = (T.setVm vm₁).code? m := by rw [State.code?_eq, State.code?_eq, hW'.alike.method?]
    exact Option.some.inj (hc₂.symm.trans (q.trans h.code))
  subst hcc
  have hlen2 : len₂ = 3 := by
    have hd3 : decode c₂.code pc = .ok (.invokestatic i, 3) := by rw [Fb]; exact hd
    have hd₂ : decode c₂.code pc = .ok (i₂, len₂) := hd₂
    rw [hd3] at hd₂
    cases hd₂
    rfl
  subst hlen2
  have e3 : s₂ = ({ ((T.setVm vm₁).calling (F0 m pc ls (S.map (xr E))) mk (as.map (xr E)).toArray).setFrames s₂.frames with heap := s₂.heap, slotsUsed := s₂.slotsUsed } : State).setVm s₂.vm := by
    have q : s₂ = ({ s₂ with vm := ((T.setVm vm₁).calling (F0 m pc ls (S.map (xr E))) mk (as.map (xr E)).toArray).vm } : State).setVm s₂.vm := rfl
    rw [show _ = _ from z1] at q
    exact q
  have hs₂ : s₂ = (({ T.setVm vm₁ with heap := s₂.heap, slotsUsed := s₂.slotsUsed } : State).setVm s₂.vm).setTop (F0 m (pc + 3) ls ((r.head?.map (xr E)).toList ++ S.map (xr E))) := by
    have hr' : (({ T.setVm vm₁ with heap := s₂.heap, slotsUsed := s₂.slotsUsed } : State).setVm s₂.vm).frames = .java g₀ :: rr := hr
    refine e3.trans ?_
    rw [hf₂, State.calling_eq h.top, State.setFrames_setFrames, State.setTop_of_frames _ hr', hr]
    rfl
  have hsame : (T.setVm vm₁).sameButNew ({ T.setVm vm₁ with heap := s₂.heap, slotsUsed := s₂.slotsUsed } : State) Lw b1 b2 := by
    refine ⟨?_, z2, z3, z4, z5, z6⟩
    obtain ⟨t, ht, -⟩ := State.frames_cons hr
    show ({ T.setVm vm₁ with heap := s₂.heap, slotsUsed := s₂.slotsUsed } : State) = { (T.setVm vm₁).setFrames (T.setVm vm₁).frames with heap := s₂.heap, slotsUsed := s₂.slotsUsed }
    rw [State.setFrames_self ht]
  have X₂ : Stand p l e R s m args below meth c₂ (({ T.setVm vm₁ with heap := s₂.heap, slotsUsed := s₂.slotsUsed } : State).setVm s₂.vm) (locs ++ Lw) (cells + b1) (slots + b2) :=
    ⟨X₁.admits, X₁.cas, X₁.clock, X₁.frames, X₁.room, X₁.hears, X₁.method, X₁.code, (X₁.here.setHeapUsed s₂.heap s₂.slotsUsed).setVm hW'.alike, X₁.tail, State.WarmedH.trans X₁.warmed hW', X₁.limits, X₁.bytes, X₁.same.trans (hsame.setVm s.vm)⟩
  have hh2 : ((T.setVm vm₁).calling (F0 m pc ls (S.map (xr E))) mk (as.map (xr E)).toArray).heap = H := hT0
  obtain ⟨v1, v2⟩ := hFt
  rw [hh2] at v1 v2
  have e4 : (r.head?.map (xr E)).toList = r.map (xr E) := by
    rcases r with _ | ⟨x, _ | ⟨y, r⟩⟩
    · rfl
    · rfl
    · simp at hl1
  obtain ⟨t, a1', b1'⟩ := k r n' σ' hl1 hk E p l e R s m args below meth c₂ mc ms Q F s₂.heap (locs ++ Lw) (hGs _ _ _ _ _ _ _ _ _ _ _ _ _ _ _ _ _ _ hG) (cells + b1) (slots + b2) ls hHt ⟨Nat.le_trans hS.1 v1, fun q r1 r2 => (v2 q (Nat.lt_of_lt_of_le r1 hS.1) r2).trans (hS.2.1 q r1 r2), fun q hq => by
      rcases List.mem_append.mp hq with h | h
      · exact hS.2.2 q h
      · exact hLf q h⟩ (by omega) (by omega) hl (({ T.setVm vm₁ with heap := s₂.heap, slotsUsed := s₂.slotsUsed } : State).setVm s₂.vm) rfl X₂
  rw [List.map_append, ← e4] at a1'
  refine ⟨t, hstep₁ _ fun acts => ?_, b1'⟩
  rw [doInvoke_state]
  refine hsteps.trans ?_
  rw [hs₂]
  exact a1'
end ZW
abbrev mL_house : xMD := (yL_house, cL_house, 5, some .int)
abbrev mL_deed : xMD := (yL_deed, cL_deed, 5, some .int)
abbrev mL_row : xMD := (yL_row, cL_row, 4, some .int)
theorem dL_house_0 : decode cL_house 0 = .ok (.aload_n 3, 1) := by decide +kernel
theorem dL_house_1 : decode cL_house 1 = .ok (.iconst 0, 1) := by decide +kernel
theorem dL_house_2 : decode cL_house 2 = .ok (.aload_n 0, 1) := by decide +kernel
theorem dL_house_3 : decode cL_house 3 = .ok (.iload_n 1, 1) := by decide +kernel
theorem dL_house_4 : decode cL_house 4 = .ok (.iload_n 2, 1) := by decide +kernel
theorem dL_house_5 : decode cL_house 5 = .ok (.invokevirtual 7, 3) := by decide +kernel
theorem dL_house_8 : decode cL_house 8 = .ok (.i2l, 1) := by decide +kernel
theorem dL_house_9 : decode cL_house 9 = .ok (.lastore, 1) := by decide +kernel
theorem dL_house_10 : decode cL_house 10 = .ok (.goto 7, 3) := by decide +kernel
theorem dL_house_13 : decode cL_house 13 = .ok (.astore 4, 2) := by decide +kernel
theorem dL_house_15 : decode cL_house 15 = .ok (.iconst 1, 1) := by decide +kernel
theorem dL_house_16 : decode cL_house 16 = .ok (.ireturn, 1) := by decide +kernel
theorem dL_house_17 : decode cL_house 17 = .ok (.iconst 0, 1) := by decide +kernel
theorem dL_house_18 : decode cL_house 18 = .ok (.ireturn, 1) := by decide +kernel
theorem dL_deed_0 : decode cL_deed 0 = .ok (.aload_n 3, 1) := by decide +kernel
theorem dL_deed_1 : decode cL_deed 1 = .ok (.iconst 0, 1) := by decide +kernel
theorem dL_deed_2 : decode cL_deed 2 = .ok (.aload_n 0, 1) := by decide +kernel
theorem dL_deed_3 : decode cL_deed 3 = .ok (.iload_n 1, 1) := by decide +kernel
theorem dL_deed_4 : decode cL_deed 4 = .ok (.iload_n 2, 1) := by decide +kernel
theorem dL_deed_5 : decode cL_deed 5 = .ok (.invokevirtual 15, 3) := by decide +kernel
theorem dL_deed_8 : decode cL_deed 8 = .ok (.i2l, 1) := by decide +kernel
theorem dL_deed_9 : decode cL_deed 9 = .ok (.lastore, 1) := by decide +kernel
theorem dL_deed_10 : decode cL_deed 10 = .ok (.goto 7, 3) := by decide +kernel
theorem dL_deed_13 : decode cL_deed 13 = .ok (.astore 4, 2) := by decide +kernel
theorem dL_deed_15 : decode cL_deed 15 = .ok (.iconst 1, 1) := by decide +kernel
theorem dL_deed_16 : decode cL_deed 16 = .ok (.ireturn, 1) := by decide +kernel
theorem dL_deed_17 : decode cL_deed 17 = .ok (.iconst 0, 1) := by decide +kernel
theorem dL_deed_18 : decode cL_deed 18 = .ok (.ireturn, 1) := by decide +kernel
theorem dL_row_0 : decode cL_row 0 = .ok (.aload_n 2, 1) := by decide +kernel
theorem dL_row_1 : decode cL_row 1 = .ok (.iconst 0, 1) := by decide +kernel
theorem dL_row_2 : decode cL_row 2 = .ok (.aload_n 0, 1) := by decide +kernel
theorem dL_row_3 : decode cL_row 3 = .ok (.iload_n 1, 1) := by decide +kernel
theorem dL_row_4 : decode cL_row 4 = .ok (.invokevirtual 18, 3) := by decide +kernel
theorem dL_row_7 : decode cL_row 7 = .ok (.lastore, 1) := by decide +kernel
theorem dL_row_8 : decode cL_row 8 = .ok (.goto 6, 3) := by decide +kernel
theorem dL_row_11 : decode cL_row 11 = .ok (.astore_n 3, 1) := by decide +kernel
theorem dL_row_12 : decode cL_row 12 = .ok (.iconst 1, 1) := by decide +kernel
theorem dL_row_13 : decode cL_row 13 = .ok (.ireturn, 1) := by decide +kernel
theorem dL_row_14 : decode cL_row 14 = .ok (.iconst 0, 1) := by decide +kernel
theorem dL_row_15 : decode cL_row 15 = .ok (.ireturn, 1) := by decide +kernel
theorem L_house {a b : Int} {σ : xW} {q : Int × xW} (h : F_X10_house a b σ = some q) : xCw 8 1 6 mL_house [(0, 10, 13, 13)] [vR 0, vI a, vI b, vR 154] σ (xRv (vI 0) (xu q.2 154 0 (xw q.1))) := by
  refine xCw.of [vR 0, vI a, vI b, vR 154, vX] rfl (by decide +kernel) (Nat.le_of_ble_eq_true rfl) rfl ?_
  refine z_aln dL_house_0 rfl rfl (by decide) (z_ic dL_house_1 (z_aln dL_house_2 rfl rfl (by decide) (z_iln dL_house_3 rfl rfl (z_iln dL_house_4 rfl rfl ?_))))
  refine z_callV xGC_s (c := 0) (as := [vI a, vI b]) (S := [vI 0, vR 154]) dL_house_5 ml_L_7 rfl (s_X10_house h) rfl (by decide) (by decide) (fun r n' σ' _ hK => ?_)
  obtain ⟨rfl, rfl, rfl⟩ := hK
  refine z_wi2l dL_house_8 rfl (z_last xGC_s 1 dL_house_9 rfl ⟨by decide, by decide⟩ (by decide) (z_goto dL_house_10 (tgt := 17) rfl (z_ic dL_house_17 (z_of (g_retI rfl dL_house_18 ⟨rfl, rfl, rfl⟩)))))
theorem Lt_house {a b : Int} {σ : xW} (ha : I32 a) (hb : I32 b) (hn : I32 (σ 0 14)) (h : ¬ ((0 ≤ a ∧ a < σ 0 14) ∧ (0 ≤ b ∧ b ≤ 5))) : xCw 8 1 6 mL_house [(0, 10, 13, 13)] [vR 0, vI a, vI b, vR 154] σ (xRv (vI 1) σ) := by
  refine xCw.of [vR 0, vI a, vI b, vR 154, vX] rfl (by decide +kernel) (Nat.le_of_ble_eq_true rfl) rfl ?_
  refine z_aln dL_house_0 rfl rfl (by decide) (z_ic dL_house_1 (z_aln dL_house_2 rfl rfl (by decide) (z_iln dL_house_3 rfl rfl (z_iln dL_house_4 rfl rfl ?_))))
  refine z_callT (bc := 0) (bs := 0) (c := 0) (ci := 10) (as := [vI a, vI b]) (S := [vI 0, vR 154]) dL_house_5 rfl (x_tb (tb5 46 (by decide +kernel)) rfl) my_X10_house mi_X10_house me_X10_house rfl rfl (fun l hl => t_house hl ha hb hn h) rfl (by decide) (by decide) ⟨by decide, by decide⟩ (fun x hx => ?_)
  exact z_ast_4 dL_house_13 hx (by decide) rfl (z_ic dL_house_15 (z_of (g_retI rfl dL_house_16 ⟨rfl, rfl, rfl⟩)))
theorem L_deed {a b : Int} {σ : xW} {q : Int × xW} (h : F_X10_deed a b σ = some q) : xCw 8 1 6 mL_deed [(0, 10, 13, 13)] [vR 0, vI a, vI b, vR 154] σ (xRv (vI 0) (xu q.2 154 0 (xw q.1))) := by
  refine xCw.of [vR 0, vI a, vI b, vR 154, vX] rfl (by decide +kernel) (Nat.le_of_ble_eq_true rfl) rfl ?_
  refine z_aln dL_deed_0 rfl rfl (by decide) (z_ic dL_deed_1 (z_aln dL_deed_2 rfl rfl (by decide) (z_iln dL_deed_3 rfl rfl (z_iln dL_deed_4 rfl rfl ?_))))
  refine z_callV xGC_s (c := 0) (as := [vI a, vI b]) (S := [vI 0, vR 154]) dL_deed_5 ml_L_15 rfl (s_X10_deed h) rfl (by decide) (by decide) (fun r n' σ' _ hK => ?_)
  obtain ⟨rfl, rfl, rfl⟩ := hK
  refine z_wi2l dL_deed_8 rfl (z_last xGC_s 1 dL_deed_9 rfl ⟨by decide, by decide⟩ (by decide) (z_goto dL_deed_10 (tgt := 17) rfl (z_ic dL_deed_17 (z_of (g_retI rfl dL_deed_18 ⟨rfl, rfl, rfl⟩)))))
theorem Lt_deed {a b : Int} {σ : xW} (ha : I32 a) (hb : I32 b) (hn : I32 (σ 92 0)) (h : ¬ ((0 ≤ a ∧ a < σ 92 0) ∧ (0 ≤ b ∧ b ≤ 4))) : xCw 8 1 6 mL_deed [(0, 10, 13, 13)] [vR 0, vI a, vI b, vR 154] σ (xRv (vI 1) σ) := by
  refine xCw.of [vR 0, vI a, vI b, vR 154, vX] rfl (by decide +kernel) (Nat.le_of_ble_eq_true rfl) rfl ?_
  refine z_aln dL_deed_0 rfl rfl (by decide) (z_ic dL_deed_1 (z_aln dL_deed_2 rfl rfl (by decide) (z_iln dL_deed_3 rfl rfl (z_iln dL_deed_4 rfl rfl ?_))))
  refine z_callT (bc := 0) (bs := 0) (c := 0) (ci := 10) (as := [vI a, vI b]) (S := [vI 0, vR 154]) dL_deed_5 rfl (x_tb (tb5 126 (by decide +kernel)) rfl) my_X10_deed mi_X10_deed me_X10_deed rfl rfl (fun l hl => t_deed hl ha hb hn h) rfl (by decide) (by decide) ⟨by decide, by decide⟩ (fun x hx => ?_)
  exact z_ast_4 dL_deed_13 hx (by decide) rfl (z_ic dL_deed_15 (z_of (g_retI rfl dL_deed_16 ⟨rfl, rfl, rfl⟩)))
theorem L_row {a : Int} {σ : xW} {q : Int} (h : F_X10_row a σ = some q) : xCw 8 1 6 mL_row [(0, 8, 11, 13)] [vR 0, vI a, vR 154] σ (xRv (vI 0) (xu σ 154 0 q)) := by
  refine xCw.of [vR 0, vI a, vR 154, vX] rfl (by decide +kernel) (Nat.le_of_ble_eq_true rfl) rfl ?_
  refine z_aln dL_row_0 rfl rfl (by decide) (z_ic dL_row_1 (z_aln dL_row_2 rfl rfl (by decide) (z_iln dL_row_3 rfl rfl ?_)))
  refine z_callV xGC_s (c := 0) (as := [vI a]) (S := [vI 0, vR 154]) dL_row_4 ml_L_18 rfl (s_X10_row h) rfl (by decide) (by decide) (fun r n' σ' _ hK => ?_)
  obtain ⟨rfl, rfl, rfl⟩ := hK
  refine z_last xGC_s 1 dL_row_7 rfl ⟨by decide, by decide⟩ (by decide) (z_goto dL_row_8 (tgt := 14) rfl (z_ic dL_row_14 (z_of (g_retI rfl dL_row_15 ⟨rfl, rfl, rfl⟩))))
theorem Lt_row {a : Int} {σ : xW} (ha : I32 a) (hn : I32 (σ 3 1)) (h : ¬ (0 ≤ a ∧ a < σ 3 1)) : xCw 8 1 6 mL_row [(0, 8, 11, 13)] [vR 0, vI a, vR 154] σ (xRv (vI 1) σ) := by
  refine xCw.of [vR 0, vI a, vR 154, vX] rfl (by decide +kernel) (Nat.le_of_ble_eq_true rfl) rfl ?_
  refine z_aln dL_row_0 rfl rfl (by decide) (z_ic dL_row_1 (z_aln dL_row_2 rfl rfl (by decide) (z_iln dL_row_3 rfl rfl ?_)))
  refine z_callT (bc := 0) (bs := 0) (c := 0) (ci := 10) (as := [vI a]) (S := [vI 0, vR 154]) dL_row_4 rfl (x_tb (tb5 134 (by decide +kernel)) rfl) my_X10_row mi_X10_row me_X10_row rfl rfl (fun l hl => t_row hl ha hn h) rfl (by decide) (by decide) ⟨by decide, by decide⟩ (fun x hx => ?_)
  exact z_astn_3 dL_row_11 hx (by decide) rfl (z_ic dL_row_12 (z_of (g_retI rfl dL_row_13 ⟨rfl, rfl, rfl⟩)))
