theorem x_ldcw {p : Program} {l : Launch} {e : Env} {R : Room} {s : State} {m : MethodId} {args : Array Value} {below : List Frame} {meth : Method} {c : Code} {T : State} {locs : List Loc} {cells slots : Nat}
    (X : Stand p l e R s m args below meth c T locs cells slots) (hexec : p.tables.exec = Jvm.exec) {own text : String} {index : Nat} {a : Addr} (hown : s.vm.findClass own = some m.cls)
    (hconst : (Cond.stringRef own index text).before args s = true) (hev : (Term.string own index).eval args s none [] s = some (.ref a)) {g : JFrame} (hg : g.method = m) (hdg : decode c.code g.pc = .ok (.ldc_w index, 3)) :
    ∀ target, Steps p.tables e below (T.setTop { g with pc := g.pc + 3, stack := .ref a :: g.stack }) target → Steps p.tables e below (T.setTop g) target := by
  obtain ⟨k, cf, i, a', hk, hcf, hcp, -, hr, hev'⟩ := Cond.stringRef_spec hown hconst
  cases hev.symm.trans hev'
  obtain ⟨k', hk', he⟩ := X.warmed.alike.2.2 _ _ hk
  have hr' : k'.resolved[index]? = some (some (.string a)) := by
    rcases X.warmed.entry hk hk' index with h | ⟨h, -⟩
    · rw [h]; exact hr
    · rw [hr] at h; cases h
  intro target hrest
  subst hg
  jvm_step X.here [hexec, hdg, ldc_w.wp_string (e := e) (s := T) (f := g) X.here.top hk' (by rw [he]; exact hcf) hcp hr']
  exact hrest
section GT
variable {d bc bs : Nat} {Y : xMD} {pc : Nat} {L S : List xV} {n : Nat} {σ : xW} {K : List xV → Nat → xW → Prop}
theorem g_ldcS {k : Nat} (i : Nat) {q : String × Nat × String × List Int} (hd : decode Y.2.1 pc = .ok (.ldc k, 2)) (hq : xLits[i]? = some q) (h1 : q.1 = Y.1.cls) (h2 : q.2.1 = k) (kk : xG d bc bs Y (pc + 2) L (vT i :: S) n σ K) : xG d bc bs Y pc L S n σ K := by
  intro E p l e R s m args below meth c mc ms Q F H locs cells slots ls hH hS h3 h4 hl
  have k2 := kk E p l e R s m args below meth c mc ms Q F H locs cells slots ls hH hS h3 h4 hl
  obtain ⟨Fx, Fb, Fml, Fo, Ft, FK, -⟩ := id F
  have hR := (FK.2.2.1 i q hq).1
  rw [h1, h2] at hR
  exact va_ldcS Fx Fb Fo hR hd k2
theorem g_ldcwS {k : Nat} (i : Nat) {q : String × Nat × String × List Int} (hd : decode Y.2.1 pc = .ok (.ldc_w k, 3)) (hq : xLits[i]? = some q) (h1 : q.1 = Y.1.cls) (h2 : q.2.1 = k) (kk : xG d bc bs Y (pc + 3) L (vT i :: S) n σ K) : xG d bc bs Y pc L S n σ K := by
  intro E p l e R s m args below meth c mc ms Q F H locs cells slots ls hH hS h3 h4 hl
  have k2 := kk E p l e R s m args below meth c mc ms Q F H locs cells slots ls hH hS h3 h4 hl
  obtain ⟨Fx, Fb, Fml, Fo, Ft, FK, -⟩ := id F
  have hR := (FK.2.2.1 i q hq).1
  rw [h1, h2] at hR
  intro T hT X
  obtain ⟨t, a1, b1⟩ := k2 T hT X
  exact ⟨t, x_ldcw X Fx Fo hR.1 hR.2 (g := F0 m pc ls (S.map (xr E))) rfl (by rw [Fb]; exact hd) t a1, b1⟩
theorem g_six {j : Nat} {x : Int} (i : Nat) {q : String × Nat × String × List Int} (hd : decode Y.2.1 pc = .ok (.invokevirtual j, 3)) (hm : Cond.methodLink Y.1.cls j nJ_ix ∈ xTB) (hq : xLits[i]? = some q) (hw : xB7 q.2.2.2) (hdd : 4 ≤ d) (hrest : decide ((S.map (fun v => if v.1 = 1 then 2 else 1)).sum ≤ 8) = true) (k : xG d bc bs Y (pc + 3) L (vI (xix q.2.2.2 x) :: S) n σ K) : xG d bc bs Y pc L (vI x :: vT i :: S) n σ K := by
  intro E p l e R s m args below meth c mc ms Q F H locs cells slots ls hH hS h1 h2 hl
  have k2 := k E p l e R s m args below meth c mc ms Q F H locs cells slots ls hH hS h1 h2 hl
  obtain ⟨Fx, Fb, Fml, Fo, Ft, FK, ⟨Fr1, Fr2, Fr3, Fr4⟩, -, -⟩ := id F
  obtain ⟨t, hSK⟩ := xSK_of FK.2.2 hq
  obtain ⟨cell, q1, q2, q3, -⟩ := (hSK H locs ({ s with heap := H } : State) hS rfl (Vm.Alike.refl _)).1
  have e1 : Int32.ofInt x = Int32.ofInt (xw x) := by unfold xw; rw [Int32.ofInt_toInt]
  have hJ := j_ix (a := E.2.1 i) (t := t) hw (c := xw x) (I32_xw x)
  rw [← e1] at hJ
  exact w_jV (d := d) (as := [.int (Int32.ofInt x)]) (Y' := yJ_ix) Fx Fb Fml Fo Ft ⟨Fr1, Fr2⟩ hm w_ix wi_ix wv_ix hJ ⟨cell, q1, q2, q3⟩ (fun U hU hW => hSK H locs U hS hU hW.alike) rfl (by omega) (by rw [xcat]; exact of_decide_eq_true hrest) hl.1 ⟨by omega, by omega⟩ hd k2
theorem g_slen {j : Nat} (i : Nat) {q : String × Nat × String × List Int} (hd : decode Y.2.1 pc = .ok (.invokevirtual j, 3)) (hm : Cond.methodLink Y.1.cls j nJ_len ∈ xTB) (hq : xLits[i]? = some q) (hdd : 2 ≤ d) (hrest : decide ((S.map (fun v => if v.1 = 1 then 2 else 1)).sum ≤ 8) = true) (k : xG d bc bs Y (pc + 3) L (vI (q.2.2.2.length : Int) :: S) n σ K) : xG d bc bs Y pc L (vT i :: S) n σ K := by
  intro E p l e R s m args below meth c mc ms Q F H locs cells slots ls hH hS h1 h2 hl
  have k2 := k E p l e R s m args below meth c mc ms Q F H locs cells slots ls hH hS h1 h2 hl
  obtain ⟨Fx, Fb, Fml, Fo, Ft, FK, ⟨Fr1, Fr2, Fr3, Fr4⟩, -, -⟩ := id F
  obtain ⟨t, hSK⟩ := xSK_of FK.2.2 hq
  obtain ⟨cell, q1, q2, q3, -⟩ := (hSK H locs ({ s with heap := H } : State) hS rfl (Vm.Alike.refl _)).1
  exact w_jV (d := d) (as := []) (Y' := yJ_len) Fx Fb Fml Fo Ft ⟨Fr1, Fr2⟩ hm w_len wi_len wv_len (j_len (a := E.2.1 i) (t := t) (w := q.2.2.2)) ⟨cell, q1, q2, q3⟩ (fun U hU hW => hSK H locs U hS hU hW.alike) rfl (by omega) (by rw [xcat]; exact of_decide_eq_true hrest) hl.1 ⟨by omega, by omega⟩ hd k2
end GT
/-! takesOf, called with any text -/
section WT
variable {p : Program} {l : Launch} {e : Env} {R : Room} {s : State} {m : MethodId} {args : Array Value} {below : List Frame} {meth : Method} {c : Code} {H : Heap} {locs : List Loc} {cells slots : Nat} {Q : State → Prop} {pc : Nat} {ls : Array Slot} {rest : List Value}
theorem w_takes {E : xE} {Y : xMD} {d a t i : Nat} {w : List Int} {σ σ1 : xW} {x : Int} (Fx : p.tables.exec = Jvm.exec) (Fb : c.code = Y.2.1) (Fml : c.maxLocals = Y.2.2.1) (Fo : s.vm.findClass Y.1.cls = some m.cls) (Ft : ∀ w ∈ xTB, w.before args s = true) (FK : xK E s) (Fr : d ≤ R.frames ∧ 100 * d ≤ R.locals)
    (hm : xMV Y.1.cls i 11 1 mX11_takesOf) (hC : xCJ w 4 0 0 mX11_takesOf [vR 121, vT (-1)] 155 σ (xRv (vI x) σ1)) (hdd : 5 ≤ d) (hH : xH E 155 σ H) (hS : va_S (xA E) s.heap H locs) (hJ : ∀ U : State, U.heap = H → s.vm.Alike U.vm → xSK a t w U) (hrest : (rest.map fun v => v.category).sum ≤ 8) (hsz : ls.size = Y.2.2.1) (hcs : cells ≤ R.cells ∧ slots ≤ R.slots) (hd : decode Y.2.1 pc = .ok (.invokevirtual i, 3))
    (kk : ∀ (H1 : Heap) (locs1 : List Loc), xH E 155 σ1 H1 → va_S (xA E) s.heap H1 locs1 → W p l e R s m args below meth c H1 locs1 cells slots Q (F0 m (pc + 3) ls (.int (Int32.ofInt x) :: rest))) : W p l e R s m args below meth c H locs cells slots Q (F0 m pc ls (.ref a :: .ref (E.1 + 121) :: rest)) := by
  obtain ⟨m1, ⟨m2, m3, m4, m4b⟩, m5, m6, m7⟩ := hm
  have hM := hC (xEs E a) t l
  have hS' : va_S (xA (xEs E a)) s.heap H locs := hS
  have he := xp_get (E := E) (n := 155) (σ := σ) (c := 121) (by decide) (by decide)
  rw [xe_obj (show (xsh 121).1 = 0 from by decide +kernel), show (xsh 121).2.1 = 11 from by decide +kernel] at he
  obtain ⟨rr, q1, cell, q2, q3, q4, -⟩ := hH.1 _ _ he
  obtain ⟨-, hfc, -⟩ := FK.1.1 11 _ q1
  rw [q1] at m7
  have hrr : rr.1 = mX11_takesOf.1.cls := Option.some.inj m7
  have ea : ([vR 121, vT (-1)] : List xV).map (xr (xEs E a)) = [.ref (E.1 + 121), .ref a] := by
    show [.ref (E.1 + 121), Value.ref ((xEs E a).2.1 (-1))] = _
    rw [xEs_at]
  rw [ea] at hM
  have hp : PreV s H mX11_takesOf.1.cls (E.1 + 121) (va_Pc [.ref (E.1 + 121), .ref a] (fun U => xH (xEs E a) 155 σ U.heap ∧ xK (xEs E a) U ∧ xSK ((xEs E a).2.1 (-1)) t w U)) [.ref a] := ⟨fun _ _ _ _ h => ⟨h.1, h.2.1, xK_call h.2.2.1, xSK_go (Vm.Alike.refl _) rfl h.2.2.2⟩, ⟨cell, q2, by rw [q4]; rfl, by rw [← hrr, q3]; exact hfc⟩, fun U hU hW => ⟨rfl, by rw [hU]; exact xH_Es.mpr hH, xK_Es (xK_warm hW hS hU FK), by rw [xEs_at]; exact hJ U hU hW.alike⟩⟩
  have hroom : (xrm 4 0 0).frames + 1 ≤ R.frames ∧ 8 + (mX11_takesOf.2.2.1 + 11) + (xrm 4 0 0).locals ≤ R.locals := ⟨Nat.le_trans hdd Fr.1, by show 8 + (mX11_takesOf.2.2.1 + 11) + 400 ≤ R.locals; omega⟩
  refine x_after (E := xEs E a) (K' := xRv (vI x) σ1) (mc := 0) (ms := 0) (rest := rest) (a := ([.ref (E.1 + 121), .ref a] : List Value).toArray) ?_ hS' (fun r n' σ' H1 locs1 hl1 hk hH1 hS1 => ?_)
  · rcases m1 with hq | ⟨host, hq⟩
    · exact va_runV (Ts := xTB) (As := [.ref a]) ⟨Fx, Fb, Fml, Fo, Ft⟩ hM ⟨callB_of (bytes := mX11_takesOf.2.1) (maxL := mX11_takesOf.2.2.1) (ret := mX11_takesOf.2.2.2) 1 Ft (xTB_goodc m3) rfl rfl rfl (Ft _ m2) (Ft _ hq) m4 hroom, Ft _ m5, Ft _ m6⟩ hp rfl rfl hsz rfl (lv_room hrest) hd ⟨by omega, by omega⟩
    · exact va_runVN (Ts := xTB) (As := [.ref a]) ⟨Fx, Fb, Fml, Fo, Ft⟩ hM ⟨va_cnB (bytes := mX11_takesOf.2.1) (maxL := mX11_takesOf.2.2.1) (ret := mX11_takesOf.2.2.2) 1 Ft (xTB_goodc m3) rfl rfl rfl (FK.2.1 _ hq) (Ft _ m2) m4 hroom, Ft _ m5, Ft _ m6⟩ hp rfl rfl hsz rfl (lv_room hrest) hd ⟨by omega, by omega⟩
  · obtain ⟨rfl, rfl, rfl⟩ := hk
    exact kk H1 locs1 (xH_Es.mp hH1) hS1
end WT
section GT2
variable {d bc bs : Nat} {Y : xMD} {pc : Nat} {L S : List xV} {σ σ1 : xW} {K : List xV → Nat → xW → Prop}
theorem g_litT {j : Nat} {x : Int} (i : Nat) {q : String × Nat × String × List Int} (hd : decode Y.2.1 pc = .ok (.invokevirtual j, 3)) (hm : xMV Y.1.cls j 11 1 mX11_takesOf) (hq : xLits[i]? = some q) (hC : xCJ q.2.2.2 4 0 0 mX11_takesOf [vR 121, vT (-1)] 155 σ (xRv (vI x) σ1)) (hdd : 5 ≤ d) (hrest : decide ((S.map (fun v => if v.1 = 1 then 2 else 1)).sum ≤ 8) = true) (k : xG d bc bs Y (pc + 3) L (vI x :: S) 155 σ1 K) : xG d bc bs Y pc L (vT i :: vR 121 :: S) 155 σ K := by
  intro E p l e R s m args below meth c mc ms Q F H locs cells slots ls hH hS h1 h2 hl
  obtain ⟨Fx, Fb, Fml, Fo, Ft, FK, ⟨Fr1, Fr2, Fr3, Fr4⟩, -, -⟩ := id F
  obtain ⟨t, hSK⟩ := xSK_of FK.2.2 hq
  exact w_takes Fx Fb Fml Fo Ft FK ⟨Fr1, Fr2⟩ hm hC hdd hH hS (fun U hU hvm => hSK H locs U hS hU hvm) (by rw [xcat]; exact of_decide_eq_true hrest) hl.1 ⟨by omega, by omega⟩ hd (fun H1 locs1 hH1 hS1 => k E p l e R s m args below meth c mc ms Q F H1 locs1 cells slots ls hH1 hS1 h1 h2 hl)
end GT2
