theorem sub_M {E : xE} {b : Int} (h0 : 0 ≤ b) (h4 : b ≤ 4) (l : Launch) : Met l nJ_sub (Cond.code nJ_sub yJ_sub.2.1 yJ_sub.2.2.1 yJ_sub.2.2.2 :: xTB) (xrm 7 2 8) (va_Pc [.ref (E.2.1 5), .int (Int32.ofInt b)] (xK E)) (subQ b) 2 8 (fun _ => False) := by
  refine Met.ofW (cc := yJ_sub.2.1) (maxL := yJ_sub.2.2.1) (ret := yJ_sub.2.2.2) (by decide +kernel) rfl ?_
  intro p e s m args below meth c s₁ Bd hml hp
  obtain ⟨rfl, hK⟩ := hp
  have hts := atoms_spec (ws := Cond.code nJ_sub yJ_sub.2.1 yJ_sub.2.2.1 yJ_sub.2.2.2 :: xTB) Bd.pre
  have Ft : ∀ w ∈ xTB, w.before _ s = true := fun w hw => hts w (List.mem_cons_of_mem _ hw)
  have Fx := Bd.exec
  have Fb := Bd.bytes
  have Fo : s.vm.findClass yJ_sub.1.cls = some m.cls := findClass_of_methodNamed Bd.named
  have hr := Bd.returns
  have hlocks := Bd.notSynchronized
  obtain ⟨t, hSK⟩ := xSK_of hK.2.2 (i := 5) (q := ("NoonGunModel", 191, "abcd", [97, 98, 99, 100])) rfl
  have hSs : xSK (E.2.1 5) t xabcd s := hSK s.heap [] s va_S.rf rfl (Vm.Alike.refl _)
  have hrc : ∃ cell : Cell, s.heap[E.2.1 5]? = some cell ∧ cell.vm.isStatics = false ∧ s.vm.findClass "java/lang/String" = some cell.cls := by
    obtain ⟨cell, q1, q2, q3, -⟩ := hSs.1
    exact ⟨cell, q1, q2, q3⟩
  have hB : ∀ U : State, U.heap = s.heap → s.WarmedH U.vm → xSK (E.2.1 5) t xabcd U := fun U hU hW => xSK_go hW.alike hU hSs
  have hl := lv_entry ([.ref (E.2.1 5), .int (Int32.ofInt b)] : List Value) (n := yJ_sub.2.2.1) (Nat.le_of_ble_eq_true rfl)
  rw [lg_entry_eq]
  generalize (lg_sl ([.ref (E.2.1 5), .int (Int32.ofInt b)] : List Value) ++ List.replicate (yJ_sub.2.2.1 - (lg_sl ([.ref (E.2.1 5), .int (Int32.ofInt b)] : List Value)).length) Slot.unset).toArray = ls at hl ⊢
  have Fr : 7 ≤ (xrm 7 2 8).frames ∧ 100 * 7 ≤ (xrm 7 2 8).locals := ⟨Nat.le_refl _, Nat.le_refl _⟩
  refine lv_aload_n Fx Fb e_sub_0 rfl (lv_at hl 0 rfl) (lv_iload_n Fx Fb e_sub_1 rfl (lv_at hl 1 rfl) (lv_aload_n Fx Fb e_sub_2 rfl (lv_at hl 0 rfl) ?_))
  refine w_jV (Y := yJ_sub) (d := 7) (as := []) (Y' := yJ_len) Fx Fb hml Fo Ft Fr wl_String_505 w_len wi_len wv_len (j_len (a := E.2.1 5) (t := t) (w := xabcd)) hrc hB rfl (by decide) (Nat.le_of_ble_eq_true rfl) hl.1 ⟨Nat.zero_le _, Nat.zero_le _⟩ e_sub_3 ?_
  obtain ⟨m2, m3, m4, m4b⟩ := w_sub2
  have hroom : (xrm 6 2 8).frames + 1 ≤ (xrm 7 2 8).frames ∧ 8 + (yJ_sub2.2.2.1 + 11) + (xrm 6 2 8).locals ≤ (xrm 7 2 8).locals := by decide
  have hp : PreV s s.heap yJ_sub2.1.cls (E.2.1 5) (va_Pc [.ref (E.2.1 5), .int (Int32.ofInt b), .int (Int32.ofInt 4)] (xK E)) [.int (Int32.ofInt b), .int (Int32.ofInt 4)] := ⟨xK_blind, hrc, fun U hU hW => ⟨rfl, xK_warm hW va_S.rf hU hK⟩⟩
  refine w_after (va_runV (Ts := xTB) (As := [.int (Int32.ofInt b), .int (Int32.ofInt 4)]) ⟨Fx, Fb, hml, Fo, Ft⟩ (sub2_M h0 h4 l) ⟨callB_of (bytes := yJ_sub2.2.1) (maxL := yJ_sub2.2.2.1) (ret := yJ_sub2.2.2.2) 2 Ft (xTB_goodc (Y := yJ_sub2) m3) rfl rfl rfl (Ft _ m2) (Ft _ wl_String_681) m4 hroom, Ft _ wi_sub2, Ft _ wv_sub2⟩ hp rfl rfl hl.1 rfl (lv_room (Nat.le_of_ble_eq_true rfl)) e_sub_6 ⟨by decide, by decide⟩) ?_
  rintro v st u H1 ⟨a', t', hv, hsk, hold⟩ hst hu hvm
  obtain rfl : v = some (.ref a') := Outcome.returned.inj hv
  refine W.aret Fx Fb hr (Or.inl ⟨_, rfl⟩) (Or.inr ⟨_, rfl⟩) (fun u2 hu2 hW2 => ⟨a', t', rfl, xSK_go (hvm.symm.trans hW2.alike) (by rw [hu2, hu]) hsk, fun x cx hx => ?_⟩) (fun q hq => absurd hq List.not_mem_nil) e_sub_9
  rw [hu2, ← hu]
  exact hold x cx (by rw [hst]; exact hx)
theorem xH_grow {E : xE} {σ : xW} {H H1 : Heap} (h : xH E 155 σ H) (hold : ∀ (x : Addr) (c : Cell), H[x]? = some c → H1[x]? = some c) (hs : H.size ≤ H1.size) : xH E 155 σ H1 := by
  obtain ⟨h1, h2, h3⟩ := h
  refine ⟨fun k q hk => ?_, Or.inl rfl, by omega⟩
  have hq := h1 k q hk
  have hlt := hq.lt
  exact hq.kept (by
    have e1 : H[q.1]? = some H[q.1] := Array.getElem?_eq_getElem hlt
    rw [e1]
    exact hold _ _ e1)
theorem size_grow {H H1 : Heap} (hold : ∀ (x : Addr) (c : Cell), H[x]? = some c → H1[x]? = some c) : H.size ≤ H1.size := by
  by_cases h : H.size = 0
  · omega
  · have e1 : H[H.size - 1]? = some (H[H.size - 1]'(by omega)) := Array.getElem?_eq_getElem (by omega)
    have := (Array.getElem?_eq_some_iff.mp (hold _ _ e1)).1
    omega
section GT3
variable {d bc bs : Nat} {Y : xMD} {pc : Nat} {L S : List xV} {σ σ1 : xW} {K : List xV → Nat → xW → Prop}
theorem g_subT {i j : Nat} {b x : Int} (hb : 0 ≤ b ∧ b ≤ 4) (hd : decode Y.2.1 pc = .ok (.invokevirtual i, 3)) (hm1 : Cond.methodLink Y.1.cls i nJ_sub ∈ xTB) (hd2 : decode Y.2.1 (pc + 3) = .ok (.invokevirtual j, 3)) (hm : xMV Y.1.cls j 11 1 mX11_takesOf) (hC : xCJ (xabcd.drop b.toNat) 4 0 0 mX11_takesOf [vR 121, vT (-1)] 155 σ (xRv (vI x) σ1)) (hdd : 8 ≤ d) (hrest : decide ((S.map (fun v => if v.1 = 1 then 2 else 1)).sum ≤ 7) = true) (k : xG d bc bs Y (pc + 3 + 3) L (vI x :: S) 155 σ1 K) : xG d (bc + 2) (bs + 8) Y pc L (vI b :: vT 5 :: vR 121 :: S) 155 σ K := by
  intro E p l e R s m args below meth c mc ms Q F H locs cells slots ls hH hS h1 h2 hl
  obtain ⟨Fx, Fb, Fml, Fo, Ft, FK, ⟨Fr1, Fr2, Fr3, Fr4⟩, -, -⟩ := id F
  have hr7 : ((S.map (xr E)).map fun v => v.category).sum ≤ 7 := by rw [xcat]; exact of_decide_eq_true hrest
  obtain ⟨t, hSK⟩ := xSK_of FK.2.2 (i := 5) (q := ("NoonGunModel", 191, "abcd", [97, 98, 99, 100])) rfl
  obtain ⟨cell, q1, q2, q3, -⟩ := (hSK H locs ({ s with heap := H } : State) hS rfl (Vm.Alike.refl _)).1
  obtain ⟨m2, m3, m4, m4b⟩ := w_sub
  have hroom : (xrm 7 2 8).frames + 1 ≤ R.frames ∧ 8 + (yJ_sub.2.2.1 + 11) + (xrm 7 2 8).locals ≤ R.locals := ⟨by show 7 + 1 ≤ R.frames; omega, by show 8 + (2 + 11) + 700 ≤ R.locals; omega⟩
  have hp : PreV s H yJ_sub.1.cls (E.2.1 5) (va_Pc [.ref (E.2.1 5), .int (Int32.ofInt b)] (xK E)) [.int (Int32.ofInt b)] := ⟨xK_blind, ⟨cell, q1, q2, q3⟩, fun U hU hW => ⟨rfl, xK_warm hW hS hU FK⟩⟩
  have e121 : xr E (vR 121) = .ref (E.1 + 121) := rfl
  refine w_after (rest := .ref (E.1 + 121) :: S.map (xr E)) (va_runV (Ts := xTB) (As := [.int (Int32.ofInt b)]) ⟨Fx, Fb, Fml, Fo, Ft⟩ (sub_M hb.1 hb.2 l) ⟨callB_of (bytes := yJ_sub.2.1) (maxL := yJ_sub.2.2.1) (ret := yJ_sub.2.2.2) 1 Ft (xTB_goodc (Y := yJ_sub) m3) rfl rfl rfl (Ft _ m2) (Ft _ hm1) m4 hroom, Ft _ wi_sub, Ft _ wv_sub⟩ hp rfl rfl hl.1 rfl (lv_room (by rw [List.map_cons, List.sum_cons]; show 1 + _ ≤ 8; omega)) hd ⟨by omega, by omega⟩) ?_
  rintro v st u H1 ⟨a', t', hv, hsk, hold⟩ hst hu hvm
  obtain rfl : v = some (.ref a') := Outcome.returned.inj hv
  rw [hst, hu] at hold
  have hsz := size_grow hold
  have hS1 : va_S (xA E) s.heap H1 locs := ⟨Nat.le_trans hS.1 hsz, fun q g1 g2 => by
    have e1 : H[q]? = some (H[q]'(Nat.lt_of_lt_of_le g1 hS.1)) := Array.getElem?_eq_getElem _
    rw [hold _ _ e1, ← e1]
    exact hS.2.1 q g1 g2, hS.2.2⟩
  refine w_takes (E := E) (w := xabcd.drop b.toNat) (a := a') (t := t') (σ1 := σ1) (x := x) Fx Fb Fml Fo Ft FK ⟨Fr1, Fr2⟩ hm hC (by omega) (xH_grow hH hold hsz) hS1 (fun U hU hvU => xSK_go (hvm.symm.trans hvU) (by rw [hU, hu]) hsk) (by omega) hl.1 ⟨by omega, by omega⟩ hd2 (fun H2 locs2 hH2 hS2 => k E p l e R s m args below meth c mc ms Q F H2 locs2 (cells + 2) (slots + 8) ls hH2 hS2 (by omega) (by omega) hl)
end GT3
