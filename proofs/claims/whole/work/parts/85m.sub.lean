def xabcd : List Int := [97, 98, 99, 100]
theorem room_mono {s : State} {pl : Platform} {r r' : Room} (h : s.hasRoom pl r = true) (h1 : r'.frames ≤ r.frames) (h2 : r'.locals ≤ r.locals) (h3 : r'.cells ≤ r.cells) (h4 : r'.slots ≤ r.slots) : s.hasRoom pl r' = true := by
  simp only [State.hasRoom, Bool.and_eq_true, decide_eq_true_eq] at h ⊢
  obtain ⟨⟨⟨⟨a1, b1, b2, b3, b4, b5⟩, c1⟩, c2⟩, c3⟩ := h
  exact ⟨⟨⟨⟨by omega, by omega, by omega, by omega, by omega, b5⟩, by omega⟩, by omega⟩, c3⟩
theorem met_free {l : Launch} {y : MethodName} {S : Spec} {ws : List Cond} {rm : Room} {Pc : Array Value → State → Prop} {Qc : Array Value → State → Outcome → State → Prop} {mc ms : Nat} {free : Addr → Prop}
    (r1 : S.room.frames ≤ rm.frames) (r2 : S.room.locals ≤ rm.locals) (r3 : S.room.cells ≤ rm.cells) (r4 : S.room.slots ≤ rm.slots)
    (h : ∀ (args : Array Value) (s : State), (∀ w ∈ ws, w.before args s = true) → Pc args s → S.pre.before args s = true ∧ ∃ (P : Array Value → State → Prop) (Q0 : Array Value → State → Outcome → State → Prop), MetFree l y S P (fun _ _ _ _ _ => True) Q0 ∧ P args s ∧ ∀ (o : Outcome) (t : State), Q0 args s o t → Qc args s o t ∧ ∃ L, FrameEnd s o t L mc ms ∧ ∀ q ∈ L, free q.base) : Met l y ws rm Pc Qc mc ms free := by
  intro p e ha hcas hclk s m args below hf happ hP hK
  obtain ⟨a1, a2, a3, a4, a5, a6, a7, a8⟩ := (Spec.appliesLoose_iff hf).mp happ
  obtain ⟨b1, P, Q0, hM, b2, hq⟩ := h args s (atoms_spec (ws := ws) a8) hP
  obtain ⟨n, o, c1, c2, c3, c4⟩ := hM p e ha hcas hclk s m args below hf ((Spec.appliesLoose_iff hf).mpr ⟨a1, a2, a3, a4, a5, a6, room_mono a7 r1 r2 r3 r4, b1⟩) b2 trivial
  exact ⟨n, o, c1, c2, c3, hq o _ c4⟩
theorem news_pre {args : Array Value} {s : State} (hc : (Cond.count 3).before args s = true) (hts : ∀ w ∈ xTB, w.before args s = true) : (Jvm.Free.SubstrLeaves.NewStr.spec 4).pre.before args s = true := by
  simp only [Jvm.Free.SubstrLeaves.NewStr.spec, Jvm.Free.SubstrLeaves.NewStr.tab, Jvm.Free.SubstrLeaves.Cor.tab, Jvm.Free.SubstrLeaves.Corb.tab, Jvm.Free.SubstrLeaves.Corb.tabRest, Cond.before_and, Bool.and_eq_true]
  refine ⟨hc, ?_⟩
  repeat' apply And.intro
  all_goals exact hts _ (x_tb (by decide +kernel) rfl)
theorem frameEnd_mono {s t : State} {o : Outcome} {L : List Loc} {k n k' n' : Nat} (h : FrameEnd s o t L k n) (hk : k ≤ k') (hn : n ≤ n') : FrameEnd s o t L k' n' := ⟨h.1, h.2.1, h.2.2.mono hk hn⟩
/-- what stays where every old cell stays -/
theorem xSK_rest {a t : Nat} {w : List Int} {st u : State} (hvm : st.vm.Alike u.vm) (hold : ∀ (x : Addr) (c : Cell), st.heap[x]? = some c → u.heap[x]? = some c) (h : xSK a t w st) : xSK a t w u := by
  have hq : ∀ a : Nat, a < st.heap.size → ¬ (fun _ => False) a → u.heap[a]? = st.heap[a]? := fun a ha _ => by
    have h1 : st.heap[a]? = some st.heap[a] := Array.getElem?_eq_getElem ha
    rw [h1]
    exact hold a _ h1
  obtain ⟨h1, h2, h3, h4, h5, h6⟩ := h
  exact ⟨(h1.moved hvm).kept hq, (h2.moved hvm).kept hq, (h3.moved hvm).kept hq, (h4.moved hvm).kept hq, (h5.moved hvm).kept hq, (h6.moved hvm).kept hq⟩
def subQ (b : Int) : Array Value → State → Outcome → State → Prop := fun _ st o u => ∃ a' t', o = .returned (some (.ref a')) ∧ xSK a' t' (xabcd.drop b.toNat) u ∧ ∀ (x : Addr) (c : Cell), st.heap[x]? = some c → u.heap[x]? = some c
theorem abcd_slots {U : State} {H : Heap} {t : Nat} {A : Nat → Prop} {arr : Cell} (hT : va_T .byte t xabcd.length (fun j => .int (Int32.ofInt (xabcd.getD j 0))) A U H) (ha : H[t]? = some arr) (h4 : arr.slots.size = 4) : U.isArrayOf arr .byte ∧ arr.vm ≠ .unknown ∧ arr.slots.toList = [.int 97, .int 98, .int 99, .int 100] := by
  obtain ⟨cell, h1, h2, h3, -, -, h6, -⟩ := hT
  cases h1.symm.trans ha
  refine ⟨h2, h3, ?_⟩
  have g0 := h6 0 (by decide)
  have g1 := h6 1 (by decide)
  have g2 := h6 2 (by decide)
  have g3 := h6 3 (by decide)
  apply List.ext_getElem?
  intro i
  rw [Array.getElem?_toList]
  match i with
  | 0 => exact g0
  | 1 => exact g1
  | 2 => exact g2
  | 3 => exact g3
  | n + 4 => rw [Array.getElem?_eq_none (by omega)]; rfl
theorem news_res {st u : State} {E : xE} {a t b n : Nat} {arr : Cell} {fr ln : Int32} (hsk : xSK a t xabcd st) (hvm : st.vm.Alike u.vm) (hArr : ArrOfT u (E.2.2.2 6) .byte) (hl : arr.slots.toList = [.int 97, .int 98, .int 99, .int 100]) (hfr : fr.toNatClampNeg = b) (hln : ln.toNatClampNeg = n) (hbn : b + n = 4) (hf0 : 0 ≤ fr)
    {r z : Addr} {cellS : Cell} {cS : ClassId} {c₁ i₁ : Nat} {k₁ : Class} {fdV : Field} {c₂ i₂ : Nat} {k₂ : Class} {fdC : Field} (q1 : u.heap[r]? = some cellS) (q2 : st.vm.findClass "java/lang/String" = some cS) (q3 : cellS.cls = cS) (q4 : cellS.vm = .none)
    (q5 : st.fieldFound? "java/lang/String" "value" "[B" = some (c₁, k₁, i₁, fdV)) (q6 : cellS.slots[fdV.slot]? = some (.ref z)) (q7 : st.fieldFound? "java/lang/String" "coder" "B" = some (c₂, k₂, i₂, fdC)) (q8 : cellS.slots[fdC.slot]? = some (.int 0))
    (q9 : u.heap[z]? = some (copied arr (Jvm.Free.SubstrLeaves.Corb.fresh (E.2.2.2 6) ln.toNatClampNeg) fr 0 ln)) (hold : ∀ (x : Addr) (c : Cell), st.heap[x]? = some c → u.heap[x]? = some c) : xSK r z (xabcd.drop b) u := by
  obtain ⟨g1, g2, g3, g4, g5, g6⟩ := xSK_rest hvm hold hsk
  obtain ⟨-, p2, p3, -⟩ := hsk
  refine ⟨⟨cellS, q1, by rw [q4]; rfl, by rw [hvm.findClass, q2, q3], fun h => h⟩, ?_, ?_, ?_, g5, g6⟩
  · obtain ⟨cf, k, i, f, cell, e1, e2, -⟩ := p2
    cases e1.symm.trans q7
    obtain ⟨k', hi', -⟩ := State.fieldFound?_setVm hvm q7
    exact ⟨_, k', _, _, cellS, hi', e2, q1, by rw [q4]; exact (fun h => nomatch h), q8, fun h => h⟩
  · obtain ⟨cf, k, i, f, cell, e1, e2, -⟩ := p3
    cases e1.symm.trans q5
    obtain ⟨k', hi', -⟩ := State.fieldFound?_setVm hvm q5
    exact ⟨_, k', _, _, cellS, hi', e2, q1, by rw [q4]; exact (fun h => nomatch h), q6, fun h => h⟩
  · have hlen : arr.slots.size = 4 := by rw [← Array.length_toList, hl]; rfl
    have hsl := Jvm.ShelfD.StrSub.copied_slots (arr := arr) (cA := E.2.2.2 6) (b := fr) (ln := ln) hf0 (by omega)
    rw [hl, hfr, hln] at hsl
    have hsz : (copied arr (Jvm.Free.SubstrLeaves.Corb.fresh (E.2.2.2 6) ln.toNatClampNeg) fr 0 ln).slots.size = n := by
      rw [← Array.length_toList, hln, hsl]
      simp
      omega
    have hdl : (xabcd.drop b).length = n := by simp [xabcd]; omega
    refine ⟨_, q9, ?_, ?_, ?_, ?_, ?_, fun h => h⟩
    · have hA := hArr 0 (fun _ => .null)
      refine ⟨fun k hk => ?_, ?_⟩
      · rw [(Cell.storeRun_facts _ _ _).2.1] at hk
        exact nomatch hk
      · obtain ⟨-, k, hk, comp, hkind⟩ := hA
        refine ⟨k, ?_, comp, hkind⟩
        rw [(Cell.storeRun_facts _ _ _).1]
        exact hk
    · rw [(Cell.storeRun_facts _ _ _).2.1]
      exact fun h => nomatch h
    · rw [hsz, hdl]; exact Nat.le_refl _
    · rw [hsz, hdl]
    · intro j hj
      rw [hdl] at hj
      rw [← Array.getElem?_toList, hln, hsl]
      have hb4 : b ≤ 4 := by omega
      match b, hb4 with
      | 0, _ =>
        obtain rfl : n = 4 := by omega
        match j, hj with
        | 0, _ => rfl
        | 1, _ => rfl
        | 2, _ => rfl
        | 3, _ => rfl
        | k + 4, h => omega
      | 1, _ =>
        obtain rfl : n = 3 := by omega
        match j, hj with
        | 0, _ => rfl
        | 1, _ => rfl
        | 2, _ => rfl
        | k + 3, h => omega
      | 2, _ =>
        obtain rfl : n = 2 := by omega
        match j, hj with
        | 0, _ => rfl
        | 1, _ => rfl
        | k + 2, h => omega
      | 3, _ =>
        obtain rfl : n = 1 := by omega
        match j, hj with
        | 0, _ => rfl
        | k + 1, h => omega
      | 4, _ => omega
theorem news_M {E : xE} {t : Nat} {b : Int} (hb : 1 ≤ b ∧ b ≤ 3) (l : Launch) : Met l nJ_news (Cond.code nJ_news yJ_news.2.1 yJ_news.2.2.1 yJ_news.2.2.2 :: xTB) (xrm 4 2 8) (va_Pc [.ref t, .int (Int32.ofInt b), .int (Int32.ofInt (4 - b))] (fun U => xK E U ∧ xSK (E.2.1 5) t xabcd U ∧ ∃ cell : Cell, U.heap[t]? = some cell ∧ cell.slots.size = 4)) (subQ b) 2 8 (fun _ => False) := by
  refine met_free (S := Jvm.Free.SubstrLeaves.NewStr.spec 4) (by decide) (by decide) (by decide) (by decide) ?_
  rintro args s hts ⟨rfl, hK, hSK, arr, ha, h4⟩
  have hts' : ∀ w ∈ xTB, w.before _ s = true := fun w hw => hts w (List.mem_cons_of_mem _ hw)
  refine ⟨news_pre rfl hts', ?_⟩
  obtain ⟨c1, c2, c3⟩ := abcd_slots hSK.2.2.2.1 ha h4
  have hRA : s.vm.findClass "[B" = some (E.2.2.2 6) := (hK.1.2 5 (E.2.2.2 6, .byte) rfl).2
  have hArr : ArrOfT s (E.2.2.2 6) .byte := (hK.1.2 5 (E.2.2.2 6, .byte) rfl).1
  have hfit : ∀ i, i < arr.slots.size → fits .byte (arr.slots.getD i .null) = true := by
    intro i hi
    rw [Array.getD_eq_getD_getElem?, ← Array.getElem?_toList, c3]
    match i, (by omega : i < 4) with
    | 0, _ => rfl
    | 1, _ => rfl
    | 2, _ => rfl
    | 3, _ => rfl
  have h31 : arr.slots.size < 2 ^ 31 := by omega
  have e32 : arr.slots.size.toInt32 = 4 := by rw [h4]; rfl
  have hcase : b = 1 ∨ b = 2 ∨ b = 3 := by omega
  refine ⟨_, _, Jvm.Free.SubstrLeaves.NewStr.gets l 4 t arr (Int32.ofInt b) (Int32.ofInt (4 - b)) (E.2.2.2 6), ⟨rfl, ?_, ⟨rfl, ha, c1, c2, h31, ?_, ?_, ?_, by omega, by decide, hfit, hRA⟩, ?_⟩, ?_⟩
  · rcases hcase with rfl | rfl | rfl <;> decide
  · rcases hcase with rfl | rfl | rfl <;> decide
  · rcases hcase with rfl | rfl | rfl <;> decide
  · rw [h4]; rcases hcase with rfl | rfl | rfl <;> decide
  · rcases hcase with rfl | rfl | rfl <;> exact fun h => absurd h.1 (by decide)
  · rintro o u ⟨r, z, cellS, cS, c₁, i₁, k₁, fdV, c₂, i₂, k₂, fdC, g1, g2, g3, g4, g5, g6, g7, g8, g9, g10, g11, g12, g13, hold, k, n, hk, hn, hF⟩
    have hn4 : n ≤ 8 := by
      have : (Int32.ofInt b + Int32.ofInt (4 - b) - Int32.ofInt b).toNatClampNeg ≤ 4 := by rcases hcase with rfl | rfl | rfl <;> decide
      omega
    refine ⟨⟨r, z, g1, ?_, hold⟩, [], frameEnd_mono hF hk hn4, fun q hq => absurd hq List.not_mem_nil⟩
    refine news_res (n := (4 - b).toNat) (ln := Int32.ofInt b + Int32.ofInt (4 - b) - Int32.ofInt b) hSK hF.2.1.alike (arrOfT_moved hF.2.1.alike hArr) c3 ?_ ?_ (by omega) ?_ g2 g3 g4 g5 g6 g7 g8 g9 g10 hold
    · rcases hcase with rfl | rfl | rfl <;> decide
    · rcases hcase with rfl | rfl | rfl <;> decide
    · rcases hcase with rfl | rfl | rfl <;> decide
theorem news0_M {E : xE} {t : Nat} (l : Launch) : Met l nJ_news (Cond.code nJ_news yJ_news.2.1 yJ_news.2.2.1 yJ_news.2.2.2 :: xTB) (xrm 4 2 8) (va_Pc [.ref t, .int (Int32.ofInt 4), .int (Int32.ofInt (4 - 4))] (xK E)) (subQ 4) 2 8 (fun _ => False) := by
  refine met_free (S := Jvm.Free.SubstrLeaves.NewStr0.spec) (by decide) (by decide) (by decide) (by decide) ?_
  rintro args s hts ⟨rfl, hK⟩
  have hR := (hK.2.2.1 6 ("java/lang/StringLatin1", 151, "", []) rfl).1
  obtain ⟨tq, hq⟩ := xSK_of hK.2.2 (i := 6) (q := ("java/lang/StringLatin1", 151, "", [])) rfl
  refine ⟨?_, _, _, Jvm.Free.SubstrLeaves.NewStr0.gets l t (Int32.ofInt 4) (E.2.1 6), ⟨rfl, ?_⟩, ?_⟩
  · simp only [Jvm.Free.SubstrLeaves.NewStr0.spec, Cond.before_and, Bool.and_eq_true]
    exact ⟨hts _ List.mem_cons_self, rfl, hR.1⟩
  · exact hR.2
  · rintro o u ⟨g1, g2, g3⟩
    refine ⟨⟨E.2.1 6, tq, g1, ?_, fun x c hx => by rw [g2]; exact hx⟩, [], frameEnd_mono g3 (by decide) (by decide), fun q hq => absurd hq List.not_mem_nil⟩
    exact hq s.heap [] u va_S.rf g2 g3.2.1.alike
section JM2
variable {a t : Nat} {w : List Int}
theorem j_pft {b e n : Int} (h0 : 0 ≤ b) (h1 : b ≤ e) (h2 : e ≤ n) (hn : n ≤ 2147483647) {x : Value} (hx : x = .null ∨ ∃ r, x = .ref r) : xJ 0 yJ_pft [.int (Int32.ofInt b), .int (Int32.ofInt e), .int (Int32.ofInt n), x] (some (.int (Int32.ofInt b))) (xSK a t w) := by
  have e0 : ¬ Int32.ofInt b < 0 := fun h => absurd ((w32_lt (a := b) (b := 0) ⟨by omega, by omega⟩ ⟨by omega, by omega⟩).mp h) (by omega)
  have e1 : ¬ Int32.ofInt e < Int32.ofInt b := fun h => absurd ((w32_lt ⟨by omega, by omega⟩ ⟨by omega, by omega⟩).mp h) (by omega)
  have e2 : Int32.ofInt e ≤ Int32.ofInt n := (w32_le ⟨by omega, by omega⟩ ⟨by omega, by omega⟩).mpr h2
  refine xJ.of (by decide +kernel) (by rcases hx with rfl | ⟨r, rfl⟩ <;> exact Nat.le_of_ble_eq_true rfl) rfl ?_
  exact j_iln 0 e_pft_0 rfl rfl (j_lt e_pft_1 (tgt := 14) rfl (fun h => absurd h e0) (fun _ => j_iln 0 e_pft_4 rfl rfl (j_iln 1 e_pft_5 rfl rfl (j_cgt e_pft_6 (tgt := 14) rfl (fun h => absurd h e1) (fun _ => j_iln 1 e_pft_9 rfl rfl (j_iln 2 e_pft_10 rfl rfl (j_cle e_pft_11 (tgt := 22) rfl (fun _ => j_iln 0 e_pft_22 rfl rfl (j_ret e_pft_23 rfl)) (fun h => absurd e2 h))))))))
theorem j_cbe {b e n : Int} (h0 : 0 ≤ b) (h1 : b ≤ e) (h2 : e ≤ n) (hn : n ≤ 2147483647) : xJ 1 yJ_cbe [.int (Int32.ofInt b), .int (Int32.ofInt e), .int (Int32.ofInt n)] none (xSK a t w) := by
  refine xJ.of (by decide +kernel) (Nat.le_of_ble_eq_true rfl) trivial ?_
  refine j_iln 0 e_cbe_0 rfl rfl (j_iln 1 e_cbe_1 rfl rfl (j_iln 2 e_cbe_2 rfl rfl (j_getq e_cbe_3 wf_1053 (fun s h => h.2.2.2.2.2) (fun x hx => ?_))))
  exact j_S (as := [.int (Int32.ofInt b), .int (Int32.ofInt e), .int (Int32.ofInt n), x]) (Y' := yJ_pft) e_cbe_6 wl_String_1062 w_pft ws_pft (j_pft h0 h1 h2 hn hx) rfl (by decide) (Nat.le_of_ble_eq_true rfl) (j_pop e_cbe_9 (j_ret e_cbe_10 rfl))
end JM2
section WS
variable {p : Program} {l : Launch} {e : Env} {R : Room} {s : State} {m : MethodId} {args : Array Value} {below : List Frame} {meth : Method} {c : Code} {H : Heap} {locs : List Loc} {cells slots : Nat} {Q : State → Prop} {pc mc ms : Nat} {ls : Array Slot} {rest st0 : List Value}
theorem w_after {Qa : State → Outcome → State → Prop} (hr : va_Run p l e R s m args below meth c H locs cells slots mc ms (F0 m pc ls st0) rest Qa (fun _ => False)) (kk : ∀ (v : Option Value) (st t : State) (H1 : Heap), Qa st (.returned v) t → st.heap = H → t.heap = H1 → s.vm.Alike t.vm → W p l e R s m args below meth c H1 locs (cells + mc) (slots + ms) Q (F0 m (pc + 3) ls (v.toList ++ rest))) : W p l e R s m args below meth c H locs cells slots Q (F0 m pc ls st0) := by
  intro T hT X
  obtain ⟨v, st₀, t, T', L, h0, X', hL, e1, e2, hq, st⟩ := hr T hT X
  obtain ⟨t2, a1, b1⟩ := kk v st₀ t T'.heap hq h0 e1.symm (by rw [← e2]; exact X'.warmed.alike) T' rfl (Stand.forget X' (fun q h => (hL q h).elim))
  exact ⟨t2, st t2 a1, b1⟩
end WS
theorem xK_blind {E : xE} {as : List Value} : FrameBlind (va_Pc as (xK E)) := fun _ _ _ _ h => ⟨h.1, xK_call h.2⟩
theorem sub2_M {E : xE} {b : Int} (h0 : 0 ≤ b) (h4 : b ≤ 4) (l : Launch) : Met l nJ_sub2 (Cond.code nJ_sub2 yJ_sub2.2.1 yJ_sub2.2.2.1 yJ_sub2.2.2.2 :: xTB) (xrm 6 2 8) (va_Pc [.ref (E.2.1 5), .int (Int32.ofInt b), .int (Int32.ofInt 4)] (xK E)) (subQ b) 2 8 (fun _ => False) := by
  refine Met.ofW (cc := yJ_sub2.2.1) (maxL := yJ_sub2.2.2.1) (ret := yJ_sub2.2.2.2) (by decide +kernel) rfl ?_
  intro p e s m args below meth c s₁ Bd hml hp
  obtain ⟨rfl, hK⟩ := hp
  have hts := atoms_spec (ws := Cond.code nJ_sub2 yJ_sub2.2.1 yJ_sub2.2.2.1 yJ_sub2.2.2.2 :: xTB) Bd.pre
  have Ft : ∀ w ∈ xTB, w.before _ s = true := fun w hw => hts w (List.mem_cons_of_mem _ hw)
  have Fx := Bd.exec
  have Fb := Bd.bytes
  have Fo : s.vm.findClass yJ_sub2.1.cls = some m.cls := findClass_of_methodNamed Bd.named
  have hr := Bd.returns
  have hlocks := Bd.notSynchronized
  obtain ⟨t, hSK⟩ := xSK_of hK.2.2 (i := 5) (q := ("NoonGunModel", 191, "abcd", [97, 98, 99, 100])) rfl
  have hSs : xSK (E.2.1 5) t xabcd s := hSK s.heap [] s va_S.rf rfl (Vm.Alike.refl _)
  have hcell : ∃ cell : Cell, s.heap[t]? = some cell ∧ cell.slots.size = 4 := by
    obtain ⟨-, -, t', g3, g4, cell, g5, g6⟩ := (hK.2.2.1 5 ("NoonGunModel", 191, "abcd", [97, 98, 99, 100]) rfl).2
    obtain ⟨cf, k, i, f, ce, q1, q2, q3, q4, q5, -⟩ := g3
    obtain ⟨cf', k', i', f', ce', p1, p2, p3, p4, p5, -⟩ := hSs.2.2.1
    cases q1.symm.trans p1
    cases q3.symm.trans p3
    cases q5.symm.trans p5
    exact ⟨cell, g5, g6⟩
  have hrc : ∃ cell : Cell, s.heap[E.2.1 5]? = some cell ∧ cell.vm.isStatics = false ∧ s.vm.findClass "java/lang/String" = some cell.cls := by
    obtain ⟨cell, q1, q2, q3, -⟩ := hSs.1
    exact ⟨cell, q1, q2, q3⟩
  have hB : ∀ U : State, U.heap = s.heap → s.WarmedH U.vm → xSK (E.2.1 5) t xabcd U := fun U hU hW => xSK_go hW.alike hU hSs
  have hl := lv_entry ([.ref (E.2.1 5), .int (Int32.ofInt b), .int (Int32.ofInt 4)] : List Value) (n := yJ_sub2.2.2.1) (Nat.le_of_ble_eq_true rfl)
  rw [lg_entry_eq]
  generalize (lg_sl ([.ref (E.2.1 5), .int (Int32.ofInt b), .int (Int32.ofInt 4)] : List Value) ++ List.replicate (yJ_sub2.2.2.1 - (lg_sl ([.ref (E.2.1 5), .int (Int32.ofInt b), .int (Int32.ofInt 4)] : List Value)).length) Slot.unset).toArray = ls at hl ⊢
  have Fr : 6 ≤ (xrm 6 2 8).frames ∧ 100 * 6 ≤ (xrm 6 2 8).locals := ⟨Nat.le_refl _, Nat.le_refl _⟩
  have hs0 : ∀ w ∈ xTB, w.before _ s = true := Ft
  refine lv_aload_n Fx Fb e_sub2_0 rfl (lv_at hl 0 rfl) ?_
  refine w_jV (Y := yJ_sub2) (d := 6) (as := []) (Y' := yJ_len) Fx Fb hml Fo Ft Fr wl_String_505 w_len wi_len wv_len (j_len (a := E.2.1 5) (t := t) (w := xabcd)) hrc hB rfl (by decide) (Nat.le_of_ble_eq_true rfl) hl.1 ⟨Nat.zero_le _, Nat.zero_le _⟩ e_sub2_1 ?_
  refine lv_istore_n Fx Fb e_sub2_4 rfl hl (by decide) rfl fun ls hl => ?_
  refine lv_iload_n Fx Fb e_sub2_5 rfl (lv_at hl 2 rfl) (lv_iload_n Fx Fb e_sub2_6 rfl (lv_at hl 3 rfl) (lv_iload_n Fx Fb e_sub2_7 rfl (lv_at hl 0 rfl) ?_))
  refine w_jS (Y := yJ_sub2) (d := 6) (as := [.int (Int32.ofInt b), .int (Int32.ofInt 4), .int (Int32.ofInt xabcd.length)]) (Y' := yJ_cbe) Fx Fb hml Fo Ft Fr wl_String_521 w_cbe ws_cbe (j_cbe (a := E.2.1 5) (t := t) (w := xabcd) h0 h4 (by decide) (by decide)) hB rfl (by decide) (Nat.le_of_ble_eq_true rfl) hl.1 ⟨Nat.zero_le _, Nat.zero_le _⟩ e_sub2_8 ?_
  refine lv_iload_n Fx Fb e_sub2_11 rfl (lv_at hl 2 rfl) ?_
  have hgo : b ≠ 0 → W p l e (xrm 6 2 8) s m ([.ref (E.2.1 5), .int (Int32.ofInt b), .int (Int32.ofInt 4)] : List Value).toArray below meth c s.heap [] 0 0 (MQ below (subQ b) ([.ref (E.2.1 5), .int (Int32.ofInt b), .int (Int32.ofInt 4)] : List Value).toArray s 2 8 (fun _ => False)) (F0 m 22 ls []) := by
    intro hb0
    refine lv_iload_n Fx Fb e_sub2_22 rfl (lv_at hl 3 rfl) (lv_iload_n Fx Fb e_sub2_23 rfl (lv_at hl 2 rfl) (lv_isub Fx Fb e_sub2_24 ?_))
    rw [← Int32.ofInt_sub]
    refine lv_istore Fx Fb e_sub2_25 hl (by decide) rfl fun ls hl => ?_
    refine lv_aload_n Fx Fb e_sub2_27 rfl (lv_at hl 2 rfl) ?_
    refine w_jV (Y := yJ_sub2) (d := 6) (as := []) (Y' := yJ_lat) Fx Fb hml Fo Ft Fr wl_String_492 w_lat wi_lat wv_lat (j_lat (a := E.2.1 5) (t := t) (w := xabcd)) hrc hB rfl (by decide) (Nat.le_of_ble_eq_true rfl) hl.1 ⟨Nat.zero_le _, Nat.zero_le _⟩ e_sub2_28 ?_
    refine lv_if_eq Fx Fb e_sub2_31 (tgt := 47) rfl (fun h => absurd h (by decide)) (fun _ => ?_)
    refine lv_aload_n Fx Fb e_sub2_34 rfl (lv_at hl 2 rfl) (vk_getf Fx Fb hSs.2.2.1 va_S.rf Fo (Ft _ wf_9) (fun _ h => h) e_sub2_35 (lv_iload_n Fx Fb e_sub2_38 rfl (lv_at hl 3 rfl) (lv_iload Fx Fb e_sub2_39 (lv_at hl 0 rfl) ?_)))
    obtain ⟨m2, m3, m4, m4b⟩ := w_news
    have hroom : (xrm 4 2 8).frames + 1 ≤ (xrm 6 2 8).frames ∧ 8 + (yJ_news.2.2.1 + 11) + (xrm 4 2 8).locals ≤ (xrm 6 2 8).locals := by decide
    have hfin : ∀ (v : Option Value) (st u : State) (H1 : Heap), subQ b #[] st (.returned v) u → st.heap = s.heap → u.heap = H1 → s.vm.Alike u.vm → W p l e (xrm 6 2 8) s m ([.ref (E.2.1 5), .int (Int32.ofInt b), .int (Int32.ofInt 4)] : List Value).toArray below meth c H1 [] (0 + 2) (0 + 8) (MQ below (subQ b) ([.ref (E.2.1 5), .int (Int32.ofInt b), .int (Int32.ofInt 4)] : List Value).toArray s 2 8 (fun _ => False)) (F0 m (41 + 3) ls (v.toList ++ [])) := by
      rintro v st u H1 ⟨a', t', hv, hsk, hold⟩ hst hu hvm
      obtain rfl : v = some (.ref a') := Outcome.returned.inj hv
      refine lv_goto Fx Fb e_sub2_44 (tgt := 57) rfl ?_
      refine W.aret Fx Fb hr (Or.inl ⟨_, rfl⟩) (Or.inr ⟨_, rfl⟩) (fun u2 hu2 hW2 => ⟨a', t', rfl, xSK_go (hvm.symm.trans hW2.alike) (by rw [hu2, hu]) hsk, fun x cx hx => ?_⟩) (fun q hq => absurd hq List.not_mem_nil) e_sub2_57
      rw [hu2, ← hu]
      exact hold x cx (by rw [hst]; exact hx)
    by_cases hb4 : b = 4
    · subst hb4
      have hp : PreS s s.heap (va_Pc [.ref t, .int (Int32.ofInt 4), .int (Int32.ofInt (4 - 4))] (xK E)) [.ref t, .int (Int32.ofInt 4), .int (Int32.ofInt (4 - 4))] := ⟨xK_blind, fun U hU hW => ⟨rfl, xK_warm hW va_S.rf hU hK⟩⟩
      exact w_after (va_runS (Ts := xTB) ⟨Fx, Fb, hml, Fo, Ft⟩ (news0_M l) ⟨callB_of (bytes := yJ_news.2.1) (maxL := yJ_news.2.2.1) (ret := yJ_news.2.2.2) 3 Ft (xTB_goodc (Y := yJ_news) m3) rfl rfl rfl (Ft _ m2) (Ft _ wl_String_685) m4 hroom, Ft _ ws_news⟩ hp rfl rfl hl.1 rfl (lv_room (Nat.le_of_ble_eq_true rfl)) e_sub2_41 ⟨by decide, by decide⟩) hfin
    · have hp : PreS s s.heap (va_Pc [.ref t, .int (Int32.ofInt b), .int (Int32.ofInt (4 - b))] (fun U => xK E U ∧ xSK (E.2.1 5) t xabcd U ∧ ∃ cell : Cell, U.heap[t]? = some cell ∧ cell.slots.size = 4)) [.ref t, .int (Int32.ofInt b), .int (Int32.ofInt (4 - b))] := ⟨fun _ _ _ _ h => ⟨h.1, xK_call h.2.1, xSK_go (Vm.Alike.refl _) rfl h.2.2.1, h.2.2.2⟩, fun U hU hW => ⟨rfl, xK_warm hW va_S.rf hU hK, hB U hU hW, by rw [hU]; exact hcell⟩⟩
      exact w_after (va_runS (Ts := xTB) ⟨Fx, Fb, hml, Fo, Ft⟩ (news_M (E := E) (t := t) ⟨by omega, by omega⟩ l) ⟨callB_of (bytes := yJ_news.2.1) (maxL := yJ_news.2.2.1) (ret := yJ_news.2.2.2) 3 Ft (xTB_goodc (Y := yJ_news) m3) rfl rfl rfl (Ft _ m2) (Ft _ wl_String_685) m4 hroom, Ft _ ws_news⟩ hp rfl rfl hl.1 rfl (lv_room (Nat.le_of_ble_eq_true rfl)) e_sub2_41 ⟨by decide, by decide⟩) hfin
  refine lv_if_ne Fx Fb e_sub2_12 (tgt := 22) rfl (fun h => hgo (fun z => h (by rw [z]; rfl))) (fun h => ?_)
  refine lv_iload_n Fx Fb e_sub2_15 rfl (lv_at hl 3 rfl) (lv_iload_n Fx Fb e_sub2_16 rfl (lv_at hl 0 rfl) (lv_icmp_ne Fx Fb e_sub2_17 (tgt := 22) rfl (fun h => absurd rfl h) (fun _ => ?_)))
  have hb0 : b = 0 := by
    have h' : Int32.ofInt b = Int32.ofInt 0 := by simpa using h
    exact (w32_eq ⟨by omega, by omega⟩ ⟨by omega, by omega⟩).mp h'
  subst hb0
  refine lv_aload_n Fx Fb e_sub2_20 rfl (lv_at hl 1 rfl) ?_
  refine W.widen (show 0 ≤ 2 by decide) (show 0 ≤ 8 by decide) ?_
  exact W.aret Fx Fb hr (Or.inl ⟨_, rfl⟩) (Or.inr ⟨_, rfl⟩) (fun u2 hu2 hW2 => ⟨E.2.1 5, t, rfl, xSK_go hW2.alike hu2 hSs, fun x cx hx => by rw [hu2]; exact hx⟩) (fun q hq => absurd hq List.not_mem_nil) e_sub2_21
