/-! calls, stores of a world that grows -/
theorem xHn_size {E : xE} {n : Nat} {σ : xW} {H : Heap} (h : xHn E n σ H) (hn : 1 ≤ n) : E.1 + n ≤ H.size := by
  have h1 := (h.1 _ _ (xp_get (E := E) (n := n) (σ := σ) (c := ((n - 1 : Nat) : Int)) (by omega) (by omega))).lt
  have h2 : E.1 + (((n - 1 : Nat) : Int)).toNat < H.size := h1
  rw [Int.toNat_natCast] at h2
  omega
theorem xPn_blind {E : xE} {as : List xV} {n : Nat} {σ : xW} : FrameBlind (xPn E as n σ) := fun a U g mk h => ⟨h.1, h.2.1, xK_call h.2.2.1, h.2.2.2.1, va_AO.moved (U := U.calling g mk a) (Vm.Alike.refl U.vm) h.2.2.2.2⟩
section NWC
variable {p : Program} {l : Launch} {e : Env} {R : Room} {s : State} {m : MethodId} {args : Array Value} {below : List Frame} {meth : Method} {c : Code} {H : Heap} {locs : List Loc} {cells slots : Nat} {Q : State → Prop} {pc mc ms : Nat} {ls : Array Slot} {rest st0 : List Value} {a : Array Value} {E : xE} {K' : List xV → Nat → xW → Prop}
theorem xn_after (hr : va_Run p l e R s m args below meth c H locs cells slots mc ms (F0 m pc ls st0) rest (xQn E K' a) (xA E)) (hS : va_S (xA E) s.heap H locs)
    (kk : ∀ (r : List xV) (n : Nat) (σ : xW) (H1 : Heap) (locs1 : List Loc), r.length ≤ 1 → K' r n σ → xHn E n σ H1 → va_S (xA E) s.heap H1 locs1 → W p l e R s m args below meth c H1 locs1 (cells + mc) (slots + ms) Q (F0 m (pc + 3) ls (r.map (xr E) ++ rest))) : W p l e R s m args below meth c H locs cells slots Q (F0 m pc ls st0) := by
  intro T hT X
  obtain ⟨v, st₀, t, T', L, h0, X', hL, e1, e2, ⟨⟨r, n, σ, hv, hl1, hk, hH⟩, hz, hkeep⟩, st⟩ := hr T hT X
  rw [h0] at hz hkeep
  have hv : v = r.head?.map (xr E) := Outcome.returned.inj hv
  obtain ⟨t2, a1, b1⟩ := kk r n σ T'.heap (locs ++ L) hl1 hk (by rw [e1]; exact hH)
    ⟨Nat.le_trans hS.1 (by rw [e1]; exact hz), fun q h1 h2 => by rw [e1, hkeep q (Nat.lt_of_lt_of_le h1 hS.1) h2]; exact hS.2.1 q h1 h2, fun q hq => by
      rcases List.mem_append.mp hq with h | h
      · exact hS.2.2 q h
      · exact hL q h⟩ T' rfl X'
  have e3 : v.toList = r.map (xr E) := by
    rw [hv]
    rcases r with _ | ⟨x, _ | ⟨y, r⟩⟩
    · rfl
    · rfl
    · simp at hl1
  rw [← e3] at a1
  exact ⟨t2, st t2 a1, b1⟩
end NWC
section NW2
variable {d bc bs : Nat} {Y : xMD} {pc : Nat} {L S : List xV} {n : Nat} {σ σ1 : xW} {K K' : List xV → Nat → xW → Prop}
theorem n_callI {c : Int} {i d' b1 b2 n1 : Nat} {Y' : xMD} (hd : decode Y.2.1 pc = .ok (.invokespecial i, 3)) (hm : xMN Y.1.cls i Y') (hy : xMY Y' 0) (hi : Cond.instanceMethod Y'.1 ∈ xTB) (hin : Y'.1.name = "<init>") (hret : Y'.2.2.2 = none) (hc : 0 ≤ c) (h1n : 1 ≤ n) (hC : xCN d' b1 b2 Y' [vR c] n σ (fun r n' σ' => r = [] ∧ n' = n1 ∧ σ' = σ1)) (hn1 : n + b1 = n1) (hdd : d' + 1 ≤ d) (hrest : decide ((S.map (fun v => if v.1 = 1 then 2 else 1)).sum ≤ 8) = true)
    (kk : xGN d bc bs Y (pc + 3) L S n1 σ1 K) : xGN d (bc + b1) (bs + b2) Y pc L (vR c :: S) n σ K := by
  intro E p l e R s m args below meth c0 mc ms Q F H locs cells slots ls hH hS h1 h2 hl
  obtain ⟨m2, m3, m4, m4b⟩ := hy
  obtain ⟨Fx, Fb, Fml, Fo, Ft, FK, ⟨Fr1, Fr2, Fr3, Fr4⟩, FE, ⟨-, FA⟩, -⟩ := id F
  have hM := hC E l
  have hst : ((vR c :: S).map (xr E)) = ([] : List Value).reverse ++ .ref (E.1 + c.toNat) :: S.map (xr E) := by rw [List.map_cons, xr_R hc]; rfl
  refine w_size fun hsz => ?_
  have hz := xHn_size hH h1n
  have hp : PreS s H (xPn E [vR c] n σ) (.ref (E.1 + c.toNat) :: []) := ⟨xPn_blind, fun U hU hW => ⟨by rw [List.map_cons, List.map_nil, xr_R hc], by rw [hU]; exact hH, xK_warm hW hS hU FK, by rw [hU]; omega, va_AO.moved hW.alike FA⟩⟩
  have hroom : (xrm d' b1 b2).frames + 1 ≤ R.frames ∧ 8 + (Y'.2.2.1 + 11) + (xrm d' b1 b2).locals ≤ R.locals := ⟨Nat.le_trans hdd Fr1, by show 8 + (Y'.2.2.1 + 11) + 100 * d' ≤ R.locals; omega⟩
  have hRest : 2 * (F0 m pc ls ((vR c :: S).map (xr E))).monitorRoom + ((S.map (xr E)).map fun v => v.category).sum ≤ 8 := lv_room (by rw [xcat]; exact of_decide_eq_true hrest)
  have hini := Ft _ m2
  refine xn_after (rest := S.map (xr E)) (mc := b1) (ms := b2) (K' := fun r n' σ' => r = [] ∧ n' = n1 ∧ σ' = σ1) (E := E) (a := (Value.ref (E.1 + c.toNat) :: []).toArray) ?_ hS (fun r n' σ' H1 locs1 hl1 hk hH1 hS1 => ?_)
  · rcases hm with hq | ⟨host, hq⟩
    · have hq1 := Ft _ hq
      have hb := callB_of (bytes := Y'.2.1) (maxL := Y'.2.2.1) (ret := Y'.2.2.2) 0 Ft (xTB_goodc m3) rfl rfl rfl hini hq1 m4 hroom
      rw [hret] at hb
      rw [hret] at hM
      exact va_runI (Ts := xTB) ⟨Fx, Fb, Fml, Fo, Ft⟩ hM ⟨hb, hin, Ft _ hi⟩ hp rfl rfl hl.1 hst hRest hd ⟨by omega, by omega⟩
    · have hq1 := FK.2.1 _ hq
      have hb := va_cnB (bytes := Y'.2.1) (maxL := Y'.2.2.1) (ret := Y'.2.2.2) 0 Ft (xTB_goodc m3) rfl rfl rfl hq1 hini m4 hroom
      rw [hret] at hb
      rw [hret] at hM
      exact va_runIN (Ts := xTB) ⟨Fx, Fb, Fml, Fo, Ft⟩ hM ⟨hb, hin, Ft _ hi⟩ hp rfl rfl hl.1 hst hRest hd ⟨by omega, by omega⟩
  · obtain ⟨rfl, rfl, rfl⟩ := hk
    exact kk E p l e R s m args below meth c0 mc ms Q F H1 locs1 (cells + b1) (slots + b2) ls hH1 hS1 ⟨by omega, by omega⟩ (by omega) hl
theorem n_callV {c : Int} {i ci d' b1 b2 n1 : Nat} {Y' : xMD} (hd : decode Y.2.1 pc = .ok (.invokevirtual i, 3)) (hm : xMV Y.1.cls i ci 0 Y') (hs : xob n c ci = true) (hC : xCN d' b1 b2 Y' [vR c] n σ (fun r n' σ' => r = [] ∧ n' = n1 ∧ σ' = σ1)) (hn1 : n + b1 = n1) (hdd : d' + 1 ≤ d) (hrest : decide ((S.map (fun v => if v.1 = 1 then 2 else 1)).sum ≤ 8) = true)
    (kk : xGN d bc bs Y (pc + 3) L S n1 σ1 K) : xGN d (bc + b1) (bs + b2) Y pc L (vR c :: S) n σ K := by
  intro E p l e R s m args below meth c0 mc ms Q F H locs cells slots ls hH hS h1 h2 hl
  obtain ⟨m1, ⟨m2, m3, m4, m4b⟩, m5, m6, m7⟩ := hm
  obtain ⟨s0, s1, s2, s3⟩ := xob_spec hs
  obtain ⟨Fx, Fb, Fml, Fo, Ft, FK, ⟨Fr1, Fr2, Fr3, Fr4⟩, FE, ⟨-, FA⟩, -⟩ := id F
  have he := xp_get (E := E) (σ := σ) s0 s1
  rw [xe_obj s2, s3] at he
  obtain ⟨rr, q1, cell, q2, q3, q4, -⟩ := hH.1 _ _ he
  obtain ⟨-, hfc, -⟩ := FK.1.1 ci _ q1
  rw [q1] at m7
  have hrr : rr.1 = Y'.1.cls := Option.some.inj m7
  have hM := hC E l
  have hst : ((vR c :: S).map (xr E)) = ([] : List Value).reverse ++ .ref (E.1 + c.toNat) :: S.map (xr E) := by rw [List.map_cons, xr_R s0]; rfl
  refine w_size fun hsz => ?_
  have hz := xHn_size hH (by omega)
  have hp : PreV s H Y'.1.cls (E.1 + c.toNat) (xPn E [vR c] n σ) [] := ⟨xPn_blind, ⟨cell, q2, by rw [q4]; rfl, by rw [← hrr, q3]; exact hfc⟩, fun U hU hW => ⟨by rw [List.map_cons, List.map_nil, xr_R s0], by rw [hU]; exact hH, xK_warm hW hS hU FK, by rw [hU]; omega, va_AO.moved hW.alike FA⟩⟩
  have hroom : (xrm d' b1 b2).frames + 1 ≤ R.frames ∧ 8 + (Y'.2.2.1 + 11) + (xrm d' b1 b2).locals ≤ R.locals := ⟨Nat.le_trans hdd Fr1, by show 8 + (Y'.2.2.1 + 11) + 100 * d' ≤ R.locals; omega⟩
  have hRest : 2 * (F0 m pc ls ((vR c :: S).map (xr E))).monitorRoom + ((S.map (xr E)).map fun v => v.category).sum ≤ 8 := lv_room (by rw [xcat]; exact of_decide_eq_true hrest)
  have hini := Ft _ m2
  refine xn_after (rest := S.map (xr E)) (mc := b1) (ms := b2) (K' := fun r n' σ' => r = [] ∧ n' = n1 ∧ σ' = σ1) (E := E) (a := (Value.ref (E.1 + c.toNat) :: []).toArray) ?_ hS (fun r n' σ' H1 locs1 hl1 hk hH1 hS1 => ?_)
  · rcases m1 with hq | ⟨host, hq⟩
    · have hq1 := Ft _ hq
      exact va_runV (Ts := xTB) ⟨Fx, Fb, Fml, Fo, Ft⟩ hM ⟨callB_of (bytes := Y'.2.1) (maxL := Y'.2.2.1) (ret := Y'.2.2.2) 0 Ft (xTB_goodc m3) rfl rfl rfl hini hq1 m4 hroom, Ft _ m5, Ft _ m6⟩ hp rfl rfl hl.1 hst hRest hd ⟨by omega, by omega⟩
    · have hq1 := FK.2.1 _ hq
      exact va_runVN (Ts := xTB) ⟨Fx, Fb, Fml, Fo, Ft⟩ hM ⟨va_cnB (bytes := Y'.2.1) (maxL := Y'.2.2.1) (ret := Y'.2.2.2) 0 Ft (xTB_goodc m3) rfl rfl rfl hq1 hini m4 hroom, Ft _ m5, Ft _ m6⟩ hp rfl rfl hl.1 hst hRest hd ⟨by omega, by omega⟩
  · obtain ⟨rfl, rfl, rfl⟩ := hk
    exact kk E p l e R s m args below meth c0 mc ms Q F H1 locs1 (cells + b1) (slots + b2) ls hH1 hS1 ⟨by omega, by omega⟩ (by omega) hl
theorem n_iast {a j x : Int} (len : Nat) (hd : decode Y.2.1 pc = .ok (.iastore, 1)) (hs : xia n a 1 len = true) (hj : 0 ≤ j ∧ j < len) (hlen : len ≤ 2147483647) (he1 : xu σ a j x = σ1) (kk : xGN d bc bs Y (pc + 1) L S n σ1 K) : xGN d bc bs Y pc L (vI x :: vI j :: vR a :: S) n σ K := by
  intro E p l e R s m args below meth c0 mc ms Q F H locs cells slots ls hH hS h1 h2 hl
  subst he1
  obtain ⟨s0, s1, s2, s3⟩ := xia_spec hs
  obtain ⟨c1, c2⟩ := xclamp hj.1 hj.2 hlen
  rw [List.map_cons, List.map_cons, List.map_cons, xr_R s0]
  have he := xp_get (E := E) (n := n) (σ := σ) s0 s1
  rw [xe_int s2 (Or.inl rfl), s3] at he
  refine va_iast F.1 F.2.1 F.2.2.2.2.2.1.1 hH.1 xp_D hS _ 0 he rfl c2 hd fun H1 locs1 hP1 hD1 hS1 => ?_
  have e1 : (Int32.ofInt (vI j).2).toNatClampNeg = j.toNat := c1
  rw [e1, show (Int32.ofInt (vI x).2) = Int32.ofInt x from rfl, xu_arr hj.1, ← s3, ← xe_int (E := E) (n := n) s2 (Or.inl rfl), xp_set (σ' := xu σ a j x) s0 s1 (fun c' h => xu_row σ _ _ h)] at hP1
  exact kk E p l e R s m args below meth c0 mc ms Q F H1 locs1 cells slots ls ⟨hP1, trivial⟩ hS1 h1 h2 hl
theorem xe_townN {E : xE} {s : Nat × Nat × List Nat} {f : Int → Int} (h5 : n ≠ 155) (h : s.1 = 5) : xe E n s f = .inl (E.2.2.2 5, s.2.1, .inr (.inr (.inr (.inr fun j => xrf E (f j))))) := by
  unfold xe
  rw [if_neg (by omega), if_neg (by omega), if_pos h]
  simp only [if_neg h5]
theorem n_aast {a j v : Int} (len : Nat) (h5 : (n == 155) = false) (hd : decode Y.2.1 pc = .ok (.aastore, 1)) (hs : xia n a 5 len = true) (hj : 0 ≤ j ∧ j < len) (hlen : len ≤ 2147483647) (hv : xob n v 9 = true) (he1 : xu σ a j v = σ1) (kk : xGN d bc bs Y (pc + 1) L S n σ1 K) : xGN d bc bs Y pc L (vR v :: vI j :: vR a :: S) n σ K := by
  intro E p l e R s m args below meth c0 mc ms Q F H locs cells slots ls hH hS h1 h2 hl
  subst he1
  have h5 : n ≠ 155 := by simpa using h5
  obtain ⟨s0, s1, s2, s3⟩ := xia_spec hs
  obtain ⟨v0, v1, v2, v3⟩ := xob_spec hv
  obtain ⟨c1, c2⟩ := xclamp hj.1 hj.2 hlen
  rw [List.map_cons, List.map_cons, List.map_cons, xr_R s0, xr_R v0]
  have he := xp_get (E := E) (n := n) (σ := σ) s0 s1
  rw [xe_townN h5 s2, s3] at he
  have hev := xp_get (E := E) (n := n) (σ := σ) v0 v1
  rw [xe_obj v2, v3] at hev
  refine va_astq F.1 F.2.1 F.2.2.2.2.2.1.1 hH.1 xp_D hS _ 4 _ 9 he rfl hev rfl c2 hd fun H1 locs1 hP1 hD1 hS1 => ?_
  have e1 : (Int32.ofInt (vI j).2).toNatClampNeg = j.toNat := c1
  have e2 : va_up (fun i : Nat => xrf E (σ a i)) j.toNat (some (E.1 + v.toNat)) = fun i : Nat => xrf E (xu σ a j v a i) := by
    funext i
    unfold va_up xu
    by_cases h : i = j.toNat
    · subst h
      rw [if_pos rfl, if_pos ⟨rfl, by omega⟩]
      unfold xrf
      rw [if_neg (by omega)]
    · rw [if_neg h, if_neg (by omega)]
  rw [e1, e2, ← s3, ← xe_townN (E := E) (n := n) h5 s2, xp_set (σ' := xu σ a j v) s0 s1 (fun c' h => xu_row σ _ _ h)] at hP1
  exact kk E p l e R s m args below meth c0 mc ms Q F H1 locs1 cells slots ls ⟨hP1, trivial⟩ hS1 h1 h2 hl
theorem n_first {a a1 : Int} {t : Nat} (ha : 0 ≤ a) (hf : xis n a 7 0 t = true) (hv : xfv n t (σ a 0) = vR a1) (hs1 : xia n a1 1 40 = true) (hdd : 1 ≤ d) (kk : xGN d bc bs mX7_takeFirst 16 [vR a] [] n (xfirst σ a1) K) : xGN d bc bs mX7_takeFirst 0 [vR a] [] n σ K := by
  intro E p l e R s m args below meth c mc ms Q F H locs cells slots ls hH hS h1 h2 hl
  obtain ⟨Fx, Fb, Fml, Fo, Ft, FK, ⟨Fr1, Fr2, Fr3, Fr4⟩, -, -⟩ := id F
  obtain ⟨t0, hZ, hX, hnA⟩ := FK.2.2.2.2.1
  have hlt : t0 < s.heap.size := by obtain ⟨scr, x1, -⟩ := hX; exact (Array.getElem?_eq_some_iff.mp x1).1
  obtain ⟨s0, s1, s2, s3⟩ := xia_spec hs1
  obtain ⟨C, T, N, ty, f1, f2, f3, f4, f5, f6, f7, f8⟩ := fl_X7_11
  obtain ⟨u0, u1, u2, u3, u4⟩ := xis_spec hf
  have hea := xp_get (E := E) (σ := σ) u0 u1
  rw [xe_obj u2, u3] at hea
  have hfv : (xfs E n (σ a) 0 (xsh a).2.2)[0]? = some (xr E (vR a1)) := by rw [xfs_get, u4]; simp [hv]
  have he1 := xp_get (E := E) (n := n) (σ := σ) s0 s1
  rw [xe_int s2 (Or.inl rfl), s3] at he1
  have hw : nativeFrameWords "java/lang/System" "arraycopy" 5 ≤ 80 := by decide
  refine va_gets Fx Fb hZ hS Fo (Ft _ wf_first) (fun _ h => h) dX7_takeFirst_0 (lv_iconst Fx Fb dX7_takeFirst_3 rfl ?_)
  have hq := xl_get (i := 0) hl rfl (fun h => nomatch h)
  rw [xr_R ha] at hq
  refine lv_aload_n Fx Fb dX7_takeFirst_4 rfl hq ?_
  have hgo : W p l e R s m args below meth c H locs cells slots Q (F0 m 8 ls [xr E (vR a1), .int 0, .ref t0]) := by
    rw [xr_R s0]
    refine lv_iconst Fx Fb dX7_takeFirst_8 rfl (va_gets Fx Fb hZ hS Fo (Ft _ wf_first) (fun _ h => h) dX7_takeFirst_9 (va_slen Fx Fb hX hlt hnA hS dX7_takeFirst_12 ?_))
    refine va_copyx Fx Fb (by rw [Fml, hl.1]) Fo (Ft _ mc_X7_45) (Ft _ mm_copy.1) (Ft _ mm_copy.2.1) (Ft _ mm_copy.2.2) FK.1 hH.1 xp_D hS hX hlt hnA _ 0 he1 rfl (by decide) (by decide) (by decide) (by decide) (by decide) (by omega) (by show 0 + _ ≤ _; omega) dX7_takeFirst_13 fun H1 locs1 hP1 hD1 hS1 => ?_
    have hP2 : va_P E.2.2.1 xcls ((xp E n σ).set a1.toNat (E.1 + a1.toNat, .inl (E.2.2.2 1, 40, .inl (va_cpy (fun j : Nat => Int32.ofInt (xFst.getD j 0)) (fun j : Nat => Int32.ofInt (σ a1 j)) 0 0 7)))) H1 := hP1
    rw [xfirst_cpy, ← s3, ← xe_int (E := E) (n := n) s2 (Or.inl rfl), xp_set (σ' := xfirst σ a1) s0 s1 (fun c' h => by funext j; unfold xfirst; rw [if_neg (fun z => h z.1)])] at hP2
    exact kk E p l e R s m args below meth c mc ms Q F H1 locs1 cells slots ls ⟨hP2, trivial⟩ hS1 h1 h2 hl
  rcases f8 with hq | ⟨host, hq⟩
  · exact va_get Fx Fb Ft f3 Fo FK.1 hH.1 _ hea f1 0 f2 (Ft _ hq) (fun _ h => h) hfv dX7_takeFirst_5 hgo
  · exact va_getN Fx Fb Ft f3 Fo FK.1 hH.1 _ hea f1 0 f2 ((FK.2.1 _ hq).use rfl) (fun _ h => h) hfv dX7_takeFirst_5 hgo
theorem n_first2 {a : Int} (kk : xGN d bc bs mX7_takeFirst 21 [vR a] [vI 7, vR a] n σ K) (ha : 0 ≤ a) : xGN d bc bs mX7_takeFirst 16 [vR a] [] n σ K := by
  refine n_aln dX7_takeFirst_16 rfl rfl ha ?_
  intro E p l e R s m args below meth c mc ms Q F H locs cells slots ls hH hS h1 h2 hl
  obtain ⟨Fx, Fb, Fml, Fo, Ft, FK, -⟩ := id F
  obtain ⟨t0, hZ, hX, hnA⟩ := FK.2.2.2.2.1
  have hlt : t0 < s.heap.size := by obtain ⟨scr, x1, -⟩ := hX; exact (Array.getElem?_eq_some_iff.mp x1).1
  have k2 := kk E p l e R s m args below meth c mc ms Q F H locs cells slots ls hH hS h1 h2 hl
  exact va_gets Fx Fb hZ hS Fo (Ft _ wf_first) (fun _ h => h) dX7_takeFirst_17 (va_slen Fx Fb hX hlt hnA hS dX7_takeFirst_20 k2)
/-! with the new numbers named -/
theorem m_put {c x : Int} {i ci k t : Nat} {fin : Bool} {ft : FieldType} {v : xV} (hd : decode Y.2.1 pc = .ok (.putfield i, 3)) (hf : xFL Y.1.cls i ci k fin ft) (hs : xis n c ci k t = true) (hv : xfv n t x = v) (hn : ∀ E, narrow ft (xr E v) = xr E v ∧ fits ft (xr E v) = true) (hi : fin = true → Y.1.name = "<init>" ∧ (xcls[ci]?).map (fun q => (q.2.1 k).1) = some Y.1.cls ∧ ∃ C T N, xcls[ci]? = some (C, T, N) ∧ Cond.fieldLink Y.1.cls i (T k).1 (T k).2.1 (T k).2.2.1 ∈ xTB) (he1 : xu σ c k x = σ1) (kk : xGN d bc bs Y (pc + 3) L S n σ1 K) : xGN d bc bs Y pc L (v :: vR c :: S) n σ K := by
  subst he1; exact n_put0 hd hf hs hv hn hi kk
theorem m_newa {len kd n1 : Nat} {atype : ArrayType} {ty : FieldType} (hd : decode Y.2.1 pc = .ok (.newarray atype, 2)) (hty : newarray.typeOf atype = ty) (harr : Cond.arrayClass ty ∈ xTB) (hk : (xtysK ty) = some kd) (h5 : (n == 155) = false) (h6 : (n + 1 == 155) = false) (hs : ((xsh n).1 == kd && (xsh n).2.1 == len) = true) (hlen : len ≤ 1000) (hn1 : n + 1 = n1) (he1 : xnz σ n = σ1)
    (kk : xGN d bc bs Y (pc + 2) L (vR n :: S) n1 σ1 K) : xGN d (bc + 1) (bs + len) Y pc L (vI len :: S) n σ K := by
  subst he1; subst hn1; exact n_newa hd hty harr hk h5 h6 hs hlen kk
end NW2
