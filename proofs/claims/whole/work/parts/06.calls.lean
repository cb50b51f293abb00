def xrm (d bc bs : Nat) : Room := { frames := d, cells := bc, slots := bs, locals := 100 * d }
def xQ (E : xE) (K : List xV → Nat → xW → Prop) : Array Value → State → Outcome → State → Prop := fun _ st oc t => (∃ (r : List xV) (n : Nat) (σ : xW), oc = .returned (r.head?.map (xr E)) ∧ r.length ≤ 1 ∧ K r n σ ∧ xH E n σ t.heap) ∧ va_F (xA E) st t
def xP (E : xE) (as : List xV) (n : Nat) (σ : xW) : Array Value → State → Prop := va_Pc (as.map (xr E)) (fun U => xH E n σ U.heap ∧ xK E U)
/-- a method's contract: called with as in the world σ it returns, and K -/
def xC (d bc bs : Nat) (Y : xMD) (as : List xV) (n : Nat) (σ : xW) (K : List xV → Nat → xW → Prop) : Prop :=
  ∀ (E : xE) (l : Launch), Met l Y.1 (Cond.code Y.1 Y.2.1 Y.2.2.1 Y.2.2.2 :: xTB) (xrm d bc bs) (xP E as n σ) (xQ E K) bc bs (xA E)
theorem xK_warm {E : xE} {s U : State} {H : Heap} {locs : List Loc} (hW : s.WarmedH U.vm) (hS : va_S (xA E) s.heap H locs) (hU : U.heap = H) (h : xK E s) : xK E U := by
  refine ⟨va_K.moved hW.alike h.1, fun w hw => ?_, xTx_go (fun _ _ _ _ h => vk_R.warm hW h) hW.alike (fun a h1 h2 => by rw [hU]; exact hS.2.1 a h1 h2) h.2.2⟩
  have h1 := h.2.1 w hw
  have h2 : xnest w = true := (List.mem_filter.mp hw).2
  cases w <;> first | (simp [xnest] at h2; done) | exact va_Nw.warmF hW h1 | exact va_Nw.warmM hW h1
theorem xK_call {E : xE} {U : State} {g : JFrame} {mk : MethodId} {a : Array Value} (h : xK E U) : xK E (U.calling g mk a) := by
  refine ⟨va_K.moved (u := U) (U := U.calling g mk a) (Vm.Alike.refl U.vm) h.1, fun w hw => ?_, xTx_go (U := U.calling g mk a) (fun _ _ _ _ h => vk_R.same rfl h) (Vm.Alike.refl U.vm) (fun _ _ _ => rfl) h.2.2⟩
  have h1 := h.2.1 w hw
  have h2 : xnest w = true := (List.mem_filter.mp hw).2
  cases w <;> first | (simp [xnest] at h2; done) | exact va_Nw.same rfl (rfl : U.vm = (U.calling g mk a).vm) h1
theorem xP_blind {E : xE} {as : List xV} {n : Nat} {σ : xW} : FrameBlind (xP E as n σ) := fun a U g mk h => ⟨h.1, h.2.1, xK_call h.2.2⟩
/-! from the walk to the contract -/
def xen : List xV → List xV
  | [] => []
  | v :: t => if v.1 = 1 then v :: vX :: xen t else v :: xen t
theorem xl_rep {E : xE} : ∀ (k i : Nat), xl E i (List.replicate k vX) = []
  | 0, i => rfl
  | k + 1, i => by rw [List.replicate_succ]; unfold xl; rw [if_pos (show vX.1 = 9 from rfl)]; exact xl_rep k (i + 1)
theorem xr_cat2 {E : xE} {v : xV} (h : v.1 = 1) : (xr E v).category = 2 := by
  unfold xr
  split
  · rename_i q; omega
  · rfl
  · rename_i q; omega
  · rename_i q0 q1 q2; exact absurd h q1
theorem xen_args {E : xE} (k : Nat) : ∀ (as : List xV) (i : Nat), ∀ q ∈ xl E i (xen as ++ List.replicate k vX), q ∈ lv_args i (as.map (xr E))
  | [], i, q, hq => by simp [xen, xl_rep] at hq
  | v :: t, i, q, hq => by
    unfold xen at hq
    by_cases h1 : v.1 = 1
    · rw [if_pos h1] at hq
      simp only [List.cons_append] at hq
      unfold xl at hq
      rw [if_neg (by omega)] at hq
      unfold xl at hq
      rw [if_pos (show vX.1 = 9 from rfl)] at hq
      rw [List.map_cons]
      simp only [lv_args, xr_cat2 h1, if_true]
      rcases List.mem_cons.mp hq with h | h
      · exact List.mem_cons.mpr (Or.inl h)
      · exact List.mem_cons_of_mem _ (xen_args k t (i + 2) q h)
    · rw [if_neg h1] at hq
      simp only [List.cons_append] at hq
      unfold xl at hq
      rw [List.map_cons]
      simp only [lv_args, xr_cat1 (E := E) (v := v) (by simpa using h1)]
      by_cases h9 : v.1 = 9
      · rw [if_pos h9] at hq
        exact List.mem_cons_of_mem _ (xen_args k t (i + 1) q hq)
      · rw [if_neg h9] at hq
        rcases List.mem_cons.mp hq with h | h
        · exact List.mem_cons.mpr (Or.inl h)
        · exact List.mem_cons_of_mem _ (xen_args k t (i + 1) q h)
theorem xen_len {E : xE} : ∀ (as : List xV), (lg_sl (as.map (xr E))).length = (xen as).length
  | [] => rfl
  | v :: t => by
    have ih := xen_len (E := E) t
    unfold xen
    by_cases h1 : v.1 = 1
    · rw [if_pos h1, List.map_cons]
      simp only [lg_sl, List.flatMap_cons, xr_cat2 h1, if_true] at ih ⊢
      simp [ih]
    · rw [if_neg h1, List.map_cons]
      simp only [lg_sl, List.flatMap_cons, xr_cat1 (E := E) (v := v) (by simpa using h1)] at ih ⊢
      simp [ih]
theorem x_locs {E : xE} {H0 H : Heap} {locs : List Loc} (h : va_S (xA E) H0 H locs) : ∀ q ∈ locs, xA E q.base := h.2.2
theorem x_char {x : Int} (h0 : 0 ≤ x) (h1 : x < 65536) : (Int32.ofInt x).toUInt32.toUInt16.toUInt32.toInt32 = Int32.ofInt x := by
  have e : Int32.ofInt x = Int32.ofNat x.toNat := by obtain ⟨k, rfl⟩ := Int.eq_ofNat_of_zero_le h0; rw [Int.toNat_natCast]; exact Int32.ofInt_eq_ofNat
  rw [e]
  apply Int32.toBitVec_inj.mp
  apply BitVec.eq_of_toNat_eq
  simp
  omega
theorem x_nchar {x : Int} (h0 : 0 ≤ x) (h1 : x < 65536) : narrow .char (.int (Int32.ofInt x)) = .int (Int32.ofInt x) := congrArg Value.int (x_char h0 h1)
theorem xC.of {d bc bs : Nat} {Y : xMD} {as : List xV} {n : Nat} {σ : xW} {K : List xV → Nat → xW → Prop} (L : List xV) (hy : plainName Y.1.cls = true) (hlen : (xen as).length ≤ Y.2.2.1) (hL : xen as ++ List.replicate (Y.2.2.1 - (xen as).length) vX = L) (k : xG d bc bs Y 0 L [] n σ K) : xC d bc bs Y as n σ K := by
  intro E l
  refine Met.ofW (cc := Y.2.1) (maxL := Y.2.2.1) (ret := Y.2.2.2) hy rfl ?_
  intro p e s m args below meth c s₁ B hml hv
  obtain ⟨rfl, hH, hK⟩ := hv
  have hts : ∀ w ∈ Cond.code Y.1 Y.2.1 Y.2.2.1 Y.2.2.2 :: xTB, w.before ((as.map (xr E)).toArray) s = true := atoms_spec (ws := Cond.code Y.1 Y.2.1 Y.2.2.1 Y.2.2.2 :: xTB) B.pre
  have hl := lv_entry (as.map (xr E)) (n := Y.2.2.1) (by rw [xen_len]; exact hlen)
  rw [lg_entry_eq]
  generalize (lg_sl (as.map (xr E)) ++ List.replicate (Y.2.2.1 - (lg_sl (as.map (xr E))).length) Slot.unset).toArray = ls at hl ⊢
  have hlL : lv_has ls Y.2.2.1 (xl E 0 L) := lv_has_mono hl (by rw [← hL]; exact xen_args _ as 0)
  have hr := B.returns
  have hlocks := B.notSynchronized
  have hsz : E.1 ≤ s.heap.size := Nat.le_trans (Nat.le_add_right _ _) hH.2.2
  refine k E p l e (xrm d bc bs) s m _ below meth c bc bs _ ⟨B.exec, B.bytes, hml, findClass_of_methodNamed B.named, fun w hw => hts w (List.mem_cons_of_mem _ hw), hK, ⟨Nat.le_refl _, Nat.le_refl _, Nat.le_refl _, Nat.le_refl _⟩, hsz, ?_⟩ s.heap [] 0 0 ls hH va_S.rf (Nat.le_of_eq (Nat.zero_add _)) (Nat.le_of_eq (Nat.zero_add _)) hlL
  intro r n' σ' pc ls' H locs cells slots hk hok hdg hH' hS' hc1 hc2
  refine W.widen hc1 hc2 ?_
  have hq : ∀ (v : Option Value) (t : State), r.head?.map (xr E) = v → r.length ≤ 1 → t.heap = H → xQ E K ((as.map (xr E)).toArray) s (.returned v) t := fun v t hv hl1 ht => ⟨⟨r, n', σ', by rw [hv], hl1, hk, by rw [ht]; exact hH'⟩, hS'.F ht⟩
  rcases r with _ | ⟨v, _ | ⟨v2, r⟩⟩
  · cases hret : Y.2.2.2 with
    | none =>
      rw [hret] at hr
      exact W.vret B.exec B.bytes hr (fun t ht _ => hq none t rfl (by simp) ht) (x_locs hS') hdg
    | some ty => rw [hret] at hok; cases ty <;> exact absurd hok (by simp [xok])
  · cases hret : Y.2.2.2 with
    | none => rw [hret] at hok; exact absurd hok (by simp [xok])
    | some ty =>
      rw [hret] at hok hr
      obtain ⟨t0, x⟩ := v
      cases ty with
      | int =>
        have ht0 : t0 = 0 := hok
        subst ht0
        exact W.iret B.exec B.bytes hr (fun t ht _ => hq _ t rfl (by simp) ht) (x_locs hS') hdg
      | boolean =>
        obtain ⟨ht0, hx⟩ := hok
        have ht0 : t0 = 0 := ht0
        subst ht0
        refine W.zret B.exec B.bytes hr ?_ (fun t ht _ => hq _ t rfl (by simp) ht) (x_locs hS') hdg
        rcases hx with hx | hx <;> (have hx : x = _ := hx) <;> subst hx <;> rfl
      | char =>
        obtain ⟨ht0, hx⟩ := hok
        have ht0 : t0 = 0 := ht0
        subst ht0
        exact W.zret B.exec B.bytes hr (x_nchar hx.1 hx.2) (fun t ht _ => hq _ t rfl (by simp) ht) (x_locs hS') hdg
      | long =>
        have ht0 : t0 = 1 := hok
        subst ht0
        exact W.lret B.exec B.bytes hr (fun t ht _ => hq _ t rfl (by simp) ht) (x_locs hS') hdg
      | _ => exact absurd hok (by simp [xok])
  · cases hret : Y.2.2.2 with
    | none => rw [hret] at hok; exact absurd hok (by simp [xok])
    | some ty => rw [hret] at hok; cases ty <;> exact absurd hok (by simp [xok])

/-! calls -/
theorem xcat {E : xE} (S : List xV) : (S.map (xr E)).map (fun v => v.category) = S.map (fun v => if v.1 = 1 then 2 else 1) := by
  rw [List.map_map]
  apply List.map_congr_left
  intro v _
  simp only [Function.comp]
  by_cases h : v.1 = 1
  · rw [if_pos h, xr_cat2 h]
  · rw [if_neg h, xr_cat1 (by simpa using h)]
def xob (n : Nat) (c : Int) (ci : Nat) : Bool := decide (0 ≤ c) && decide (c < n) && (xsh c).1 == 0 && (xsh c).2.1 == ci
theorem xob_spec {n : Nat} {c : Int} {ci : Nat} (h : xob n c ci = true) : 0 ≤ c ∧ c < n ∧ (xsh c).1 = 0 ∧ (xsh c).2.1 = ci := by simpa [xob, and_assoc] using h
theorem xTB_good : GoodIn xTB xTB := fun w hw => ⟨hw, good_of_word (List.mem_filter.mp hw).2⟩
theorem xTB_goodc {Y : xMD} (h : Cond.code Y.1 Y.2.1 Y.2.2.1 Y.2.2.2 ∈ xTB) : GoodIn xTB (Cond.code Y.1 Y.2.1 Y.2.2.1 Y.2.2.2 :: xTB) := fun w hw => by
  rcases List.mem_cons.mp hw with rfl | hw
  · exact xTB_good _ h
  · exact xTB_good _ hw
section XCall
variable {p : Program} {l : Launch} {e : Env} {R : Room} {s : State} {m : MethodId} {args : Array Value} {below : List Frame} {meth : Method} {c : Code} {H : Heap} {locs : List Loc} {cells slots : Nat} {Q : State → Prop} {pc mc ms : Nat} {ls : Array Slot} {rest st0 : List Value} {a : Array Value} {E : xE} {K' : List xV → Nat → xW → Prop}
theorem x_after (hr : va_Run p l e R s m args below meth c H locs cells slots mc ms (F0 m pc ls st0) rest (xQ E K' a) (xA E)) (hS : va_S (xA E) s.heap H locs)
    (kk : ∀ (r : List xV) (n : Nat) (σ : xW) (H1 : Heap) (locs1 : List Loc), r.length ≤ 1 → K' r n σ → xH E n σ H1 → va_S (xA E) s.heap H1 locs1 → W p l e R s m args below meth c H1 locs1 (cells + mc) (slots + ms) Q (F0 m (pc + 3) ls (r.map (xr E) ++ rest))) : W p l e R s m args below meth c H locs cells slots Q (F0 m pc ls st0) := by
  intro T hT X
  obtain ⟨v, st₀, t, T', L, h0, X', hL, e1, e2, ⟨⟨r, n, σ, hv, hl1, hk, hH⟩, hz, hkeep⟩, st⟩ := hr T hT X
  rw [h0] at hz hkeep
  have hv : v = r.head?.map (xr E) := Outcome.returned.inj hv
  obtain ⟨t2, a1, b1⟩ := kk r n σ T'.heap (locs ++ L) hl1 hk (by rw [e1]; exact hH)
    ⟨Nat.le_trans hS.1 (by rw [e1]; exact hz), fun q h1 h2 => by rw [e1, hkeep q (Nat.lt_of_lt_of_le h1 hS.1) h2]; exact hS.2.1 q h1 h2, fun q hq => by
      rcases List.mem_append.mp hq with h | h
      · exact hS.2.2 q h
      · exact hL q h⟩ T' rfl X'
  have e3 : v.toList = r.map (xr E) := by
    rw [hv]
    rcases r with _ | ⟨x, _ | ⟨y, r⟩⟩
    · rfl
    · rfl
    · simp at hl1
  rw [← e3] at a1
  exact ⟨t2, st t2 a1, b1⟩
end XCall
section XG2
variable {d bc bs : Nat} {Y : xMD} {pc : Nat} {L S : List xV} {n : Nat} {σ : xW} {K K' : List xV → Nat → xW → Prop}
theorem g_callV {c : Int} {as : List xV} {i ci na d' b1 b2 : Nat} {Y' : xMD} (hd : decode Y.2.1 pc = .ok (.invokevirtual i, 3)) (hm : xMV Y.1.cls i ci na Y') (hs : xob n c ci = true) (hC : xC d' b1 b2 Y' (vR c :: as) n σ K') (hna : as.length = na) (hdd : d' + 1 ≤ d) (hrest : (S.map (fun v => if v.1 = 1 then 2 else 1)).sum ≤ 8)
    (k : ∀ (r : List xV) (n' : Nat) (σ' : xW), r.length ≤ 1 → K' r n' σ' → xG d bc bs Y (pc + 3) L (r ++ S) n' σ' K) : xG d (bc + b1) (bs + b2) Y pc L (as.reverse ++ vR c :: S) n σ K := by
  intro E p l e R s m args below meth c0 mc ms Q F H locs cells slots ls hH hS h1 h2 hl
  obtain ⟨m1, ⟨m2, m3, m4, m4b⟩, m5, m6, m7⟩ := hm
  obtain ⟨s0, s1, s2, s3⟩ := xob_spec hs
  obtain ⟨Fx, Fb, Fml, Fo, Ft, FK, ⟨Fr1, Fr2, Fr3, Fr4⟩, -, -⟩ := id F
  have he := xp_get (E := E) (σ := σ) s0 s1
  rw [xe_obj s2, s3] at he
  obtain ⟨rr, q1, cell, q2, q3, q4, -⟩ := hH.1 _ _ he
  obtain ⟨-, hfc, -⟩ := FK.1.1 ci _ q1
  rw [q1] at m7
  have hrr : rr.1 = Y'.1.cls := Option.some.inj m7
  have hM := hC E l
  have hst : ((as.reverse ++ vR c :: S).map (xr E)) = (as.map (xr E)).reverse ++ .ref (E.1 + c.toNat) :: S.map (xr E) := by rw [List.map_append, List.map_reverse, List.map_cons, xr_R s0]
  have hp : PreV s H Y'.1.cls (E.1 + c.toNat) (xP E (vR c :: as) n σ) (as.map (xr E)) := ⟨xP_blind, ⟨cell, q2, by rw [q4]; rfl, by rw [← hrr, q3]; exact hfc⟩, fun U hU hW => ⟨by rw [List.map_cons, xr_R s0], by rw [hU]; exact hH, xK_warm hW hS hU FK⟩⟩
  have hroom : (xrm d' b1 b2).frames + 1 ≤ R.frames ∧ 8 + (Y'.2.2.1 + 11) + (xrm d' b1 b2).locals ≤ R.locals := ⟨Nat.le_trans hdd Fr1, by show 8 + (Y'.2.2.1 + 11) + 100 * d' ≤ R.locals; omega⟩
  have hRest : 2 * (F0 m pc ls ((as.reverse ++ vR c :: S).map (xr E))).monitorRoom + ((S.map (xr E)).map fun v => v.category).sum ≤ 8 := lv_room (by rw [xcat]; exact hrest)
  have hini := Ft _ m2
  have hcode := Ft _ m3
  refine x_after (rest := S.map (xr E)) (mc := b1) (ms := b2) (K' := K') (E := E) (a := (Value.ref (E.1 + c.toNat) :: as.map (xr E)).toArray) ?_ hS (fun r n' σ' H1 locs1 hl1 hk hH1 hS1 => ?_)
  · rcases m1 with hq | ⟨host, hq⟩
    · have hq1 := Ft _ hq
      exact va_runV (Ts := xTB) ⟨Fx, Fb, Fml, Fo, Ft⟩ hM ⟨callB_of (bytes := Y'.2.1) (maxL := Y'.2.2.1) (ret := Y'.2.2.2) na Ft (xTB_goodc m3) rfl rfl rfl hini hq1 m4 hroom, Ft _ m5, Ft _ m6⟩ hp rfl (by rw [List.length_map]; exact hna) hl.1 hst hRest hd ⟨by omega, by omega⟩
    · have hq1 := FK.2.1 _ hq
      exact va_runVN (Ts := xTB) ⟨Fx, Fb, Fml, Fo, Ft⟩ hM ⟨va_cnB (bytes := Y'.2.1) (maxL := Y'.2.2.1) (ret := Y'.2.2.2) na Ft (xTB_goodc m3) rfl rfl rfl hq1 hini m4 hroom, Ft _ m5, Ft _ m6⟩ hp rfl (by rw [List.length_map]; exact hna) hl.1 hst hRest hd ⟨by omega, by omega⟩
  · rw [← List.map_append]
    exact k r n' σ' hl1 hk E p l e R s m args below meth c0 mc ms Q F H1 locs1 (cells + b1) (slots + b2) ls hH1 hS1 (by omega) (by omega) hl
theorem g_callS {as : List xV} {i na d' b1 b2 : Nat} {Y' : xMD} (hd : decode Y.2.1 pc = .ok (.invokestatic i, 3)) (hm : xMS Y.1.cls i na Y') (hC : xC d' b1 b2 Y' as n σ K') (hna : as.length = na) (hdd : d' + 1 ≤ d) (hrest : (S.map (fun v => if v.1 = 1 then 2 else 1)).sum ≤ 8)
    (k : ∀ (r : List xV) (n' : Nat) (σ' : xW), r.length ≤ 1 → K' r n' σ' → xG d bc bs Y (pc + 3) L (r ++ S) n' σ' K) : xG d (bc + b1) (bs + b2) Y pc L (as.reverse ++ S) n σ K := by
  intro E p l e R s m args below meth c0 mc ms Q F H locs cells slots ls hH hS h1 h2 hl
  obtain ⟨m1, ⟨m2, m3, m4, m4b⟩, m5⟩ := hm
  obtain ⟨Fx, Fb, Fml, Fo, Ft, FK, ⟨Fr1, Fr2, Fr3, Fr4⟩, -, -⟩ := id F
  have hM := hC E l
  have hst : ((as.reverse ++ S).map (xr E)) = (as.map (xr E)).reverse ++ S.map (xr E) := by rw [List.map_append, List.map_reverse]
  have hp : PreS s H (xP E as n σ) (as.map (xr E)) := ⟨xP_blind, fun U hU hW => ⟨rfl, by rw [hU]; exact hH, xK_warm hW hS hU FK⟩⟩
  have hroom : (xrm d' b1 b2).frames + 1 ≤ R.frames ∧ 8 + (Y'.2.2.1 + 11) + (xrm d' b1 b2).locals ≤ R.locals := ⟨Nat.le_trans hdd Fr1, by show 8 + (Y'.2.2.1 + 11) + 100 * d' ≤ R.locals; omega⟩
  have hRest : 2 * (F0 m pc ls ((as.reverse ++ S).map (xr E))).monitorRoom + ((S.map (xr E)).map fun v => v.category).sum ≤ 8 := lv_room (by rw [xcat]; exact hrest)
  have hini := Ft _ m2
  refine x_after (rest := S.map (xr E)) (mc := b1) (ms := b2) (K' := K') (E := E) (a := (as.map (xr E)).toArray) ?_ hS (fun r n' σ' H1 locs1 hl1 hk hH1 hS1 => ?_)
  · rcases m1 with hq | ⟨host, hq⟩
    · have hq1 := Ft _ hq
      exact va_runS (Ts := xTB) ⟨Fx, Fb, Fml, Fo, Ft⟩ hM ⟨callB_of (bytes := Y'.2.1) (maxL := Y'.2.2.1) (ret := Y'.2.2.2) na Ft (xTB_goodc m3) rfl rfl rfl hini hq1 m4 hroom, Ft _ m5⟩ hp rfl (by rw [List.length_map]; exact hna) hl.1 hst hRest hd ⟨by omega, by omega⟩
    · have hq1 := FK.2.1 _ hq
      exact va_runSN (Ts := xTB) ⟨Fx, Fb, Fml, Fo, Ft⟩ hM ⟨va_cnB (bytes := Y'.2.1) (maxL := Y'.2.2.1) (ret := Y'.2.2.2) na Ft (xTB_goodc m3) rfl rfl rfl hq1 hini m4 hroom, Ft _ m5, trivial⟩ hp rfl (by rw [List.length_map]; exact hna) hl.1 hst hRest hd ⟨by omega, by omega⟩
  · rw [← List.map_append]
    exact k r n' σ' hl1 hk E p l e R s m args below meth c0 mc ms Q F H1 locs1 (cells + b1) (slots + b2) ls hH1 hS1 (by omega) (by omega) hl
end XG2
