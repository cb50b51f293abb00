/-! methods that write nothing at all; the three throws -/
def xQp (x : Int) : Array Value → State → Outcome → State → Prop := fun _ st o t => o = .returned (some (.int (Int32.ofInt x))) ∧ t.heap = st.heap
def xCp (Y : xMD) (as : List xV) (σ : xW) (x : Int) : Prop := ∀ (E : xE) (l : Launch), Met l Y.1 (Cond.code Y.1 Y.2.1 Y.2.2.1 Y.2.2.2 :: xTB) (xrm 0 0 0) (xP E as 155 σ) (xQp x) 0 0 (fun _ => False)
def xGP (x : Int) : xGt := fun _ _ _ _ _ s _ args below meth _ mc ms Q H locs => H = s.heap ∧ locs = [] ∧ meth.locks = false ∧ meth.sig.returnType = some .boolean ∧ mc = 0 ∧ ms = 0 ∧ Q = MQ below (xQp x) args s 0 0 (fun _ => False)
section ZP
variable {G : xGt} {d bc bs : Nat} {Y : xMD} {pc : Nat} {L S : List xV} {σ : xW} {K : List xV → Nat → xW → Prop}
theorem z_retP {x : Int} (hx : x = 0 ∨ x = 1) (hd : decode Y.2.1 pc = .ok (.ireturn, 1)) : xZ (xGP x) d bc bs Y pc L [vI x] 155 σ K := by
  intro E p l e R s m args below meth c mc ms Q F H locs hG cells slots ls hH hS h1 h2 hl
  obtain ⟨rfl, rfl, gL, gR, rfl, rfl, rfl⟩ := hG
  obtain rfl : cells = 0 := by omega
  obtain rfl : slots = 0 := by omega
  refine W.zret (v := Int32.ofInt x) F.1 F.2.1 gR ?_ (fun t ht _ => ⟨rfl, ht⟩) (fun q hq => by cases hq) hd gL
  rcases hx with rfl | rfl <;> rfl
theorem xCp.of {as : List xV} {x : Int} (L : List xV) (hr : Y.2.2.2 = some .boolean) (hy : plainName Y.1.cls = true) (hlen : (xen as).length ≤ Y.2.2.1) (hL : xen as ++ List.replicate (Y.2.2.1 - (xen as).length) vX = L) (k : xZ (xGP x) 0 0 0 Y 0 L [] 155 σ (fun _ _ _ => False)) : xCp Y as σ x := by
  intro E l
  refine Met.ofW (cc := Y.2.1) (maxL := Y.2.2.1) (ret := Y.2.2.2) hy rfl ?_
  intro p e s m args below meth c s₁ B hml hv
  obtain ⟨rfl, hH, hK⟩ := hv
  have hts : ∀ w ∈ Cond.code Y.1 Y.2.1 Y.2.2.1 Y.2.2.2 :: xTB, w.before ((as.map (xr E)).toArray) s = true := atoms_spec (ws := Cond.code Y.1 Y.2.1 Y.2.2.1 Y.2.2.2 :: xTB) B.pre
  have hl := lv_entry (as.map (xr E)) (n := Y.2.2.1) (by rw [xen_len]; exact hlen)
  rw [lg_entry_eq]
  generalize (lg_sl (as.map (xr E)) ++ List.replicate (Y.2.2.1 - (lg_sl (as.map (xr E))).length) Slot.unset).toArray = ls at hl ⊢
  have hlL : lv_has ls Y.2.2.1 (xl E 0 L) := lv_has_mono hl (by rw [← hL]; exact xen_args _ as 0)
  have hsz : E.1 ≤ s.heap.size := Nat.le_trans (Nat.le_add_right _ _) hH.2.2
  exact k E p l e (xrm 0 0 0) s m _ below meth c 0 0 _ ⟨B.exec, B.bytes, hml, findClass_of_methodNamed B.named, fun w hw => hts w (List.mem_cons_of_mem _ hw), hK, ⟨Nat.le_refl _, Nat.le_refl _, Nat.le_refl _, Nat.le_refl _⟩, hsz, fun r n' σ' pc' ls' H locs cells slots hk => hk.elim⟩ s.heap [] ⟨rfl, rfl, B.notSynchronized, B.returns.trans hr, rfl, rfl, rfl⟩ 0 0 ls hH va_S.rf (Nat.le_refl _) (Nat.le_refl _) hlL
theorem z_callP {c x : Int} {as : List xV} {i ci na : Nat} {Y' : xMD} (hd : decode Y.2.1 pc = .ok (.invokevirtual i, 3)) (hm : xMV Y.1.cls i ci na Y') (hs : xob 155 c ci = true) (hC : xCp Y' (vR c :: as) σ x) (hna : as.length = na) (hdd : 1 ≤ d) (hrest : (S.map (fun v => if v.1 = 1 then 2 else 1)).sum ≤ 8)
    (k : xZ G d bc bs Y (pc + 3) L (vI x :: S) 155 σ K) : xZ G d bc bs Y pc L (as.reverse ++ vR c :: S) 155 σ K := by
  intro E p l e R s m args below meth c0 mc ms Q F H locs hG cells slots ls hH hS h1 h2 hl
  obtain ⟨m1, ⟨m2, m3, m4, m4b⟩, m5, m6, m7⟩ := hm
  obtain ⟨s0, s1, s2, s3⟩ := xob_spec hs
  obtain ⟨Fx, Fb, Fml, Fo, Ft, FK, ⟨Fr1, Fr2, Fr3, Fr4⟩, -, -⟩ := id F
  have he := xp_get (E := E) (n := 155) (σ := σ) s0 s1
  rw [xe_obj s2, s3] at he
  obtain ⟨rr, q1, cell, q2, q3, q4, -⟩ := hH.1 _ _ he
  obtain ⟨-, hfc, -⟩ := FK.1.1 ci _ q1
  rw [q1] at m7
  have hrr : rr.1 = Y'.1.cls := Option.some.inj m7
  have hM := hC E l
  have hst : ((as.reverse ++ vR c :: S).map (xr E)) = (as.map (xr E)).reverse ++ .ref (E.1 + c.toNat) :: S.map (xr E) := by rw [List.map_append, List.map_reverse, List.map_cons, xr_R s0]
  have hp : PreV s H Y'.1.cls (E.1 + c.toNat) (xP E (vR c :: as) 155 σ) (as.map (xr E)) := ⟨xP_blind, ⟨cell, q2, by rw [q4]; rfl, by rw [← hrr, q3]; exact hfc⟩, fun U hU hW => ⟨by rw [List.map_cons, xr_R s0], by rw [hU]; exact hH, xK_warm hW hS hU FK⟩⟩
  have hroom : (xrm 0 0 0).frames + 1 ≤ R.frames ∧ 8 + (Y'.2.2.1 + 11) + (xrm 0 0 0).locals ≤ R.locals := ⟨Nat.le_trans hdd Fr1, by show 8 + (Y'.2.2.1 + 11) + 100 * 0 ≤ R.locals; omega⟩
  have hRest : 2 * (F0 m pc ls ((as.reverse ++ vR c :: S).map (xr E))).monitorRoom + ((S.map (xr E)).map fun v => v.category).sum ≤ 8 := lv_room (by rw [xcat]; exact hrest)
  have hini := Ft _ m2
  have hrun : va_Run p l e R s m args below meth c0 H locs cells slots 0 0 (F0 m pc ls ((as.reverse ++ vR c :: S).map (xr E))) (S.map (xr E)) (xQp x (Value.ref (E.1 + c.toNat) :: as.map (xr E)).toArray) (fun _ => False) := by
    rcases m1 with hq | ⟨host, hq⟩
    · have hq1 := Ft _ hq
      exact va_runV (Ts := xTB) ⟨Fx, Fb, Fml, Fo, Ft⟩ hM ⟨callB_of (bytes := Y'.2.1) (maxL := Y'.2.2.1) (ret := Y'.2.2.2) na Ft (xTB_goodc m3) rfl rfl rfl hini hq1 m4 hroom, Ft _ m5, Ft _ m6⟩ hp rfl (by rw [List.length_map]; exact hna) hl.1 hst hRest hd ⟨by omega, by omega⟩
    · have hq1 := FK.2.1 _ hq
      exact va_runVN (Ts := xTB) ⟨Fx, Fb, Fml, Fo, Ft⟩ hM ⟨va_cnB (bytes := Y'.2.1) (maxL := Y'.2.2.1) (ret := Y'.2.2.2) na Ft (xTB_goodc m3) rfl rfl rfl hq1 hini m4 hroom, Ft _ m5, Ft _ m6⟩ hp rfl (by rw [List.length_map]; exact hna) hl.1 hst hRest hd ⟨by omega, by omega⟩
  intro T hT X
  obtain ⟨v, st₀, t, T', Lw, h0, X', hL, e1, e2, ⟨hv, hh⟩, st⟩ := hrun T hT X
  obtain rfl : Lw = [] := by
    rcases Lw with _ | ⟨q, Lw⟩
    · rfl
    · exact (hL q List.mem_cons_self).elim
  rw [List.append_nil] at X'
  have hv : v = some (.int (Int32.ofInt x)) := Outcome.returned.inj hv
  subst hv
  obtain ⟨t2, a1, b1⟩ := k E p l e R s m args below meth c0 mc ms Q F H locs hG cells slots ls hH hS h1 h2 hl T' (by rw [e1, hh, h0]) X'
  exact ⟨t2, st t2 a1, b1⟩
end ZP
theorem p_isHouse {a : Int} {σ : xW} (ha : I32 a) (hn : I32 (σ 0 14)) : xCp mX10_isHouse [vR 0, vI a] σ (if 0 ≤ a ∧ a < σ 0 14 then 1 else 0) := by
  refine xCp.of [vR 0, vI a] rfl (by decide +kernel) (Nat.le_of_ble_eq_true rfl) rfl ?_
  refine z_iln dX10_isHouse_0 rfl rfl (z_zlt dX10_isHouse_1 (tgt := 16) rfl ha (fun h => ?_) (fun h => ?_))
  · rw [if_neg (by omega)]
    exact z_ic dX10_isHouse_16 (z_retP (Or.inl rfl) dX10_isHouse_17)
  · refine z_iln dX10_isHouse_4 rfl rfl (z_aln dX10_isHouse_5 rfl rfl (by decide) (z_getI 14 dX10_isHouse_6 fl_X10_93 rfl rfl (z_cge dX10_isHouse_9 (tgt := 16) rfl ha hn (fun h2 => ?_) (fun h2 => ?_))))
    · rw [if_neg (by omega)]
      exact z_ic dX10_isHouse_16 (z_retP (Or.inl rfl) dX10_isHouse_17)
    · rw [if_pos (by omega)]
      exact z_ic dX10_isHouse_12 (z_goto dX10_isHouse_13 (tgt := 17) rfl (z_retP (Or.inr rfl) dX10_isHouse_17))
theorem p_isDeed {a : Int} {σ : xW} (ha : I32 a) (hn : I32 (σ 92 0)) : xCp mX10_isDeed [vR 0, vI a] σ (if 0 ≤ a ∧ a < σ 92 0 then 1 else 0) := by
  refine xCp.of [vR 0, vI a] rfl (by decide +kernel) (Nat.le_of_ble_eq_true rfl) rfl ?_
  refine z_iln dX10_isDeed_0 rfl rfl (z_zlt dX10_isDeed_1 (tgt := 19) rfl ha (fun h => ?_) (fun h => ?_))
  · rw [if_neg (by omega)]
    exact z_ic dX10_isDeed_19 (z_retP (Or.inl rfl) dX10_isDeed_20)
  · refine z_iln dX10_isDeed_4 rfl rfl (z_aln dX10_isDeed_5 rfl rfl (by decide) (z_getC 92 dX10_isDeed_6 fl_X10_75 rfl (by decide) (z_getI 0 dX10_isDeed_9 fl_X10_131 rfl rfl (z_cge dX10_isDeed_12 (tgt := 19) rfl ha hn (fun h2 => ?_) (fun h2 => ?_)))))
    · rw [if_neg (by omega)]
      exact z_ic dX10_isDeed_19 (z_retP (Or.inl rfl) dX10_isDeed_20)
    · rw [if_pos (by omega)]
      exact z_ic dX10_isDeed_15 (z_goto dX10_isDeed_16 (tgt := 20) rfl (z_retP (Or.inr rfl) dX10_isDeed_20))
theorem t_house {l : Launch} {a b : Int} {σ : xW} (hfl : l.flags = flags0) (ha : I32 a) (hb : I32 b) (hn : I32 (σ 0 14)) (h : ¬ ((0 ≤ a ∧ a < σ 0 14) ∧ (0 ≤ b ∧ b ≤ 5))) : xThr l 7 mX10_house [vR 0, vI a, vI b] σ := by
  refine xThr.of [vR 0, vI a, vI b] hfl (by decide +kernel) (Nat.le_of_ble_eq_true rfl) rfl ?_
  have ht : ∀ L, xZ (xGT σ) 7 1 6 mX10_house 17 L [] 155 σ (fun _ _ _ => False) := fun L => z_throw (i := 2) rfl dX10_house_17 dX10_house_20 dX10_house_21 rfl rfl rfl dX10_house_23 dX10_house_26 (by decide)
  refine z_aln dX10_house_0 rfl rfl (by decide) (z_iln dX10_house_1 rfl rfl (z_callP (as := [vI a]) (S := []) dX10_house_2 ml_X10_142 rfl (p_isHouse ha hn) rfl (by decide) (by decide) ?_))
  by_cases h1 : 0 ≤ a ∧ a < σ 0 14
  · rw [if_pos h1]
    refine z_zeq dX10_house_5 (tgt := 17) rfl (by decide) (fun h2 => absurd h2 (by decide)) (fun _ => ?_)
    refine z_iln dX10_house_8 rfl rfl (z_zlt dX10_house_9 (tgt := 17) rfl hb (fun _ => ht _) (fun h3 => ?_))
    exact z_iln dX10_house_12 rfl rfl (z_ic dX10_house_13 (z_cle dX10_house_14 (tgt := 27) rfl hb (by decide) (fun h4 => absurd ⟨h1, h3, h4⟩ h) (fun _ => ht _)))
  · rw [if_neg h1]
    exact z_zeq dX10_house_5 (tgt := 17) rfl (by decide) (fun _ => ht _) (fun h2 => absurd rfl h2)
theorem t_deed {l : Launch} {a b : Int} {σ : xW} (hfl : l.flags = flags0) (ha : I32 a) (hb : I32 b) (hn : I32 (σ 92 0)) (h : ¬ ((0 ≤ a ∧ a < σ 92 0) ∧ (0 ≤ b ∧ b ≤ 4))) : xThr l 7 mX10_deed [vR 0, vI a, vI b] σ := by
  refine xThr.of [vR 0, vI a, vI b] hfl (by decide +kernel) (Nat.le_of_ble_eq_true rfl) rfl ?_
  have ht : ∀ L, xZ (xGT σ) 7 1 6 mX10_deed 17 L [] 155 σ (fun _ _ _ => False) := fun L => z_throw (i := 3) rfl dX10_deed_17 dX10_deed_20 dX10_deed_21 rfl rfl rfl dX10_deed_23 dX10_deed_26 (by decide)
  refine z_aln dX10_deed_0 rfl rfl (by decide) (z_iln dX10_deed_1 rfl rfl (z_callP (as := [vI a]) (S := []) dX10_deed_2 ml_X10_168 rfl (p_isDeed ha hn) rfl (by decide) (by decide) ?_))
  by_cases h1 : 0 ≤ a ∧ a < σ 92 0
  · rw [if_pos h1]
    refine z_zeq dX10_deed_5 (tgt := 17) rfl (by decide) (fun h2 => absurd h2 (by decide)) (fun _ => ?_)
    refine z_iln dX10_deed_8 rfl rfl (z_zlt dX10_deed_9 (tgt := 17) rfl hb (fun _ => ht _) (fun h3 => ?_))
    exact z_iln dX10_deed_12 rfl rfl (z_ic dX10_deed_13 (z_cle dX10_deed_14 (tgt := 27) rfl hb (by decide) (fun h4 => absurd ⟨h1, h3, h4⟩ h) (fun _ => ht _)))
  · rw [if_neg h1]
    exact z_zeq dX10_deed_5 (tgt := 17) rfl (by decide) (fun _ => ht _) (fun h2 => absurd rfl h2)
theorem t_row {l : Launch} {a : Int} {σ : xW} (hfl : l.flags = flags0) (ha : I32 a) (hn : I32 (σ 3 1)) (h : ¬ (0 ≤ a ∧ a < σ 3 1)) : xThr l 7 mX10_row [vR 0, vI a] σ := by
  refine xThr.of [vR 0, vI a] hfl (by decide +kernel) (Nat.le_of_ble_eq_true rfl) rfl ?_
  have ht : ∀ L, xZ (xGT σ) 7 1 6 mX10_row 15 L [] 155 σ (fun _ _ _ => False) := fun L => z_throwW (i := 4) rfl dX10_row_15 dX10_row_18 dX10_row_19 rfl rfl rfl dX10_row_22 dX10_row_25 (by decide)
  refine z_iln dX10_row_0 rfl rfl (z_zlt dX10_row_1 (tgt := 15) rfl ha (fun _ => ht _) (fun h1 => ?_))
  exact z_iln dX10_row_4 rfl rfl (z_aln dX10_row_5 rfl rfl (by decide) (z_getC 3 dX10_row_6 fl_X10_19 rfl (by decide) (z_getI 1 dX10_row_9 fl_X10_407 rfl rfl (z_clt dX10_row_12 (tgt := 26) rfl ha hn (fun h2 => absurd ⟨h1, h2⟩ h) (fun _ => ht _)))))
