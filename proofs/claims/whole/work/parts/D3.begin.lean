/-! the law's beginning, and the claim -/
abbrev xGt0 : Type := xE → Program → Launch → Env → Room → State → MethodId → Array Value → List Frame → Method → Code → Nat → Nat → (State → Prop) → Prop
def xGZ (G : xGt0) (d bc bs : Nat) (Y : xMD) (pc : Nat) (L S : List xV) (n : Nat) (σ : xW) (K : List xV → Nat → xW → Prop) : Prop :=
  ∀ (E : xE) (p : Program) (l : Launch) (e : Env) (R : Room) (s : State) (m : MethodId) (args : Array Value) (below : List Frame) (meth : Method) (c : Code) (mc ms : Nat) (Q : State → Prop), xFN E Y d K p l e R s m args below meth c mc ms Q → G E p l e R s m args below meth c mc ms Q →
  ∀ (H : Heap) (locs : List Loc) (cells slots : Nat) (ls : Array Slot), xHn E n σ H → va_S (xA E) s.heap H locs → (cells + bc ≤ mc ∧ s.heap.size + cells = E.1 + n) → slots + bs ≤ ms → lv_has ls Y.2.2.1 (xl E 0 L) →
  W p l e R s m args below meth c H locs cells slots Q (F0 m pc ls (S.map (xr E)))
section YJ
variable {G : xGt0} {d bc bs : Nat} {Y : xMD} {pc : Nat} {L S : List xV} {n : Nat} {σ σ1 : xW} {K : List xV → Nat → xW → Prop}
theorem y_ic {v : Int} (hd : decode Y.2.1 pc = .ok (.iconst v, 1)) (k : xGZ G d bc bs Y (pc + 1) L (vI v :: S) n σ K) : xGZ G d bc bs Y pc L (S) n σ K := by
  intro E p l e R s m args below meth c mc ms Q F hG H locs cells slots ls hH hS h1 h2 hl
  exact lv_iconst F.1 F.2.1 hd rfl (k E p l e R s m args below meth c mc ms Q F hG H locs cells slots ls hH hS h1 h2 hl)
theorem y_dup {v : xV} (hd : decode Y.2.1 pc = .ok (.dup, 1)) (hv : (v.1 == 1) = false) (k : xGZ G d bc bs Y (pc + 1) L (v :: v :: S) n σ K) : xGZ G d bc bs Y pc L (v :: S) n σ K := by
  intro E p l e R s m args below meth c mc ms Q F hG H locs cells slots ls hH hS h1 h2 hl
  exact lv_dup F.1 F.2.1 hd (xr_cat1 hv) (k E p l e R s m args below meth c mc ms Q F hG H locs cells slots ls hH hS h1 h2 hl)
theorem y_new {i ci N : Nat} {C : String} {T : u_T} {ty : Nat → FieldType} (hd : decode Y.2.1 pc = .ok (.new i, 3)) (hcl : Cond.classLink Y.1.cls i C ∈ xTB) (hinst : Cond.instantiable C N ∈ xTB) (hini : Cond.initialized C ∈ xTB) (hx : xcls[ci]? = some (C, T, N)) (hw : ∀ w ∈ u_ws C T N, w ∈ xTB) (hty : ∀ k, k < N → parseFieldDescriptor (T k).2.2.1 = some (ty k)) (h5 : (n == 155) = false) (h6 : (n + 1 == 155) = false) (hs : ((xsh n).1 == 0 && (xsh n).2.1 == ci) = true) (hdf : ∀ j, j < N → defaultValue (ty j) = vp_V ((xsh n).2.2.map xdf) j)
    (kk : xGZ G d bc bs Y (pc + 3) L (vR n :: S) (n + 1) (xnO σ n) K) : xGZ G d (bc + 1) (bs + N) Y pc L S n σ K := by
  intro E p l e R s m args below meth c0 mc ms Q F hG H locs cells slots ls hH hS h1 h2 hl
  obtain ⟨Fx, Fb, Fml, Fo, Ft, FK, ⟨Fr1, Fr2, Fr3, Fr4⟩, FE, -⟩ := id F
  have h5 : n ≠ 155 := by simpa using h5
  have h6 : n + 1 ≠ 155 := by simpa using h6
  simp only [Bool.and_eq_true, beq_iff_eq] at hs
  refine va_new Fx Fb Ft hw ty hty Fo (Ft _ hcl) (Ft _ hinst) (Ft _ hini) FK.1 hH.1 xp_D hS (fun q hq => (Nat.le_trans FE hq : E.1 ≤ q)) hx (fs := (xsh n).2.2.map xdf) hdf (by omega) (by omega) hd fun q H1 hP1 hD1 hS1 => ?_
  refine w_size fun hsz => ?_
  have hq := new_at hP1 hD1 (by omega)
  subst hq
  have he : xe E (n + 1) (xsh n) (xnO σ n n) = .inr (ci, (xsh n).2.2.map xdf) := by
    rw [xe_obj hs.1, hs.2]
    congr 2
    apply List.ext_getElem?
    intro k
    rw [xfs_get, List.getElem?_map]
    cases hk : (xsh (n : Int)).2.2[k]? with
    | none => rfl
    | some t =>
      simp only [Option.map_some]
      congr 1
      have e1 : xnO σ n n ((0 + k : Nat) : Int) = xdi t := by
        unfold xnO
        rw [if_pos rfl, Nat.zero_add, Int.toNat_natCast, List.getD_eq_getElem?_getD, hk]
        rfl
      rw [e1]
      unfold xdi xfv xdf
      by_cases q0 : t = 0
      · rw [if_pos q0, if_pos q0, if_pos q0]; rfl
      · by_cases q1 : t = 1
        · rw [if_neg q0, if_neg q0, if_neg q0, if_pos q1, if_pos q1, if_pos q1]; rfl
        · by_cases q3 : t = 3
          · rw [if_neg q0, if_neg q0, if_neg q0, if_neg q1, if_neg q1, if_neg q1, if_neg (show ¬ t = 2 by omega), if_pos q3, if_pos q3, if_pos q3]; rfl
          · rw [if_neg q0, if_neg q0, if_neg q0, if_neg q1, if_neg q1, if_neg q1, if_neg q3, if_neg q3, if_neg q3, if_neg h6]
            split <;> rfl
  rw [← he, xp_app h5 h6 (fun c hc => by funext j; unfold xnO; rw [if_neg (by omega)])] at hP1
  have k2 := kk E p l e R s m args below meth c0 mc ms Q F hG H1 locs (cells + 1) (slots + N) ls ⟨hP1, trivial⟩ hS1 ⟨by omega, by omega⟩ (by omega) hl
  exact k2
theorem y_callI {c : Int} {i d' b1 b2 n1 : Nat} {Y' : xMD} (hd : decode Y.2.1 pc = .ok (.invokespecial i, 3)) (hm : xMN Y.1.cls i Y') (hy : xMY Y' 0) (hi : Cond.instanceMethod Y'.1 ∈ xTB) (hin : Y'.1.name = "<init>") (hret : Y'.2.2.2 = none) (hc : 0 ≤ c) (h1n : 1 ≤ n) (hC : xCN d' b1 b2 Y' [vR c] n σ (fun r n' σ' => r = [] ∧ n' = n1 ∧ σ' = σ1)) (hn1 : n + b1 = n1) (hdd : d' + 1 ≤ d) (hrest : decide ((S.map (fun v => if v.1 = 1 then 2 else 1)).sum ≤ 8) = true)
    (kk : xGZ G d bc bs Y (pc + 3) L S n1 σ1 K) : xGZ G d (bc + b1) (bs + b2) Y pc L (vR c :: S) n σ K := by
  intro E p l e R s m args below meth c0 mc ms Q F hG H locs cells slots ls hH hS h1 h2 hl
  obtain ⟨m2, m3, m4, m4b⟩ := hy
  obtain ⟨Fx, Fb, Fml, Fo, Ft, FK, ⟨Fr1, Fr2, Fr3, Fr4⟩, FE, ⟨-, FA⟩, -⟩ := id F
  have hM := hC E l
  have hst : ((vR c :: S).map (xr E)) = ([] : List Value).reverse ++ .ref (E.1 + c.toNat) :: S.map (xr E) := by rw [List.map_cons, xr_R hc]; rfl
  refine w_size fun hsz => ?_
  have hz := xHn_size hH h1n
  have hp : PreS s H (xPn E [vR c] n σ) (.ref (E.1 + c.toNat) :: []) := ⟨xPn_blind, fun U hU hW => ⟨by rw [List.map_cons, List.map_nil, xr_R hc], by rw [hU]; exact hH, xK_warm hW hS hU FK, by rw [hU]; omega, va_AO.moved hW.alike FA⟩⟩
  have hroom : (xrm d' b1 b2).frames + 1 ≤ R.frames ∧ 8 + (Y'.2.2.1 + 11) + (xrm d' b1 b2).locals ≤ R.locals := ⟨Nat.le_trans hdd Fr1, by show 8 + (Y'.2.2.1 + 11) + 100 * d' ≤ R.locals; omega⟩
  have hRest : 2 * (F0 m pc ls ((vR c :: S).map (xr E))).monitorRoom + ((S.map (xr E)).map fun v => v.category).sum ≤ 8 := lv_room (by rw [xcat]; exact of_decide_eq_true hrest)
  have hini := Ft _ m2
  refine xn_after (rest := S.map (xr E)) (mc := b1) (ms := b2) (K' := fun r n' σ' => r = [] ∧ n' = n1 ∧ σ' = σ1) (E := E) (a := (Value.ref (E.1 + c.toNat) :: []).toArray) ?_ hS (fun r n' σ' H1 locs1 hl1 hk hH1 hS1 => ?_)
  · rcases hm with hq | ⟨host, hq⟩
    · have hq1 := Ft _ hq
      have hb := callB_of (bytes := Y'.2.1) (maxL := Y'.2.2.1) (ret := Y'.2.2.2) 0 Ft (xTB_goodc m3) rfl rfl rfl hini hq1 m4 hroom
      rw [hret] at hb
      rw [hret] at hM
      exact va_runI (Ts := xTB) ⟨Fx, Fb, Fml, Fo, Ft⟩ hM ⟨hb, hin, Ft _ hi⟩ hp rfl rfl hl.1 hst hRest hd ⟨by omega, by omega⟩
    · have hq1 := FK.2.1 _ hq
      have hb := va_cnB (bytes := Y'.2.1) (maxL := Y'.2.2.1) (ret := Y'.2.2.2) 0 Ft (xTB_goodc m3) rfl rfl rfl hq1 hini m4 hroom
      rw [hret] at hb
      rw [hret] at hM
      exact va_runIN (Ts := xTB) ⟨Fx, Fb, Fml, Fo, Ft⟩ hM ⟨hb, hin, Ft _ hi⟩ hp rfl rfl hl.1 hst hRest hd ⟨by omega, by omega⟩
  · obtain ⟨rfl, rfl, rfl⟩ := hk
    exact kk E p l e R s m args below meth c0 mc ms Q F hG H1 locs1 (cells + b1) (slots + b2) ls hH1 hS1 ⟨by omega, by omega⟩ (by omega) hl
theorem y_astn0 {j : Fin 4} {i : Nat} {x : Int} {L' : List xV} (hd : decode Y.2.1 pc = .ok (.astore_n j, 1)) (hi : (j : Nat) = i) (hx0 : 0 ≤ x) (hn : i < Y.2.2.1) (hp : ∀ u, L[i - 1]? = some u → 0 < i → u.1 ≠ 1) (hL : L.set i (vR x) = L') (k : xGZ G d bc bs Y (pc + 1) L' S n σ K) : xGZ G d bc bs Y pc L (vR x :: S) n σ K := by
  intro E p l e R s m args below meth c mc ms Q F hG H locs cells slots ls hH hS h1 h2 hl
  have hx : xr E (vR x) = .ref (E.1 + x.toNat) := by unfold xr vR; simp only []; rw [if_neg (by omega)]
  subst hL
  rw [List.map_cons, hx]
  exact lv_astore_n F.1 F.2.1 hd hi hl hn rfl fun ls' hl' => k E p l e R s m args below meth c mc ms Q F hG H locs cells slots ls' hH hS h1 h2 (lv_has_mono hl' (by rw [← hx]; exact xl_set1 hp))
theorem y_astn_1 {x : Int} {a0 a1 : xV} {t : List xV} (hd : decode Y.2.1 pc = .ok (.astore_n 1, 1)) (hx0 : 0 ≤ x) (hn : 1 < Y.2.2.1) (hp : (a0.1 == 1) = false) (k : xGZ G d bc bs Y (pc + 1) (a0 :: vR x :: t) S n σ K) : xGZ G d bc bs Y pc (a0 :: a1 :: t) (vR x :: S) n σ K := y_astn0 (i := 1) hd rfl hx0 hn (fun u hu _ => by simp at hu; subst hu; simpa using hp) rfl k
theorem y_astn_2 {x : Int} {a0 a1 a2 : xV} {t : List xV} (hd : decode Y.2.1 pc = .ok (.astore_n 2, 1)) (hx0 : 0 ≤ x) (hn : 2 < Y.2.2.1) (hp : (a1.1 == 1) = false) (k : xGZ G d bc bs Y (pc + 1) (a0 :: a1 :: vR x :: t) S n σ K) : xGZ G d bc bs Y pc (a0 :: a1 :: a2 :: t) (vR x :: S) n σ K := y_astn0 (i := 2) hd rfl hx0 hn (fun u hu _ => by simp at hu; subst hu; simpa using hp) rfl k
end YJ
def xG0 (Ln : Nat) (xs : Nat → Int32) : xGt0 := fun E p l e R s m args below meth c mc ms Q => xF E mL_law 330 xKL p l e R s m args below meth c mc ms Q ∧ xGL Ln xs E p l e R s m args below meth c mc ms Q s.heap []
theorem xw0_154 (j : Int) : xw0 154 j = 0 := by
  unfold xw0
  rw [if_neg (by decide), if_neg (by decide), if_neg (by decide), if_neg (by decide), if_neg (by decide), if_neg (by decide), if_neg (by decide)]
theorem y_out {Ln : Nat} {xs : Nat → Int32} {d bc bs bc2 bs2 : Nat} {L : List xV} {K : List xV → Nat → xW → Prop} (hb1 : bc2 + 1 ≤ bc) (hb2 : bs2 + 1 ≤ bs) (k : xZ (xGL Ln xs) 330 bc2 bs2 mL_law 19 L [vR 154] 155 xw0 xKL) : xGZ (xG0 Ln xs) d bc bs mL_law 17 L [vI 1] 154 xwF K := by
  intro E p l e R s m args below meth c0 mc ms Q F hG H locs cells slots ls hH hS h1 h2 hl
  obtain ⟨FF, FG⟩ := hG
  obtain ⟨Fx, Fb, Fml, Fo, Ft, FK, ⟨Fr1, Fr2, Fr3, Fr4⟩, FE, -⟩ := id F
  obtain ⟨a0, ha, hb8, hxe, hty2⟩ := xtys_arr (E := E) (n := 155) (σ := xw0) (c := 154) (len := 1) (kd := 2) (ty := .long) rfl rfl rfl xw0_154
  refine va_newa (atype := .long) (ty := .long) Fx Fb (Ft _ ac_2) rfl FK.1 hH.1 xp_D hS (fun q hq => (Nat.le_trans FE hq : E.1 ≤ q)) (n := Int32.ofInt 1) (N' := 1) (a0 := a0) ha (by decide) (by decide) (by omega) (by omega) (by omega) dL_law_17 fun q cA H1 hK1 hP1 hD1 hS1 => ?_
  refine w_size fun hsz => ?_
  have hq := new_at hP1 hD1 (by omega)
  subst hq
  have hcA : cA = E.2.2.2 2 := hty2 cA s FK.1 (hK1.2 (xtys E).length (cA, .long) (by simp)).2
  subst hcA
  have hlen : (xp E 154 xwF).length = 154 := by unfold xp; simp
  have hP2 : va_P E.2.2.1 xcls (xp E 155 xw0) H1 := by
    intro i q hi
    have hi155 : i < 155 := by
      have := (List.getElem?_eq_some_iff.mp hi).1
      unfold xp at this
      simpa using this
    have g1 := xp_get (E := E) (n := 155) (σ := xw0) (c := (i : Int)) (by omega) (by omega)
    rw [Int.toNat_natCast] at g1
    rw [g1] at hi
    cases hi
    by_cases hi154 : i < 154
    · have g2 := xp_get (E := E) (n := 154) (σ := xwF) (c := (i : Int)) (by omega) (by omega)
      rw [Int.toNat_natCast] at g2
      exact xck_at (xwF_ok hi154) (hP1 i _ (by rw [List.getElem?_append_left (by omega)]; exact g2))
    · obtain rfl : i = 154 := by omega
      have g3 := hP1 154 (E.1 + 154, .inl (E.2.2.2 2, a0)) (by rw [List.getElem?_append_right (by omega)]; simp [hlen])
      have e : xe E 155 (xsh ((154 : Nat) : Int)) (xw0 ((154 : Nat) : Int)) = .inl (E.2.2.2 2, a0) := hxe
      rw [e]
      exact g3
  exact k E p l e R s m args below meth c0 mc ms Q FF H1 locs (xGL_s _ _ _ _ _ _ _ _ _ _ _ _ _ _ _ _ _ _ FG) (cells + 1) (slots + 1) ls (xH155 hP2) hS1 (by omega) (by omega) hl
theorem cl_L_8 : Cond.classLink RL 8 RX10 ∈ xTB := x_tb (tb1 26 (by decide +kernel)) rfl
theorem cl_L_23 : Cond.classLink RL 23 RX11 ∈ xTB := x_tb (tb5 143 (by decide +kernel)) rfl
theorem iz_X10 : Cond.initialized RX10 ∈ xTB := x_tb (tb1 1 (by decide +kernel)) rfl
theorem iz_X11 : Cond.initialized RX11 ∈ xTB := x_tb (tb1 14 (by decide +kernel)) rfl
theorem mn_L_22 : xMN RL 22 mX10_init := Or.inl (x_tb (tb1 28 (by decide +kernel)) rfl)
theorem mn_L_25 : xMN RL 25 mX11_init := Or.inl (x_tb (tb5 145 (by decide +kernel)) rfl)
theorem law_begin {Ln : Nat} {xs : Nat → Int32} (hLn : Ln ≤ 2560) : xGZ (xG0 Ln xs) 330 51355 208665 mL_law 0 [vT 100, vX, vX, vX, vX, vX, vX, vX] [] 0 (fun _ _ => 0) (fun _ _ _ => False) := by
  refine y_new (bc := 51354) (bs := 208647) (ci := 10) (N := 18) (T := TX10) (ty := tyX10) dL_law_0 cl_L_8 in_X10 iz_X10 rfl wX10 tyX10_ok rfl rfl rfl (fun j hj => by
    have hj2 : j = 0 ∨ j = 1 ∨ j = 2 ∨ j = 3 ∨ j = 4 ∨ j = 5 ∨ j = 6 ∨ j = 7 ∨ j = 8 ∨ j = 9 ∨ j = 10 ∨ j = 11 ∨ j = 12 ∨ j = 13 ∨ j = 14 ∨ j = 15 ∨ j = 16 ∨ j = 17 := by omega
    rcases hj2 with rfl | rfl | rfl | rfl | rfl | rfl | rfl | rfl | rfl | rfl | rfl | rfl | rfl | rfl | rfl | rfl | rfl | rfl <;> rfl) ?_
  refine y_dup dL_law_3 rfl ?_
  refine y_callI (bc := 51234) (bs := 207188) (b1 := 120) (b2 := 1459) (n1 := 121) dL_law_4 mn_L_22 my_X10_init mi_X10_init rfl rfl (by decide) (by decide) k_X10_0 rfl (by decide) rfl ?_
  refine y_astn_1 dL_law_7 (by decide) (by decide) rfl ?_
  refine y_new (bc := 51233) (bs := 207136) (ci := 11) (N := 52) (T := TX11) (ty := tyX11) dL_law_8 cl_L_23 in_X11 iz_X11 rfl wX11 tyX11_ok rfl rfl rfl (fun j hj => by
    have hj2 : j = 0 ∨ j = 1 ∨ j = 2 ∨ j = 3 ∨ j = 4 ∨ j = 5 ∨ j = 6 ∨ j = 7 ∨ j = 8 ∨ j = 9 ∨ j = 10 ∨ j = 11 ∨ j = 12 ∨ j = 13 ∨ j = 14 ∨ j = 15 ∨ j = 16 ∨ j = 17 ∨ j = 18 ∨ j = 19 ∨ j = 20 ∨ j = 21 ∨ j = 22 ∨ j = 23 ∨ j = 24 ∨ j = 25 ∨ j = 26 ∨ j = 27 ∨ j = 28 ∨ j = 29 ∨ j = 30 ∨ j = 31 ∨ j = 32 ∨ j = 33 ∨ j = 34 ∨ j = 35 ∨ j = 36 ∨ j = 37 ∨ j = 38 ∨ j = 39 ∨ j = 40 ∨ j = 41 ∨ j = 42 ∨ j = 43 ∨ j = 44 ∨ j = 45 ∨ j = 46 ∨ j = 47 ∨ j = 48 ∨ j = 49 ∨ j = 50 ∨ j = 51 := by omega
    rcases hj2 with rfl | rfl | rfl | rfl | rfl | rfl | rfl | rfl | rfl | rfl | rfl | rfl | rfl | rfl | rfl | rfl | rfl | rfl | rfl | rfl | rfl | rfl | rfl | rfl | rfl | rfl | rfl | rfl | rfl | rfl | rfl | rfl | rfl | rfl | rfl | rfl | rfl | rfl | rfl | rfl | rfl | rfl | rfl | rfl | rfl | rfl | rfl | rfl | rfl | rfl | rfl | rfl <;> rfl) ?_
  refine y_dup dL_law_11 rfl ?_
  refine y_callI (bc := 51201) (bs := 204801) (b1 := 32) (b2 := 2335) (n1 := 154) dL_law_12 mn_L_25 my_X11_init mi_X11_init rfl rfl (by decide) (by decide) k_X11_121 rfl (by decide) rfl ?_
  refine y_astn_2 dL_law_15 (by decide) (by decide) rfl (y_ic dL_law_16 ?_)
  refine y_out (bc2 := 51200) (bs2 := 204800) (by decide) (by decide) ?_
  have q := law_loop (xs := xs) hLn 512 0 xw0 rfl xw0_XR
  exact z_astn_3 dL_law_19 (by decide) (by decide) rfl (z_ic dL_law_20 (z_ist_4 dL_law_21 (by decide) rfl q))
