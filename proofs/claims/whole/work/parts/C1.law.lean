theorem dL_law_244 : decode cL_law 244 = .ok (.aload_n 1, 1) := by decide +kernel
theorem dL_law_245 : decode cL_law 245 = .ok (.aload_n 0, 1) := by decide +kernel
theorem dL_law_246 : decode cL_law 246 = .ok (.iload 4, 2) := by decide +kernel
theorem dL_law_248 : decode cL_law 248 = .ok (.iconst 1, 1) := by decide +kernel
theorem dL_law_249 : decode cL_law 249 = .ok (.iadd, 1) := by decide +kernel
theorem dL_law_250 : decode cL_law 250 = .ok (.iaload, 1) := by decide +kernel
theorem dL_law_251 : decode cL_law 251 = .ok (.invokevirtual 26, 3) := by decide +kernel
theorem dL_law_254 : decode cL_law 254 = .ok (.aload_n 2, 1) := by decide +kernel
theorem dL_law_255 : decode cL_law 255 = .ok (.aload_n 0, 1) := by decide +kernel
theorem dL_law_256 : decode cL_law 256 = .ok (.iload 4, 2) := by decide +kernel
theorem dL_law_258 : decode cL_law 258 = .ok (.iconst 1, 1) := by decide +kernel
theorem dL_law_259 : decode cL_law 259 = .ok (.iadd, 1) := by decide +kernel
theorem dL_law_260 : decode cL_law 260 = .ok (.iaload, 1) := by decide +kernel
theorem dL_law_261 : decode cL_law 261 = .ok (.invokevirtual 30, 3) := by decide +kernel
theorem dL_law_264 : decode cL_law 264 = .ok (.if_icmp .eq 1176, 3) := by decide +kernel
theorem dL_law_267 : decode cL_law 267 = .ok (.iconst 0, 1) := by decide +kernel
theorem dL_law_268 : decode cL_law 268 = .ok (.ireturn, 1) := by decide +kernel
theorem law_c0 {Ln : Nat} {xs : Nat → Int32} {i bc bs : Nat} {B : Int} {σ : xW} {K : List xV → Nat → xW → Prop} (hLn : Ln ≤ 2560) (hi : 5 * i + 5 ≤ Ln) (hB : 0 ≤ B ∧ B ≤ 1000000) (h : XR B σ σ) (kk : xKK Ln xs i bc bs B K) : xZ (xGL Ln xs) 330 (bc + 100) (bs + 400) mL_law 244 [vT 100, vR 0, vR 121, vR 154, vI (5 * (i : Int)), vX, vX, vX] [] 155 σ K := by
  obtain ⟨r, σ1, τ1, hF, hM, hX⟩ := xstep (cf := F_X10_sign (xs (5 * (i : Int) + 1).toNat).toInt) (mf := F_X11_sign (xs (5 * (i : Int) + 1).toNat).toInt) op_sign (fun σ q hq => xfm_hi (fr_X10_sign hq) (by decide +kernel)) (fun τ q hq => xfm_lo (fr_X11_sign hq) (by decide +kernel)) hB h
  refine z_budget (bc' := bc + 0 + 0) (bs' := bs + 0 + 0) (by omega) (by omega) ?_
  refine z_aln dL_law_244 rfl rfl (by decide) ?_
  refine z_tln dL_law_245 rfl rfl (z_il dL_law_246 rfl (z_ic dL_law_248 (z_iadd dL_law_249 (z_sld dL_law_250 ⟨by omega, by omega⟩ hLn ?_))))
  refine z_callV xGL_s (bc := bc + 0) (bs := bs + 0) (c := 0) (as := [vI (xs (5 * (i : Int) + 1).toNat).toInt]) (S := []) dL_law_251 ml_L_26 rfl (s_X10_sign hF) rfl (by decide) (by decide) (fun r' n' σ' _ hK => ?_)
  obtain ⟨rfl, rfl, rfl⟩ := hK
  refine z_aln dL_law_254 rfl rfl (by decide) ?_
  refine z_tln dL_law_255 rfl rfl (z_il dL_law_256 rfl (z_ic dL_law_258 (z_iadd dL_law_259 (z_sld dL_law_260 ⟨by omega, by omega⟩ hLn ?_))))
  refine z_callV xGL_s (bc := bc) (bs := bs) (c := 121) (as := [vI (xs (5 * (i : Int) + 1).toNat).toInt]) (S := [vI r]) dL_law_261 ml_L_30 rfl (s_X11_sign hM) rfl (by decide) (Nat.le_of_ble_eq_true rfl) (fun r' n' σ' _ hK => ?_)
  obtain ⟨rfl, rfl, rfl⟩ := hK
  exact z_wr2 rfl rfl (z_ceq dL_law_264 (tgt := 1440) rfl (I32_xw _) (I32_xw _) (fun _ => kk _ hX) (fun hne => absurd rfl hne))
theorem dL_law_269 : decode cL_law 269 = .ok (.aload_n 1, 1) := by decide +kernel
theorem dL_law_270 : decode cL_law 270 = .ok (.aload_n 0, 1) := by decide +kernel
theorem dL_law_271 : decode cL_law 271 = .ok (.iload 4, 2) := by decide +kernel
theorem dL_law_273 : decode cL_law 273 = .ok (.iconst 1, 1) := by decide +kernel
theorem dL_law_274 : decode cL_law 274 = .ok (.iadd, 1) := by decide +kernel
theorem dL_law_275 : decode cL_law 275 = .ok (.iaload, 1) := by decide +kernel
theorem dL_law_276 : decode cL_law 276 = .ok (.invokevirtual 31, 3) := by decide +kernel
theorem dL_law_279 : decode cL_law 279 = .ok (.aload_n 2, 1) := by decide +kernel
theorem dL_law_280 : decode cL_law 280 = .ok (.aload_n 0, 1) := by decide +kernel
theorem dL_law_281 : decode cL_law 281 = .ok (.iload 4, 2) := by decide +kernel
theorem dL_law_283 : decode cL_law 283 = .ok (.iconst 1, 1) := by decide +kernel
theorem dL_law_284 : decode cL_law 284 = .ok (.iadd, 1) := by decide +kernel
theorem dL_law_285 : decode cL_law 285 = .ok (.iaload, 1) := by decide +kernel
theorem dL_law_286 : decode cL_law 286 = .ok (.invokevirtual 35, 3) := by decide +kernel
theorem dL_law_289 : decode cL_law 289 = .ok (.if_icmp .eq 1151, 3) := by decide +kernel
theorem dL_law_292 : decode cL_law 292 = .ok (.iconst 0, 1) := by decide +kernel
theorem dL_law_293 : decode cL_law 293 = .ok (.ireturn, 1) := by decide +kernel
theorem law_c1 {Ln : Nat} {xs : Nat → Int32} {i bc bs : Nat} {B : Int} {σ : xW} {K : List xV → Nat → xW → Prop} (hLn : Ln ≤ 2560) (hi : 5 * i + 5 ≤ Ln) (hB : 0 ≤ B ∧ B ≤ 1000000) (h : XR B σ σ) (kk : xKK Ln xs i bc bs B K) : xZ (xGL Ln xs) 330 (bc + 100) (bs + 400) mL_law 269 [vT 100, vR 0, vR 121, vR 154, vI (5 * (i : Int)), vX, vX, vX] [] 155 σ K := by
  obtain ⟨r, σ1, τ1, hF, hM, hX⟩ := xstep (cf := F_X10_end (xs (5 * (i : Int) + 1).toNat).toInt) (mf := F_X11_end (xs (5 * (i : Int) + 1).toNat).toInt) (op_end (I32_toInt _)) (fun σ q hq => xfm_hi (fr_X10_end hq) (by decide +kernel)) (fun τ q hq => xfm_lo (fr_X11_end hq) (by decide +kernel)) hB h
  refine z_budget (bc' := bc + 0 + 0) (bs' := bs + 0 + 0) (by omega) (by omega) ?_
  refine z_aln dL_law_269 rfl rfl (by decide) ?_
  refine z_tln dL_law_270 rfl rfl (z_il dL_law_271 rfl (z_ic dL_law_273 (z_iadd dL_law_274 (z_sld dL_law_275 ⟨by omega, by omega⟩ hLn ?_))))
  refine z_callV xGL_s (bc := bc + 0) (bs := bs + 0) (c := 0) (as := [vI (xs (5 * (i : Int) + 1).toNat).toInt]) (S := []) dL_law_276 ml_L_31 rfl (s_X10_end hF) rfl (by decide) (by decide) (fun r' n' σ' _ hK => ?_)
  obtain ⟨rfl, rfl, rfl⟩ := hK
  refine z_aln dL_law_279 rfl rfl (by decide) ?_
  refine z_tln dL_law_280 rfl rfl (z_il dL_law_281 rfl (z_ic dL_law_283 (z_iadd dL_law_284 (z_sld dL_law_285 ⟨by omega, by omega⟩ hLn ?_))))
  refine z_callV xGL_s (bc := bc) (bs := bs) (c := 121) (as := [vI (xs (5 * (i : Int) + 1).toNat).toInt]) (S := [vI r]) dL_law_286 ml_L_35 rfl (s_X11_end hM) rfl (by decide) (Nat.le_of_ble_eq_true rfl) (fun r' n' σ' _ hK => ?_)
  obtain ⟨rfl, rfl, rfl⟩ := hK
  exact z_wr2 rfl rfl (z_ceq dL_law_289 (tgt := 1440) rfl (I32_xw _) (I32_xw _) (fun _ => kk _ hX) (fun hne => absurd rfl hne))
theorem dL_law_294 : decode cL_law 294 = .ok (.aload_n 1, 1) := by decide +kernel
theorem dL_law_295 : decode cL_law 295 = .ok (.invokevirtual 36, 3) := by decide +kernel
theorem dL_law_298 : decode cL_law 298 = .ok (.aload_n 2, 1) := by decide +kernel
theorem dL_law_299 : decode cL_law 299 = .ok (.invokevirtual 40, 3) := by decide +kernel
theorem dL_law_302 : decode cL_law 302 = .ok (.if_icmp .eq 1138, 3) := by decide +kernel
theorem dL_law_305 : decode cL_law 305 = .ok (.iconst 0, 1) := by decide +kernel
theorem dL_law_306 : decode cL_law 306 = .ok (.ireturn, 1) := by decide +kernel
theorem law_c2 {Ln : Nat} {xs : Nat → Int32} {i bc bs : Nat} {B : Int} {σ : xW} {K : List xV → Nat → xW → Prop} (hLn : Ln ≤ 2560) (hi : 5 * i + 5 ≤ Ln) (hB : 0 ≤ B ∧ B ≤ 1000000) (h : XR B σ σ) (kk : xKK Ln xs i bc bs B K) : xZ (xGL Ln xs) 330 (bc + 100) (bs + 400) mL_law 294 [vT 100, vR 0, vR 121, vR 154, vI (5 * (i : Int)), vX, vX, vX] [] 155 σ K := by
  obtain ⟨r, σ1, τ1, hF, hM, hX⟩ := xstep (cf := F_X10_houses ) (mf := F_X11_houses ) op_houses (fun σ q hq => xfm_hi (fr_X10_houses hq) (by decide +kernel)) (fun τ q hq => xfm_lo (fr_X11_houses hq) (by decide +kernel)) hB h
  refine z_budget (bc' := bc + 90 + 0) (bs' := bs + 360 + 0) (by omega) (by omega) ?_
  refine z_aln dL_law_294 rfl rfl (by decide) ?_
  refine z_callV xGL_s (bc := bc + 90) (bs := bs + 360) (c := 0) (as := []) (S := []) dL_law_295 ml_L_36 rfl (s_X10_houses hF) rfl (by decide) (by decide) (fun r' n' σ' _ hK => ?_)
  obtain ⟨rfl, rfl, rfl⟩ := hK
  refine z_aln dL_law_298 rfl rfl (by decide) ?_
  refine z_callV xGL_s (bc := bc) (bs := bs) (c := 121) (as := []) (S := [vI r]) dL_law_299 ml_L_40 rfl (s_X11_houses hM) rfl (by decide) (Nat.le_of_ble_eq_true rfl) (fun r' n' σ' _ hK => ?_)
  obtain ⟨rfl, rfl, rfl⟩ := hK
  exact z_wr2 rfl rfl (z_ceq dL_law_302 (tgt := 1440) rfl (I32_xw _) (I32_xw _) (fun _ => kk _ hX) (fun hne => absurd rfl hne))
theorem dL_law_307 : decode cL_law 307 = .ok (.aload_n 1, 1) := by decide +kernel
theorem dL_law_308 : decode cL_law 308 = .ok (.invokevirtual 41, 3) := by decide +kernel
theorem dL_law_311 : decode cL_law 311 = .ok (.aload_n 2, 1) := by decide +kernel
theorem dL_law_312 : decode cL_law 312 = .ok (.invokevirtual 44, 3) := by decide +kernel
theorem dL_law_315 : decode cL_law 315 = .ok (.if_icmp .eq 1125, 3) := by decide +kernel
theorem dL_law_318 : decode cL_law 318 = .ok (.iconst 0, 1) := by decide +kernel
theorem dL_law_319 : decode cL_law 319 = .ok (.ireturn, 1) := by decide +kernel
theorem law_c3 {Ln : Nat} {xs : Nat → Int32} {i bc bs : Nat} {B : Int} {σ : xW} {K : List xV → Nat → xW → Prop} (hLn : Ln ≤ 2560) (hi : 5 * i + 5 ≤ Ln) (hB : 0 ≤ B ∧ B ≤ 1000000) (h : XR B σ σ) (kk : xKK Ln xs i bc bs B K) : xZ (xGL Ln xs) 330 (bc + 100) (bs + 400) mL_law 307 [vT 100, vR 0, vR 121, vR 154, vI (5 * (i : Int)), vX, vX, vX] [] 155 σ K := by
  obtain ⟨r, σ1, τ1, hF, hM, hX⟩ := xstep (cf := F_X10_deeds ) (mf := F_X11_deeds ) op_deeds (fun σ q hq => xfm_hi (fr_X10_deeds hq) (by decide +kernel)) (fun τ q hq => xfm_lo (fr_X11_deeds hq) (by decide +kernel)) hB h
  refine z_budget (bc' := bc + 90 + 0) (bs' := bs + 360 + 0) (by omega) (by omega) ?_
  refine z_aln dL_law_307 rfl rfl (by decide) ?_
  refine z_callV xGL_s (bc := bc + 90) (bs := bs + 360) (c := 0) (as := []) (S := []) dL_law_308 ml_L_41 rfl (s_X10_deeds hF) rfl (by decide) (by decide) (fun r' n' σ' _ hK => ?_)
  obtain ⟨rfl, rfl, rfl⟩ := hK
  refine z_aln dL_law_311 rfl rfl (by decide) ?_
  refine z_callV xGL_s (bc := bc) (bs := bs) (c := 121) (as := []) (S := [vI r]) dL_law_312 ml_L_44 rfl (s_X11_deeds hM) rfl (by decide) (Nat.le_of_ble_eq_true rfl) (fun r' n' σ' _ hK => ?_)
  obtain ⟨rfl, rfl, rfl⟩ := hK
  exact z_wr2 rfl rfl (z_ceq dL_law_315 (tgt := 1440) rfl (I32_xw _) (I32_xw _) (fun _ => kk _ hX) (fun hne => absurd rfl hne))
theorem dL_law_320 : decode cL_law 320 = .ok (.aload_n 1, 1) := by decide +kernel
theorem dL_law_321 : decode cL_law 321 = .ok (.invokevirtual 45, 3) := by decide +kernel
theorem dL_law_324 : decode cL_law 324 = .ok (.aload_n 2, 1) := by decide +kernel
theorem dL_law_325 : decode cL_law 325 = .ok (.invokevirtual 48, 3) := by decide +kernel
theorem dL_law_328 : decode cL_law 328 = .ok (.if_icmp .eq 1112, 3) := by decide +kernel
theorem dL_law_331 : decode cL_law 331 = .ok (.iconst 0, 1) := by decide +kernel
theorem dL_law_332 : decode cL_law 332 = .ok (.ireturn, 1) := by decide +kernel
theorem law_c4 {Ln : Nat} {xs : Nat → Int32} {i bc bs : Nat} {B : Int} {σ : xW} {K : List xV → Nat → xW → Prop} (hLn : Ln ≤ 2560) (hi : 5 * i + 5 ≤ Ln) (hB : 0 ≤ B ∧ B ≤ 1000000) (h : XR B σ σ) (kk : xKK Ln xs i bc bs B K) : xZ (xGL Ln xs) 330 (bc + 100) (bs + 400) mL_law 320 [vT 100, vR 0, vR 121, vR 154, vI (5 * (i : Int)), vX, vX, vX] [] 155 σ K := by
  obtain ⟨r, σ1, τ1, hF, hM, hX⟩ := xstep (cf := F_X10_winds ) (mf := F_X11_winds ) op_winds (fun σ q hq => xfm_hi (fr_X10_winds hq) (by decide +kernel)) (fun τ q hq => xfm_lo (fr_X11_winds hq) (by decide +kernel)) hB h
  refine z_budget (bc' := bc + 0 + 0) (bs' := bs + 0 + 0) (by omega) (by omega) ?_
  refine z_aln dL_law_320 rfl rfl (by decide) ?_
  refine z_callV xGL_s (bc := bc + 0) (bs := bs + 0) (c := 0) (as := []) (S := []) dL_law_321 ml_L_45 rfl (s_X10_winds hF) rfl (by decide) (by decide) (fun r' n' σ' _ hK => ?_)
  obtain ⟨rfl, rfl, rfl⟩ := hK
  refine z_aln dL_law_324 rfl rfl (by decide) ?_
  refine z_callV xGL_s (bc := bc) (bs := bs) (c := 121) (as := []) (S := [vI r]) dL_law_325 ml_L_48 rfl (s_X11_winds hM) rfl (by decide) (Nat.le_of_ble_eq_true rfl) (fun r' n' σ' _ hK => ?_)
  obtain ⟨rfl, rfl, rfl⟩ := hK
  exact z_wr2 rfl rfl (z_ceq dL_law_328 (tgt := 1440) rfl (I32_xw _) (I32_xw _) (fun _ => kk _ hX) (fun hne => absurd rfl hne))
theorem dL_law_333 : decode cL_law 333 = .ok (.aload_n 1, 1) := by decide +kernel
theorem dL_law_334 : decode cL_law 334 = .ok (.invokevirtual 49, 3) := by decide +kernel
theorem dL_law_337 : decode cL_law 337 = .ok (.aload_n 2, 1) := by decide +kernel
theorem dL_law_338 : decode cL_law 338 = .ok (.invokevirtual 52, 3) := by decide +kernel
theorem dL_law_341 : decode cL_law 341 = .ok (.if_icmp .eq 1099, 3) := by decide +kernel
theorem dL_law_344 : decode cL_law 344 = .ok (.iconst 0, 1) := by decide +kernel
theorem dL_law_345 : decode cL_law 345 = .ok (.ireturn, 1) := by decide +kernel
theorem law_c5 {Ln : Nat} {xs : Nat → Int32} {i bc bs : Nat} {B : Int} {σ : xW} {K : List xV → Nat → xW → Prop} (hLn : Ln ≤ 2560) (hi : 5 * i + 5 ≤ Ln) (hB : 0 ≤ B ∧ B ≤ 1000000) (h : XR B σ σ) (kk : xKK Ln xs i bc bs B K) : xZ (xGL Ln xs) 330 (bc + 100) (bs + 400) mL_law 333 [vT 100, vR 0, vR 121, vR 154, vI (5 * (i : Int)), vX, vX, vX] [] 155 σ K := by
  obtain ⟨r, σ1, τ1, hF, hM, hX⟩ := xstep (cf := F_X10_damps ) (mf := F_X11_damps ) op_damps (fun σ q hq => xfm_hi (fr_X10_damps hq) (by decide +kernel)) (fun τ q hq => xfm_lo (fr_X11_damps hq) (by decide +kernel)) hB h
  refine z_budget (bc' := bc + 0 + 0) (bs' := bs + 0 + 0) (by omega) (by omega) ?_
  refine z_aln dL_law_333 rfl rfl (by decide) ?_
  refine z_callV xGL_s (bc := bc + 0) (bs := bs + 0) (c := 0) (as := []) (S := []) dL_law_334 ml_L_49 rfl (s_X10_damps hF) rfl (by decide) (by decide) (fun r' n' σ' _ hK => ?_)
  obtain ⟨rfl, rfl, rfl⟩ := hK
  refine z_aln dL_law_337 rfl rfl (by decide) ?_
  refine z_callV xGL_s (bc := bc) (bs := bs) (c := 121) (as := []) (S := [vI r]) dL_law_338 ml_L_52 rfl (s_X11_damps hM) rfl (by decide) (Nat.le_of_ble_eq_true rfl) (fun r' n' σ' _ hK => ?_)
  obtain ⟨rfl, rfl, rfl⟩ := hK
  exact z_wr2 rfl rfl (z_ceq dL_law_341 (tgt := 1440) rfl (I32_xw _) (I32_xw _) (fun _ => kk _ hX) (fun hne => absurd rfl hne))
theorem dL_law_346 : decode cL_law 346 = .ok (.aload_n 1, 1) := by decide +kernel
theorem dL_law_347 : decode cL_law 347 = .ok (.invokevirtual 53, 3) := by decide +kernel
theorem dL_law_350 : decode cL_law 350 = .ok (.aload_n 2, 1) := by decide +kernel
theorem dL_law_351 : decode cL_law 351 = .ok (.invokevirtual 56, 3) := by decide +kernel
theorem dL_law_354 : decode cL_law 354 = .ok (.if_icmp .eq 1086, 3) := by decide +kernel
theorem dL_law_357 : decode cL_law 357 = .ok (.iconst 0, 1) := by decide +kernel
theorem dL_law_358 : decode cL_law 358 = .ok (.ireturn, 1) := by decide +kernel
theorem law_c6 {Ln : Nat} {xs : Nat → Int32} {i bc bs : Nat} {B : Int} {σ : xW} {K : List xV → Nat → xW → Prop} (hLn : Ln ≤ 2560) (hi : 5 * i + 5 ≤ Ln) (hB : 0 ≤ B ∧ B ≤ 1000000) (h : XR B σ σ) (kk : xKK Ln xs i bc bs B K) : xZ (xGL Ln xs) 330 (bc + 100) (bs + 400) mL_law 346 [vT 100, vR 0, vR 121, vR 154, vI (5 * (i : Int)), vX, vX, vX] [] 155 σ K := by
  obtain ⟨r, σ1, τ1, hF, hM, hX⟩ := xstep (cf := F_X10_rule ) (mf := F_X11_rule ) op_rule (fun σ q hq => hi_X10_rule hq) (fun τ q hq => lo_X11_rule hq) hB h
  refine z_budget (bc' := bc + 0 + 0) (bs' := bs + 0 + 0) (by omega) (by omega) ?_
  refine z_aln dL_law_346 rfl rfl (by decide) ?_
  refine z_callV xGL_s (bc := bc + 0) (bs := bs + 0) (c := 0) (as := []) (S := []) dL_law_347 ml_L_53 rfl (s_X10_rule hF) rfl (by decide) (by decide) (fun r' n' σ' _ hK => ?_)
  obtain ⟨rfl, rfl, rfl⟩ := hK
  refine z_aln dL_law_350 rfl rfl (by decide) ?_
  refine z_callV xGL_s (bc := bc) (bs := bs) (c := 121) (as := []) (S := [vI r]) dL_law_351 ml_L_56 rfl (s_X11_rule hM) rfl (by decide) (Nat.le_of_ble_eq_true rfl) (fun r' n' σ' _ hK => ?_)
  obtain ⟨rfl, rfl, rfl⟩ := hK
  exact z_wr2 rfl rfl (z_ceq dL_law_354 (tgt := 1440) rfl (I32_xw _) (I32_xw _) (fun _ => kk _ hX) (fun hne => absurd rfl hne))
theorem dL_law_359 : decode cL_law 359 = .ok (.aload_n 1, 1) := by decide +kernel
theorem dL_law_360 : decode cL_law 360 = .ok (.aload_n 0, 1) := by decide +kernel
theorem dL_law_361 : decode cL_law 361 = .ok (.iload 4, 2) := by decide +kernel
theorem dL_law_363 : decode cL_law 363 = .ok (.iconst 1, 1) := by decide +kernel
theorem dL_law_364 : decode cL_law 364 = .ok (.iadd, 1) := by decide +kernel
theorem dL_law_365 : decode cL_law 365 = .ok (.iaload, 1) := by decide +kernel
theorem dL_law_366 : decode cL_law 366 = .ok (.aload_n 0, 1) := by decide +kernel
theorem dL_law_367 : decode cL_law 367 = .ok (.iload 4, 2) := by decide +kernel
theorem dL_law_369 : decode cL_law 369 = .ok (.iconst 2, 1) := by decide +kernel
theorem dL_law_370 : decode cL_law 370 = .ok (.iadd, 1) := by decide +kernel
theorem dL_law_371 : decode cL_law 371 = .ok (.iaload, 1) := by decide +kernel
theorem dL_law_372 : decode cL_law 372 = .ok (.aload_n 3, 1) := by decide +kernel
theorem dL_law_373 : decode cL_law 373 = .ok (.invokestatic 57, 3) := by decide +kernel
theorem dL_law_376 : decode cL_law 376 = .ok (.istore 5, 2) := by decide +kernel
theorem dL_law_378 : decode cL_law 378 = .ok (.aload_n 2, 1) := by decide +kernel
theorem dL_law_379 : decode cL_law 379 = .ok (.aload_n 0, 1) := by decide +kernel
theorem dL_law_380 : decode cL_law 380 = .ok (.iload 4, 2) := by decide +kernel
theorem dL_law_382 : decode cL_law 382 = .ok (.iconst 1, 1) := by decide +kernel
theorem dL_law_383 : decode cL_law 383 = .ok (.iadd, 1) := by decide +kernel
theorem dL_law_384 : decode cL_law 384 = .ok (.iaload, 1) := by decide +kernel
theorem dL_law_385 : decode cL_law 385 = .ok (.aload_n 0, 1) := by decide +kernel
theorem dL_law_386 : decode cL_law 386 = .ok (.iload 4, 2) := by decide +kernel
theorem dL_law_388 : decode cL_law 388 = .ok (.iconst 2, 1) := by decide +kernel
theorem dL_law_389 : decode cL_law 389 = .ok (.iadd, 1) := by decide +kernel
theorem dL_law_390 : decode cL_law 390 = .ok (.iaload, 1) := by decide +kernel
theorem dL_law_391 : decode cL_law 391 = .ok (.invokevirtual 62, 3) := by decide +kernel
theorem dL_law_394 : decode cL_law 394 = .ok (.istore 6, 2) := by decide +kernel
theorem dL_law_396 : decode cL_law 396 = .ok (.aload_n 2, 1) := by decide +kernel
theorem dL_law_397 : decode cL_law 397 = .ok (.invokevirtual 63, 3) := by decide +kernel
theorem dL_law_400 : decode cL_law 400 = .ok (.iload 5, 2) := by decide +kernel
theorem dL_law_402 : decode cL_law 402 = .ok (.if_icmp .eq 5, 3) := by decide +kernel
theorem dL_law_405 : decode cL_law 405 = .ok (.iconst 0, 1) := by decide +kernel
theorem dL_law_406 : decode cL_law 406 = .ok (.ireturn, 1) := by decide +kernel
theorem dL_law_407 : decode cL_law 407 = .ok (.iload 5, 2) := by decide +kernel
theorem dL_law_409 : decode cL_law 409 = .ok (.ifCond .ne 15, 3) := by decide +kernel
theorem dL_law_412 : decode cL_law 412 = .ok (.aload_n 3, 1) := by decide +kernel
theorem dL_law_413 : decode cL_law 413 = .ok (.iconst 0, 1) := by decide +kernel
theorem dL_law_414 : decode cL_law 414 = .ok (.laload, 1) := by decide +kernel
theorem dL_law_415 : decode cL_law 415 = .ok (.iload 6, 2) := by decide +kernel
theorem dL_law_417 : decode cL_law 417 = .ok (.i2l, 1) := by decide +kernel
theorem dL_law_418 : decode cL_law 418 = .ok (.lcmp, 1) := by decide +kernel
theorem dL_law_419 : decode cL_law 419 = .ok (.ifCond .eq 5, 3) := by decide +kernel
theorem dL_law_422 : decode cL_law 422 = .ok (.iconst 0, 1) := by decide +kernel
theorem dL_law_423 : decode cL_law 423 = .ok (.ireturn, 1) := by decide +kernel
theorem dL_law_424 : decode cL_law 424 = .ok (.goto 1016, 3) := by decide +kernel
theorem law_c7 {Ln : Nat} {xs : Nat → Int32} {i bc bs : Nat} {B : Int} {σ : xW} {K : List xV → Nat → xW → Prop} (hLn : Ln ≤ 2560) (hi : 5 * i + 5 ≤ Ln) (hB : 0 ≤ B ∧ B ≤ 1000000) (h : XR B σ σ) (kk : xKK Ln xs i bc bs B K) : xZ (xGL Ln xs) 330 (bc + 100) (bs + 400) mL_law 359 [vT 100, vR 0, vR 121, vR 154, vI (5 * (i : Int)), vX, vX, vX] [] 155 σ K := by
  have ho : XOt (fun σ : xW => (0 ≤ (xs (5 * (i : Int) + 1).toNat).toInt ∧ (xs (5 * (i : Int) + 1).toNat).toInt < σ 0 14) ∧ (0 ≤ (xs (5 * (i : Int) + 2).toNat).toInt ∧ (xs (5 * (i : Int) + 2).toNat).toInt ≤ 5)) (F_X10_house (xs (5 * (i : Int) + 1).toNat).toInt (xs (5 * (i : Int) + 2).toNat).toInt) (F_X11_house (xs (5 * (i : Int) + 1).toNat).toInt (xs (5 * (i : Int) + 2).toNat).toInt) := op_house (I32_toInt _) (I32_toInt _)
  refine z_budget (bc' := bc + 0 + 0 + 1) (bs' := bs + 0 + 0 + 6) (by omega) (by omega) ?_
  have hn : I32 (σ 0 14) := by have q := h.2.2.2.2.1.1; exact ⟨by omega, by omega⟩
  refine z_aln dL_law_359 rfl rfl (by decide) ?_
  refine z_tln dL_law_360 rfl rfl (z_il dL_law_361 rfl (z_ic dL_law_363 (z_iadd dL_law_364 (z_sld dL_law_365 ⟨by omega, by omega⟩ hLn ?_))))
  refine z_tln dL_law_366 rfl rfl (z_il dL_law_367 rfl (z_ic dL_law_369 (z_iadd dL_law_370 (z_sld dL_law_371 ⟨by omega, by omega⟩ hLn ?_))))
  refine z_aln dL_law_372 rfl rfl (by decide) ?_
  by_cases hv : (fun σ : xW => (0 ≤ (xs (5 * (i : Int) + 1).toNat).toInt ∧ (xs (5 * (i : Int) + 1).toNat).toInt < σ 0 14) ∧ (0 ≤ (xs (5 * (i : Int) + 2).toNat).toInt ∧ (xs (5 * (i : Int) + 2).toNat).toInt ≤ 5)) σ
  · obtain ⟨r, σ1, τ1, hF, hM, hT, hO, hX⟩ := xstepT xw ho (fun σ q hq => xfm_hi (fr_X10_house hq) (by decide +kernel)) (fun τ q hq => xfm_lo (fr_X11_house hq) (by decide +kernel)) hB h hv
    refine z_callW xGL_s xGL_f (bc := bc + 0 + 0) (bs := bs + 0 + 0) (na := 4) (as := [vR 0, vI (xs (5 * (i : Int) + 1).toNat).toInt, vI (xs (5 * (i : Int) + 2).toNat).toInt, vR 154]) (S := []) dL_law_373 (x_tb (tb5 42 (by decide +kernel)) rfl) (x_tb (tb5 43 (by decide +kernel)) rfl) (x_tb (tb1 0 (by decide +kernel)) rfl) (x_tb (tb5 44 (by decide +kernel)) rfl) (by decide +kernel) (by decide) (L_house hF) rfl (by decide) (by decide) (fun r' n' σ' _ hK => ?_)
    obtain ⟨rfl, rfl, rfl⟩ := hK
    refine z_ist_5 dL_law_376 (by decide) rfl (z_aln dL_law_378 rfl rfl (by decide) ?_)
    refine z_tln dL_law_379 rfl rfl (z_il dL_law_380 rfl (z_ic dL_law_382 (z_iadd dL_law_383 (z_sld dL_law_384 ⟨by omega, by omega⟩ hLn ?_))))
    refine z_tln dL_law_385 rfl rfl (z_il dL_law_386 rfl (z_ic dL_law_388 (z_iadd dL_law_389 (z_sld dL_law_390 ⟨by omega, by omega⟩ hLn ?_))))
    refine z_callV xGL_s (bc := bc + 0) (bs := bs + 0) (c := 121) (as := [vI (xs (5 * (i : Int) + 1).toNat).toInt, vI (xs (5 * (i : Int) + 2).toNat).toInt]) (S := []) dL_law_391 ml_L_62 rfl (s_X11_house hM) rfl (by decide) (by decide) (fun r' n' σ' _ hK => ?_)
    obtain ⟨rfl, rfl, rfl⟩ := hK
    refine z_ist_6 dL_law_394 (by decide) rfl (z_aln dL_law_396 rfl rfl (by decide) ?_)
    refine z_callV xGL_s (bc := bc) (bs := bs) (c := 121) (as := []) (S := []) dL_law_397 ml_L_63 rfl (s_X11_thrown (q := 0) (congrArg some hT)) rfl (by decide) (by decide) (fun r' n' σ' _ hK => ?_)
    obtain ⟨rfl, rfl, rfl⟩ := hK
    refine z_il dL_law_400 rfl (z_ceq dL_law_402 (tgt := 407) rfl (by decide) (by decide) (fun _ => ?_) (fun hne => absurd rfl hne))
    refine z_il dL_law_407 rfl (z_zne dL_law_409 (tgt := 424) rfl (by decide) (fun hne => absurd rfl hne) (fun _ => ?_))
    refine z_aln dL_law_412 rfl rfl (by decide) (z_ic dL_law_413 (z_lald 1 dL_law_414 rfl ⟨by decide, by decide⟩ (by decide) ?_))
    rw [hO]
    have q64 : I64 (xw r) := by obtain ⟨q1, q2⟩ := I32_xw r; exact ⟨by omega, by omega⟩
    refine z_il dL_law_415 rfl (z_wi2l dL_law_417 rfl (z_lcmp dL_law_418 q64 q64 ?_))
    rw [xcmp_self]
    exact z_zeq dL_law_419 (tgt := 424) rfl (by decide) (fun _ => z_goto dL_law_424 (tgt := 1440) rfl (z_drop_5 (z_drop_6 (kk _ hX)))) (fun hne => absurd rfl hne)
  · obtain ⟨r, τ1, hM, hT, hX⟩ := xstepTn ho (fun τ q hq => xfm_lo (fr_X11_house hq) (by decide +kernel)) hB h hv
    refine z_callW xGL_s xGL_f (bc := bc + 0 + 0) (bs := bs + 0 + 0) (na := 4) (as := [vR 0, vI (xs (5 * (i : Int) + 1).toNat).toInt, vI (xs (5 * (i : Int) + 2).toNat).toInt, vR 154]) (S := []) dL_law_373 (x_tb (tb5 42 (by decide +kernel)) rfl) (x_tb (tb5 43 (by decide +kernel)) rfl) (x_tb (tb1 0 (by decide +kernel)) rfl) (x_tb (tb5 44 (by decide +kernel)) rfl) (by decide +kernel) (by decide) (Lt_house (I32_toInt _) (I32_toInt _) hn hv) rfl (by decide) (by decide) (fun r' n' σ' _ hK => ?_)
    obtain ⟨rfl, rfl, rfl⟩ := hK
    refine z_ist_5 dL_law_376 (by decide) rfl (z_aln dL_law_378 rfl rfl (by decide) ?_)
    refine z_tln dL_law_379 rfl rfl (z_il dL_law_380 rfl (z_ic dL_law_382 (z_iadd dL_law_383 (z_sld dL_law_384 ⟨by omega, by omega⟩ hLn ?_))))
    refine z_tln dL_law_385 rfl rfl (z_il dL_law_386 rfl (z_ic dL_law_388 (z_iadd dL_law_389 (z_sld dL_law_390 ⟨by omega, by omega⟩ hLn ?_))))
    refine z_callV xGL_s (bc := bc + 0) (bs := bs + 0) (c := 121) (as := [vI (xs (5 * (i : Int) + 1).toNat).toInt, vI (xs (5 * (i : Int) + 2).toNat).toInt]) (S := []) dL_law_391 ml_L_62 rfl (s_X11_house hM) rfl (by decide) (by decide) (fun r' n' σ' _ hK => ?_)
    obtain ⟨rfl, rfl, rfl⟩ := hK
    refine z_ist_6 dL_law_394 (by decide) rfl (z_aln dL_law_396 rfl rfl (by decide) ?_)
    refine z_callV xGL_s (bc := bc) (bs := bs) (c := 121) (as := []) (S := []) dL_law_397 ml_L_63 rfl (s_X11_thrown (q := 1) (congrArg some hT)) rfl (by decide) (by decide) (fun r' n' σ' _ hK => ?_)
    obtain ⟨rfl, rfl, rfl⟩ := hK
    refine z_il dL_law_400 rfl (z_ceq dL_law_402 (tgt := 407) rfl (by decide) (by decide) (fun _ => ?_) (fun hne => absurd rfl hne))
    exact z_il dL_law_407 rfl (z_zne dL_law_409 (tgt := 424) rfl (by decide) (fun _ => z_goto dL_law_424 (tgt := 1440) rfl (z_drop_5 (z_drop_6 (kk _ hX)))) (fun he => absurd he (by decide)))
theorem dL_law_427 : decode cL_law 427 = .ok (.aload_n 1, 1) := by decide +kernel
theorem dL_law_428 : decode cL_law 428 = .ok (.aload_n 0, 1) := by decide +kernel
theorem dL_law_429 : decode cL_law 429 = .ok (.iload 4, 2) := by decide +kernel
theorem dL_law_431 : decode cL_law 431 = .ok (.iconst 1, 1) := by decide +kernel
theorem dL_law_432 : decode cL_law 432 = .ok (.iadd, 1) := by decide +kernel
theorem dL_law_433 : decode cL_law 433 = .ok (.iaload, 1) := by decide +kernel
theorem dL_law_434 : decode cL_law 434 = .ok (.aload_n 0, 1) := by decide +kernel
theorem dL_law_435 : decode cL_law 435 = .ok (.iload 4, 2) := by decide +kernel
theorem dL_law_437 : decode cL_law 437 = .ok (.iconst 2, 1) := by decide +kernel
theorem dL_law_438 : decode cL_law 438 = .ok (.iadd, 1) := by decide +kernel
theorem dL_law_439 : decode cL_law 439 = .ok (.iaload, 1) := by decide +kernel
theorem dL_law_440 : decode cL_law 440 = .ok (.aload_n 3, 1) := by decide +kernel
theorem dL_law_441 : decode cL_law 441 = .ok (.invokestatic 66, 3) := by decide +kernel
theorem dL_law_444 : decode cL_law 444 = .ok (.istore 5, 2) := by decide +kernel
theorem dL_law_446 : decode cL_law 446 = .ok (.aload_n 2, 1) := by decide +kernel
theorem dL_law_447 : decode cL_law 447 = .ok (.aload_n 0, 1) := by decide +kernel
theorem dL_law_448 : decode cL_law 448 = .ok (.iload 4, 2) := by decide +kernel
theorem dL_law_450 : decode cL_law 450 = .ok (.iconst 1, 1) := by decide +kernel
theorem dL_law_451 : decode cL_law 451 = .ok (.iadd, 1) := by decide +kernel
theorem dL_law_452 : decode cL_law 452 = .ok (.iaload, 1) := by decide +kernel
theorem dL_law_453 : decode cL_law 453 = .ok (.aload_n 0, 1) := by decide +kernel
theorem dL_law_454 : decode cL_law 454 = .ok (.iload 4, 2) := by decide +kernel
theorem dL_law_456 : decode cL_law 456 = .ok (.iconst 2, 1) := by decide +kernel
theorem dL_law_457 : decode cL_law 457 = .ok (.iadd, 1) := by decide +kernel
theorem dL_law_458 : decode cL_law 458 = .ok (.iaload, 1) := by decide +kernel
theorem dL_law_459 : decode cL_law 459 = .ok (.invokevirtual 68, 3) := by decide +kernel
theorem dL_law_462 : decode cL_law 462 = .ok (.istore 6, 2) := by decide +kernel
theorem dL_law_464 : decode cL_law 464 = .ok (.aload_n 2, 1) := by decide +kernel
theorem dL_law_465 : decode cL_law 465 = .ok (.invokevirtual 63, 3) := by decide +kernel
theorem dL_law_468 : decode cL_law 468 = .ok (.iload 5, 2) := by decide +kernel
theorem dL_law_470 : decode cL_law 470 = .ok (.if_icmp .eq 5, 3) := by decide +kernel
theorem dL_law_473 : decode cL_law 473 = .ok (.iconst 0, 1) := by decide +kernel
theorem dL_law_474 : decode cL_law 474 = .ok (.ireturn, 1) := by decide +kernel
theorem dL_law_475 : decode cL_law 475 = .ok (.iload 5, 2) := by decide +kernel
theorem dL_law_477 : decode cL_law 477 = .ok (.ifCond .ne 15, 3) := by decide +kernel
theorem dL_law_480 : decode cL_law 480 = .ok (.aload_n 3, 1) := by decide +kernel
theorem dL_law_481 : decode cL_law 481 = .ok (.iconst 0, 1) := by decide +kernel
theorem dL_law_482 : decode cL_law 482 = .ok (.laload, 1) := by decide +kernel
theorem dL_law_483 : decode cL_law 483 = .ok (.iload 6, 2) := by decide +kernel
theorem dL_law_485 : decode cL_law 485 = .ok (.i2l, 1) := by decide +kernel
theorem dL_law_486 : decode cL_law 486 = .ok (.lcmp, 1) := by decide +kernel
theorem dL_law_487 : decode cL_law 487 = .ok (.ifCond .eq 5, 3) := by decide +kernel
theorem dL_law_490 : decode cL_law 490 = .ok (.iconst 0, 1) := by decide +kernel
theorem dL_law_491 : decode cL_law 491 = .ok (.ireturn, 1) := by decide +kernel
theorem dL_law_492 : decode cL_law 492 = .ok (.goto 948, 3) := by decide +kernel
theorem law_c8 {Ln : Nat} {xs : Nat → Int32} {i bc bs : Nat} {B : Int} {σ : xW} {K : List xV → Nat → xW → Prop} (hLn : Ln ≤ 2560) (hi : 5 * i + 5 ≤ Ln) (hB : 0 ≤ B ∧ B ≤ 1000000) (h : XR B σ σ) (kk : xKK Ln xs i bc bs B K) : xZ (xGL Ln xs) 330 (bc + 100) (bs + 400) mL_law 427 [vT 100, vR 0, vR 121, vR 154, vI (5 * (i : Int)), vX, vX, vX] [] 155 σ K := by
  have ho : XOt (fun σ : xW => (0 ≤ (xs (5 * (i : Int) + 1).toNat).toInt ∧ (xs (5 * (i : Int) + 1).toNat).toInt < σ 92 0) ∧ (0 ≤ (xs (5 * (i : Int) + 2).toNat).toInt ∧ (xs (5 * (i : Int) + 2).toNat).toInt ≤ 4)) (F_X10_deed (xs (5 * (i : Int) + 1).toNat).toInt (xs (5 * (i : Int) + 2).toNat).toInt) (F_X11_deed (xs (5 * (i : Int) + 1).toNat).toInt (xs (5 * (i : Int) + 2).toNat).toInt) := op_deed (I32_toInt _) (I32_toInt _)
  refine z_budget (bc' := bc + 0 + 0 + 1) (bs' := bs + 0 + 0 + 6) (by omega) (by omega) ?_
  have hn : I32 (σ 92 0) := by have q := h.2.2.2.2.1.2.2.1; exact ⟨by omega, by omega⟩
  refine z_aln dL_law_427 rfl rfl (by decide) ?_
  refine z_tln dL_law_428 rfl rfl (z_il dL_law_429 rfl (z_ic dL_law_431 (z_iadd dL_law_432 (z_sld dL_law_433 ⟨by omega, by omega⟩ hLn ?_))))
  refine z_tln dL_law_434 rfl rfl (z_il dL_law_435 rfl (z_ic dL_law_437 (z_iadd dL_law_438 (z_sld dL_law_439 ⟨by omega, by omega⟩ hLn ?_))))
  refine z_aln dL_law_440 rfl rfl (by decide) ?_
  by_cases hv : (fun σ : xW => (0 ≤ (xs (5 * (i : Int) + 1).toNat).toInt ∧ (xs (5 * (i : Int) + 1).toNat).toInt < σ 92 0) ∧ (0 ≤ (xs (5 * (i : Int) + 2).toNat).toInt ∧ (xs (5 * (i : Int) + 2).toNat).toInt ≤ 4)) σ
  · obtain ⟨r, σ1, τ1, hF, hM, hT, hO, hX⟩ := xstepT xw ho (fun σ q hq => xfm_hi (fr_X10_deed hq) (by decide +kernel)) (fun τ q hq => xfm_lo (fr_X11_deed hq) (by decide +kernel)) hB h hv
    refine z_callW xGL_s xGL_f (bc := bc + 0 + 0) (bs := bs + 0 + 0) (na := 4) (as := [vR 0, vI (xs (5 * (i : Int) + 1).toNat).toInt, vI (xs (5 * (i : Int) + 2).toNat).toInt, vR 154]) (S := []) dL_law_441 (x_tb (tb5 123 (by decide +kernel)) rfl) (x_tb (tb5 124 (by decide +kernel)) rfl) (x_tb (tb1 0 (by decide +kernel)) rfl) (x_tb (tb5 125 (by decide +kernel)) rfl) (by decide +kernel) (by decide) (L_deed hF) rfl (by decide) (by decide) (fun r' n' σ' _ hK => ?_)
    obtain ⟨rfl, rfl, rfl⟩ := hK
    refine z_ist_5 dL_law_444 (by decide) rfl (z_aln dL_law_446 rfl rfl (by decide) ?_)
    refine z_tln dL_law_447 rfl rfl (z_il dL_law_448 rfl (z_ic dL_law_450 (z_iadd dL_law_451 (z_sld dL_law_452 ⟨by omega, by omega⟩ hLn ?_))))
    refine z_tln dL_law_453 rfl rfl (z_il dL_law_454 rfl (z_ic dL_law_456 (z_iadd dL_law_457 (z_sld dL_law_458 ⟨by omega, by omega⟩ hLn ?_))))
    refine z_callV xGL_s (bc := bc + 0) (bs := bs + 0) (c := 121) (as := [vI (xs (5 * (i : Int) + 1).toNat).toInt, vI (xs (5 * (i : Int) + 2).toNat).toInt]) (S := []) dL_law_459 ml_L_68 rfl (s_X11_deed hM) rfl (by decide) (by decide) (fun r' n' σ' _ hK => ?_)
    obtain ⟨rfl, rfl, rfl⟩ := hK
    refine z_ist_6 dL_law_462 (by decide) rfl (z_aln dL_law_464 rfl rfl (by decide) ?_)
    refine z_callV xGL_s (bc := bc) (bs := bs) (c := 121) (as := []) (S := []) dL_law_465 ml_L_63 rfl (s_X11_thrown (q := 0) (congrArg some hT)) rfl (by decide) (by decide) (fun r' n' σ' _ hK => ?_)
    obtain ⟨rfl, rfl, rfl⟩ := hK
    refine z_il dL_law_468 rfl (z_ceq dL_law_470 (tgt := 475) rfl (by decide) (by decide) (fun _ => ?_) (fun hne => absurd rfl hne))
    refine z_il dL_law_475 rfl (z_zne dL_law_477 (tgt := 492) rfl (by decide) (fun hne => absurd rfl hne) (fun _ => ?_))
    refine z_aln dL_law_480 rfl rfl (by decide) (z_ic dL_law_481 (z_lald 1 dL_law_482 rfl ⟨by decide, by decide⟩ (by decide) ?_))
    rw [hO]
    have q64 : I64 (xw r) := by obtain ⟨q1, q2⟩ := I32_xw r; exact ⟨by omega, by omega⟩
    refine z_il dL_law_483 rfl (z_wi2l dL_law_485 rfl (z_lcmp dL_law_486 q64 q64 ?_))
    rw [xcmp_self]
    exact z_zeq dL_law_487 (tgt := 492) rfl (by decide) (fun _ => z_goto dL_law_492 (tgt := 1440) rfl (z_drop_5 (z_drop_6 (kk _ hX)))) (fun hne => absurd rfl hne)
  · obtain ⟨r, τ1, hM, hT, hX⟩ := xstepTn ho (fun τ q hq => xfm_lo (fr_X11_deed hq) (by decide +kernel)) hB h hv
    refine z_callW xGL_s xGL_f (bc := bc + 0 + 0) (bs := bs + 0 + 0) (na := 4) (as := [vR 0, vI (xs (5 * (i : Int) + 1).toNat).toInt, vI (xs (5 * (i : Int) + 2).toNat).toInt, vR 154]) (S := []) dL_law_441 (x_tb (tb5 123 (by decide +kernel)) rfl) (x_tb (tb5 124 (by decide +kernel)) rfl) (x_tb (tb1 0 (by decide +kernel)) rfl) (x_tb (tb5 125 (by decide +kernel)) rfl) (by decide +kernel) (by decide) (Lt_deed (I32_toInt _) (I32_toInt _) hn hv) rfl (by decide) (by decide) (fun r' n' σ' _ hK => ?_)
    obtain ⟨rfl, rfl, rfl⟩ := hK
    refine z_ist_5 dL_law_444 (by decide) rfl (z_aln dL_law_446 rfl rfl (by decide) ?_)
    refine z_tln dL_law_447 rfl rfl (z_il dL_law_448 rfl (z_ic dL_law_450 (z_iadd dL_law_451 (z_sld dL_law_452 ⟨by omega, by omega⟩ hLn ?_))))
    refine z_tln dL_law_453 rfl rfl (z_il dL_law_454 rfl (z_ic dL_law_456 (z_iadd dL_law_457 (z_sld dL_law_458 ⟨by omega, by omega⟩ hLn ?_))))
    refine z_callV xGL_s (bc := bc + 0) (bs := bs + 0) (c := 121) (as := [vI (xs (5 * (i : Int) + 1).toNat).toInt, vI (xs (5 * (i : Int) + 2).toNat).toInt]) (S := []) dL_law_459 ml_L_68 rfl (s_X11_deed hM) rfl (by decide) (by decide) (fun r' n' σ' _ hK => ?_)
    obtain ⟨rfl, rfl, rfl⟩ := hK
    refine z_ist_6 dL_law_462 (by decide) rfl (z_aln dL_law_464 rfl rfl (by decide) ?_)
    refine z_callV xGL_s (bc := bc) (bs := bs) (c := 121) (as := []) (S := []) dL_law_465 ml_L_63 rfl (s_X11_thrown (q := 1) (congrArg some hT)) rfl (by decide) (by decide) (fun r' n' σ' _ hK => ?_)
    obtain ⟨rfl, rfl, rfl⟩ := hK
    refine z_il dL_law_468 rfl (z_ceq dL_law_470 (tgt := 475) rfl (by decide) (by decide) (fun _ => ?_) (fun hne => absurd rfl hne))
    exact z_il dL_law_475 rfl (z_zne dL_law_477 (tgt := 492) rfl (by decide) (fun _ => z_goto dL_law_492 (tgt := 1440) rfl (z_drop_5 (z_drop_6 (kk _ hX)))) (fun he => absurd he (by decide)))
theorem dL_law_495 : decode cL_law 495 = .ok (.aload_n 1, 1) := by decide +kernel
theorem dL_law_496 : decode cL_law 496 = .ok (.aload_n 0, 1) := by decide +kernel
theorem dL_law_497 : decode cL_law 497 = .ok (.iload 4, 2) := by decide +kernel
theorem dL_law_499 : decode cL_law 499 = .ok (.iconst 1, 1) := by decide +kernel
theorem dL_law_500 : decode cL_law 500 = .ok (.iadd, 1) := by decide +kernel
theorem dL_law_501 : decode cL_law 501 = .ok (.iaload, 1) := by decide +kernel
theorem dL_law_502 : decode cL_law 502 = .ok (.aload_n 0, 1) := by decide +kernel
theorem dL_law_503 : decode cL_law 503 = .ok (.iload 4, 2) := by decide +kernel
theorem dL_law_505 : decode cL_law 505 = .ok (.iconst 2, 1) := by decide +kernel
theorem dL_law_506 : decode cL_law 506 = .ok (.iadd, 1) := by decide +kernel
theorem dL_law_507 : decode cL_law 507 = .ok (.iaload, 1) := by decide +kernel
theorem dL_law_508 : decode cL_law 508 = .ok (.aload_n 0, 1) := by decide +kernel
theorem dL_law_509 : decode cL_law 509 = .ok (.iload 4, 2) := by decide +kernel
theorem dL_law_511 : decode cL_law 511 = .ok (.iconst 3, 1) := by decide +kernel
theorem dL_law_512 : decode cL_law 512 = .ok (.iadd, 1) := by decide +kernel
theorem dL_law_513 : decode cL_law 513 = .ok (.iaload, 1) := by decide +kernel
theorem dL_law_514 : decode cL_law 514 = .ok (.aload_n 0, 1) := by decide +kernel
theorem dL_law_515 : decode cL_law 515 = .ok (.iload 4, 2) := by decide +kernel
theorem dL_law_517 : decode cL_law 517 = .ok (.iconst 4, 1) := by decide +kernel
theorem dL_law_518 : decode cL_law 518 = .ok (.iadd, 1) := by decide +kernel
theorem dL_law_519 : decode cL_law 519 = .ok (.iaload, 1) := by decide +kernel
theorem dL_law_520 : decode cL_law 520 = .ok (.invokevirtual 69, 3) := by decide +kernel
theorem dL_law_523 : decode cL_law 523 = .ok (.aload_n 2, 1) := by decide +kernel
theorem dL_law_524 : decode cL_law 524 = .ok (.aload_n 0, 1) := by decide +kernel
theorem dL_law_525 : decode cL_law 525 = .ok (.iload 4, 2) := by decide +kernel
theorem dL_law_527 : decode cL_law 527 = .ok (.iconst 1, 1) := by decide +kernel
theorem dL_law_528 : decode cL_law 528 = .ok (.iadd, 1) := by decide +kernel
theorem dL_law_529 : decode cL_law 529 = .ok (.iaload, 1) := by decide +kernel
theorem dL_law_530 : decode cL_law 530 = .ok (.aload_n 0, 1) := by decide +kernel
theorem dL_law_531 : decode cL_law 531 = .ok (.iload 4, 2) := by decide +kernel
theorem dL_law_533 : decode cL_law 533 = .ok (.iconst 2, 1) := by decide +kernel
theorem dL_law_534 : decode cL_law 534 = .ok (.iadd, 1) := by decide +kernel
theorem dL_law_535 : decode cL_law 535 = .ok (.iaload, 1) := by decide +kernel
theorem dL_law_536 : decode cL_law 536 = .ok (.aload_n 0, 1) := by decide +kernel
theorem dL_law_537 : decode cL_law 537 = .ok (.iload 4, 2) := by decide +kernel
theorem dL_law_539 : decode cL_law 539 = .ok (.iconst 3, 1) := by decide +kernel
theorem dL_law_540 : decode cL_law 540 = .ok (.iadd, 1) := by decide +kernel
theorem dL_law_541 : decode cL_law 541 = .ok (.iaload, 1) := by decide +kernel
theorem dL_law_542 : decode cL_law 542 = .ok (.aload_n 0, 1) := by decide +kernel
theorem dL_law_543 : decode cL_law 543 = .ok (.iload 4, 2) := by decide +kernel
theorem dL_law_545 : decode cL_law 545 = .ok (.iconst 4, 1) := by decide +kernel
theorem dL_law_546 : decode cL_law 546 = .ok (.iadd, 1) := by decide +kernel
theorem dL_law_547 : decode cL_law 547 = .ok (.iaload, 1) := by decide +kernel
theorem dL_law_548 : decode cL_law 548 = .ok (.invokevirtual 73, 3) := by decide +kernel
theorem dL_law_551 : decode cL_law 551 = .ok (.if_icmp .eq 889, 3) := by decide +kernel
theorem dL_law_554 : decode cL_law 554 = .ok (.iconst 0, 1) := by decide +kernel
theorem dL_law_555 : decode cL_law 555 = .ok (.ireturn, 1) := by decide +kernel
theorem law_c9 {Ln : Nat} {xs : Nat → Int32} {i bc bs : Nat} {B : Int} {σ : xW} {K : List xV → Nat → xW → Prop} (hLn : Ln ≤ 2560) (hi : 5 * i + 5 ≤ Ln) (hB : 0 ≤ B ∧ B ≤ 1000000) (h : XR B σ σ) (kk : xKK Ln xs i bc bs B K) : xZ (xGL Ln xs) 330 (bc + 100) (bs + 400) mL_law 495 [vT 100, vR 0, vR 121, vR 154, vI (5 * (i : Int)), vX, vX, vX] [] 155 σ K := by
  obtain ⟨r, σ1, τ1, hF, hM, hX⟩ := xstep (cf := F_X10_sheet (xs (5 * (i : Int) + 1).toNat).toInt (xs (5 * (i : Int) + 2).toNat).toInt (xs (5 * (i : Int) + 3).toNat).toInt (xs (5 * (i : Int) + 4).toNat).toInt) (mf := F_X11_sheet (xs (5 * (i : Int) + 1).toNat).toInt (xs (5 * (i : Int) + 2).toNat).toInt (xs (5 * (i : Int) + 3).toNat).toInt (xs (5 * (i : Int) + 4).toNat).toInt) (op_sheet (I32_toInt _) (I32_toInt _)) (fun σ q hq => xfm_hi (fr_X10_sheet hq) (by decide +kernel)) (fun τ q hq => xfm_lo (fr_X11_sheet hq) (by decide +kernel)) hB h
  refine z_budget (bc' := bc + 0 + 0) (bs' := bs + 0 + 0) (by omega) (by omega) ?_
  refine z_aln dL_law_495 rfl rfl (by decide) ?_
  refine z_tln dL_law_496 rfl rfl (z_il dL_law_497 rfl (z_ic dL_law_499 (z_iadd dL_law_500 (z_sld dL_law_501 ⟨by omega, by omega⟩ hLn ?_))))
  refine z_tln dL_law_502 rfl rfl (z_il dL_law_503 rfl (z_ic dL_law_505 (z_iadd dL_law_506 (z_sld dL_law_507 ⟨by omega, by omega⟩ hLn ?_))))
  refine z_tln dL_law_508 rfl rfl (z_il dL_law_509 rfl (z_ic dL_law_511 (z_iadd dL_law_512 (z_sld dL_law_513 ⟨by omega, by omega⟩ hLn ?_))))
  refine z_tln dL_law_514 rfl rfl (z_il dL_law_515 rfl (z_ic dL_law_517 (z_iadd dL_law_518 (z_sld dL_law_519 ⟨by omega, by omega⟩ hLn ?_))))
  refine z_callV xGL_s (bc := bc + 0) (bs := bs + 0) (c := 0) (as := [vI (xs (5 * (i : Int) + 1).toNat).toInt, vI (xs (5 * (i : Int) + 2).toNat).toInt, vI (xs (5 * (i : Int) + 3).toNat).toInt, vI (xs (5 * (i : Int) + 4).toNat).toInt]) (S := []) dL_law_520 ml_L_69 rfl (s_X10_sheet hF) rfl (by decide) (by decide) (fun r' n' σ' _ hK => ?_)
  obtain ⟨rfl, rfl, rfl⟩ := hK
  refine z_aln dL_law_523 rfl rfl (by decide) ?_
  refine z_tln dL_law_524 rfl rfl (z_il dL_law_525 rfl (z_ic dL_law_527 (z_iadd dL_law_528 (z_sld dL_law_529 ⟨by omega, by omega⟩ hLn ?_))))
  refine z_tln dL_law_530 rfl rfl (z_il dL_law_531 rfl (z_ic dL_law_533 (z_iadd dL_law_534 (z_sld dL_law_535 ⟨by omega, by omega⟩ hLn ?_))))
  refine z_tln dL_law_536 rfl rfl (z_il dL_law_537 rfl (z_ic dL_law_539 (z_iadd dL_law_540 (z_sld dL_law_541 ⟨by omega, by omega⟩ hLn ?_))))
  refine z_tln dL_law_542 rfl rfl (z_il dL_law_543 rfl (z_ic dL_law_545 (z_iadd dL_law_546 (z_sld dL_law_547 ⟨by omega, by omega⟩ hLn ?_))))
  refine z_callV xGL_s (bc := bc) (bs := bs) (c := 121) (as := [vI (xs (5 * (i : Int) + 1).toNat).toInt, vI (xs (5 * (i : Int) + 2).toNat).toInt, vI (xs (5 * (i : Int) + 3).toNat).toInt, vI (xs (5 * (i : Int) + 4).toNat).toInt]) (S := [vI r]) dL_law_548 ml_L_73 rfl (s_X11_sheet hM) rfl (by decide) (Nat.le_of_ble_eq_true rfl) (fun r' n' σ' _ hK => ?_)
  obtain ⟨rfl, rfl, rfl⟩ := hK
  exact z_wr2 rfl rfl (z_ceq dL_law_551 (tgt := 1440) rfl (I32_xw _) (I32_xw _) (fun _ => kk _ hX) (fun hne => absurd rfl hne))
theorem dL_law_556 : decode cL_law 556 = .ok (.aload_n 1, 1) := by decide +kernel
theorem dL_law_557 : decode cL_law 557 = .ok (.aload_n 0, 1) := by decide +kernel
theorem dL_law_558 : decode cL_law 558 = .ok (.iload 4, 2) := by decide +kernel
theorem dL_law_560 : decode cL_law 560 = .ok (.iconst 1, 1) := by decide +kernel
theorem dL_law_561 : decode cL_law 561 = .ok (.iadd, 1) := by decide +kernel
theorem dL_law_562 : decode cL_law 562 = .ok (.iaload, 1) := by decide +kernel
theorem dL_law_563 : decode cL_law 563 = .ok (.invokevirtual 74, 3) := by decide +kernel
theorem dL_law_566 : decode cL_law 566 = .ok (.aload_n 2, 1) := by decide +kernel
theorem dL_law_567 : decode cL_law 567 = .ok (.aload_n 0, 1) := by decide +kernel
theorem dL_law_568 : decode cL_law 568 = .ok (.iload 4, 2) := by decide +kernel
theorem dL_law_570 : decode cL_law 570 = .ok (.iconst 1, 1) := by decide +kernel
theorem dL_law_571 : decode cL_law 571 = .ok (.iadd, 1) := by decide +kernel
theorem dL_law_572 : decode cL_law 572 = .ok (.iaload, 1) := by decide +kernel
theorem dL_law_573 : decode cL_law 573 = .ok (.invokevirtual 77, 3) := by decide +kernel
theorem dL_law_576 : decode cL_law 576 = .ok (.if_icmp .eq 864, 3) := by decide +kernel
theorem dL_law_579 : decode cL_law 579 = .ok (.iconst 0, 1) := by decide +kernel
theorem dL_law_580 : decode cL_law 580 = .ok (.ireturn, 1) := by decide +kernel
theorem law_c10 {Ln : Nat} {xs : Nat → Int32} {i bc bs : Nat} {B : Int} {σ : xW} {K : List xV → Nat → xW → Prop} (hLn : Ln ≤ 2560) (hi : 5 * i + 5 ≤ Ln) (hB : 0 ≤ B ∧ B ≤ 1000000) (h : XR B σ σ) (kk : xKK Ln xs i bc bs B K) : xZ (xGL Ln xs) 330 (bc + 100) (bs + 400) mL_law 556 [vT 100, vR 0, vR 121, vR 154, vI (5 * (i : Int)), vX, vX, vX] [] 155 σ K := by
  obtain ⟨r, σ1, τ1, hF, hM, hX⟩ := xstep (cf := F_X10_days (xs (5 * (i : Int) + 1).toNat).toInt) (mf := F_X11_days (xs (5 * (i : Int) + 1).toNat).toInt) (op_days (I32_toInt _)) (fun σ q hq => hi_X10_days hq) (fun τ q hq => xfm_lo (fr_X11_days hq) (by decide +kernel)) hB h
  refine z_budget (bc' := bc + 0 + 0) (bs' := bs + 0 + 0) (by omega) (by omega) ?_
  refine z_aln dL_law_556 rfl rfl (by decide) ?_
  refine z_tln dL_law_557 rfl rfl (z_il dL_law_558 rfl (z_ic dL_law_560 (z_iadd dL_law_561 (z_sld dL_law_562 ⟨by omega, by omega⟩ hLn ?_))))
  refine z_callV xGL_s (bc := bc + 0) (bs := bs + 0) (c := 0) (as := [vI (xs (5 * (i : Int) + 1).toNat).toInt]) (S := []) dL_law_563 ml_L_74 rfl (s_X10_days hF) rfl (by decide) (by decide) (fun r' n' σ' _ hK => ?_)
  obtain ⟨rfl, rfl, rfl⟩ := hK
  refine z_aln dL_law_566 rfl rfl (by decide) ?_
  refine z_tln dL_law_567 rfl rfl (z_il dL_law_568 rfl (z_ic dL_law_570 (z_iadd dL_law_571 (z_sld dL_law_572 ⟨by omega, by omega⟩ hLn ?_))))
  refine z_callV xGL_s (bc := bc) (bs := bs) (c := 121) (as := [vI (xs (5 * (i : Int) + 1).toNat).toInt]) (S := [vI r]) dL_law_573 ml_L_77 rfl (s_X11_days hM) rfl (by decide) (Nat.le_of_ble_eq_true rfl) (fun r' n' σ' _ hK => ?_)
  obtain ⟨rfl, rfl, rfl⟩ := hK
  exact z_wr2 rfl rfl (z_ceq dL_law_576 (tgt := 1440) rfl (I32_xw _) (I32_xw _) (fun _ => kk _ hX) (fun hne => absurd rfl hne))
theorem dL_law_581 : decode cL_law 581 = .ok (.aload_n 1, 1) := by decide +kernel
theorem dL_law_582 : decode cL_law 582 = .ok (.aload_n 0, 1) := by decide +kernel
theorem dL_law_583 : decode cL_law 583 = .ok (.iload 4, 2) := by decide +kernel
theorem dL_law_585 : decode cL_law 585 = .ok (.iconst 1, 1) := by decide +kernel
theorem dL_law_586 : decode cL_law 586 = .ok (.iadd, 1) := by decide +kernel
theorem dL_law_587 : decode cL_law 587 = .ok (.iaload, 1) := by decide +kernel
theorem dL_law_588 : decode cL_law 588 = .ok (.invokevirtual 78, 3) := by decide +kernel
theorem dL_law_591 : decode cL_law 591 = .ok (.aload_n 2, 1) := by decide +kernel
theorem dL_law_592 : decode cL_law 592 = .ok (.aload_n 0, 1) := by decide +kernel
theorem dL_law_593 : decode cL_law 593 = .ok (.iload 4, 2) := by decide +kernel
theorem dL_law_595 : decode cL_law 595 = .ok (.iconst 1, 1) := by decide +kernel
theorem dL_law_596 : decode cL_law 596 = .ok (.iadd, 1) := by decide +kernel
theorem dL_law_597 : decode cL_law 597 = .ok (.iaload, 1) := by decide +kernel
theorem dL_law_598 : decode cL_law 598 = .ok (.invokevirtual 81, 3) := by decide +kernel
theorem dL_law_601 : decode cL_law 601 = .ok (.if_icmp .eq 839, 3) := by decide +kernel
theorem dL_law_604 : decode cL_law 604 = .ok (.iconst 0, 1) := by decide +kernel
theorem dL_law_605 : decode cL_law 605 = .ok (.ireturn, 1) := by decide +kernel
theorem law_c11 {Ln : Nat} {xs : Nat → Int32} {i bc bs : Nat} {B : Int} {σ : xW} {K : List xV → Nat → xW → Prop} (hLn : Ln ≤ 2560) (hi : 5 * i + 5 ≤ Ln) (hB : 0 ≤ B ∧ B ≤ 1000000) (h : XR B σ σ) (kk : xKK Ln xs i bc bs B K) : xZ (xGL Ln xs) 330 (bc + 100) (bs + 400) mL_law 581 [vT 100, vR 0, vR 121, vR 154, vI (5 * (i : Int)), vX, vX, vX] [] 155 σ K := by
  obtain ⟨r, σ1, τ1, hF, hM, hX⟩ := xstep (cf := F_X10_buys (xs (5 * (i : Int) + 1).toNat).toInt) (mf := F_X11_buys (xs (5 * (i : Int) + 1).toNat).toInt) (op_buys (I32_toInt _)) (fun σ q hq => hi_X10_buys hq) (fun τ q hq => xfm_lo (fr_X11_buys hq) (by decide +kernel)) hB h
  refine z_budget (bc' := bc + 0 + 0) (bs' := bs + 0 + 0) (by omega) (by omega) ?_
  refine z_aln dL_law_581 rfl rfl (by decide) ?_
  refine z_tln dL_law_582 rfl rfl (z_il dL_law_583 rfl (z_ic dL_law_585 (z_iadd dL_law_586 (z_sld dL_law_587 ⟨by omega, by omega⟩ hLn ?_))))
  refine z_callV xGL_s (bc := bc + 0) (bs := bs + 0) (c := 0) (as := [vI (xs (5 * (i : Int) + 1).toNat).toInt]) (S := []) dL_law_588 ml_L_78 rfl (s_X10_buys hF) rfl (by decide) (by decide) (fun r' n' σ' _ hK => ?_)
  obtain ⟨rfl, rfl, rfl⟩ := hK
  refine z_aln dL_law_591 rfl rfl (by decide) ?_
  refine z_tln dL_law_592 rfl rfl (z_il dL_law_593 rfl (z_ic dL_law_595 (z_iadd dL_law_596 (z_sld dL_law_597 ⟨by omega, by omega⟩ hLn ?_))))
  refine z_callV xGL_s (bc := bc) (bs := bs) (c := 121) (as := [vI (xs (5 * (i : Int) + 1).toNat).toInt]) (S := [vI r]) dL_law_598 ml_L_81 rfl (s_X11_buys hM) rfl (by decide) (Nat.le_of_ble_eq_true rfl) (fun r' n' σ' _ hK => ?_)
  obtain ⟨rfl, rfl, rfl⟩ := hK
  exact z_wr2 rfl rfl (z_ceq dL_law_601 (tgt := 1440) rfl (I32_xw _) (I32_xw _) (fun _ => kk _ hX) (fun hne => absurd rfl hne))
