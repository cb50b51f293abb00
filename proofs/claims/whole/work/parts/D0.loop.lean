theorem dL_law_1440 : decode cL_law 1440 = .ok (.iinc 4 5, 3) := by decide +kernel
theorem dL_law_1443 : decode cL_law 1443 = .ok (.goto (-1420), 3) := by decide +kernel
theorem dL_law_1446 : decode cL_law 1446 = .ok (.iconst 1, 1) := by decide +kernel
theorem dL_law_1447 : decode cL_law 1447 = .ok (.ireturn, 1) := by decide +kernel
def xKL : List xV → Nat → xW → Prop := fun r _ _ => r = [vI 1]
theorem law_out {G : xGt} {d bc bs : Nat} {L : List xV} {σ : xW} : xZ G d bc bs mL_law 1446 L [] 155 σ xKL := z_of (g_ic dL_law_1446 (g_retZ rfl dL_law_1447 (Or.inr rfl) rfl))
theorem law_loop {Ln : Nat} {xs : Nat → Int32} (hLn : Ln ≤ 2560) : ∀ (k i : Nat) (σ : xW), i + k = 512 → XR (300 * (i : Int)) σ σ → xZ (xGL Ln xs) 330 (100 * k) (400 * k) mL_law 23 [vT 100, vR 0, vR 121, vR 154, vI (5 * (i : Int)), vX, vX, vX] [] 155 σ xKL := by
  intro k
  induction k with
  | zero =>
    intro i σ hi h
    exact z_il dL_law_23 rfl (z_tln dL_law_25 rfl rfl (z_slen dL_law_26 (z_ic dL_law_27 (z_isub dL_law_28 (z_cgt dL_law_29 (tgt := 1446) rfl ⟨by omega, by omega⟩ ⟨by omega, by omega⟩ (fun _ => law_out) (fun h2 => absurd h2 (by omega)))))))
  | succ k ih =>
    intro i σ hi h
    refine z_il dL_law_23 rfl (z_tln dL_law_25 rfl rfl (z_slen dL_law_26 (z_ic dL_law_27 (z_isub dL_law_28 (z_cgt dL_law_29 (tgt := 1446) rfl ⟨by omega, by omega⟩ ⟨by omega, by omega⟩ (fun _ => law_out) (fun h2 => ?_))))))
    refine z_tln dL_law_32 rfl rfl (z_il dL_law_33 rfl (z_sld dL_law_35 ⟨by omega, by omega⟩ hLn (z_bi dL_law_36 (by decide) (z_iand dL_law_38 ?_))))
    have hv := xand_63 ((xs (5 * (i : Int)).toNat).toInt)
    generalize xand ((xs (5 * (i : Int)).toNat).toInt) 63 = v at hv ⊢
    have kk : xKK Ln xs i (100 * k) (400 * k) (300 * (i : Int)) xKL := by
      intro σ' hX
      have q := ih (i + 1) σ' (by omega) (by rw [show (300 * ((i + 1 : Nat) : Int)) = 300 * (i : Int) + 300 by omega]; exact hX)
      rw [show (5 * ((i + 1 : Nat) : Int)) = 5 * (i : Int) + 5 by omega] at q
      exact z_inc_4 dL_law_1440 (by decide) rfl (z_goto dL_law_1443 (tgt := 23) rfl q)
    have hi5 : 5 * i + 5 ≤ Ln := by omega
    have hB : 0 ≤ 300 * (i : Int) ∧ 300 * (i : Int) ≤ 1000000 := ⟨by omega, by omega⟩
    refine z_budget (bc' := 100 * k + 100) (bs' := 400 * k + 400) (by omega) (by omega) ?_
    have hc : v = 0 ∨ v = 1 ∨ v = 2 ∨ v = 3 ∨ v = 4 ∨ v = 5 ∨ v = 6 ∨ v = 7 ∨ v = 8 ∨ v = 9 ∨ v = 10 ∨ v = 11 ∨ v = 12 ∨ v = 13 ∨ v = 14 ∨ v = 15 ∨ v = 16 ∨ v = 17 ∨ v = 18 ∨ v = 19 ∨ v = 20 ∨ v = 21 ∨ v = 22 ∨ v = 23 ∨ v = 24 ∨ v = 25 ∨ v = 26 ∨ v = 27 ∨ v = 28 ∨ v = 29 ∨ v = 30 ∨ v = 31 ∨ v = 32 ∨ v = 33 ∨ v = 34 ∨ v = 35 ∨ v = 36 ∨ v = 37 ∨ v = 38 ∨ v = 39 ∨ v = 40 ∨ v = 41 ∨ v = 42 ∨ v = 43 ∨ v = 44 ∨ v = 45 ∨ v = 46 ∨ v = 47 ∨ 48 ≤ v := by omega
    rcases hc with rfl | rfl | rfl | rfl | rfl | rfl | rfl | rfl | rfl | rfl | rfl | rfl | rfl | rfl | rfl | rfl | rfl | rfl | rfl | rfl | rfl | rfl | rfl | rfl | rfl | rfl | rfl | rfl | rfl | rfl | rfl | rfl | rfl | rfl | rfl | rfl | rfl | rfl | rfl | rfl | rfl | rfl | rfl | rfl | rfl | rfl | rfl | rfl | hc
    · exact z_tsI (off := 205) dL_law_39 (tgt := 244) (by decide) (by decide) (by decide) rfl rfl (law_c0 hLn hi5 hB h kk)
    · exact z_tsI (off := 230) dL_law_39 (tgt := 269) (by decide) (by decide) (by decide) rfl rfl (law_c1 hLn hi5 hB h kk)
    · exact z_tsI (off := 255) dL_law_39 (tgt := 294) (by decide) (by decide) (by decide) rfl rfl (law_c2 hLn hi5 hB h kk)
    · exact z_tsI (off := 268) dL_law_39 (tgt := 307) (by decide) (by decide) (by decide) rfl rfl (law_c3 hLn hi5 hB h kk)
    · exact z_tsI (off := 281) dL_law_39 (tgt := 320) (by decide) (by decide) (by decide) rfl rfl (law_c4 hLn hi5 hB h kk)
    · exact z_tsI (off := 294) dL_law_39 (tgt := 333) (by decide) (by decide) (by decide) rfl rfl (law_c5 hLn hi5 hB h kk)
    · exact z_tsI (off := 307) dL_law_39 (tgt := 346) (by decide) (by decide) (by decide) rfl rfl (law_c6 hLn hi5 hB h kk)
    · exact z_tsI (off := 320) dL_law_39 (tgt := 359) (by decide) (by decide) (by decide) rfl rfl (law_c7 hLn hi5 hB h kk)
    · exact z_tsI (off := 388) dL_law_39 (tgt := 427) (by decide) (by decide) (by decide) rfl rfl (law_c8 hLn hi5 hB h kk)
    · exact z_tsI (off := 456) dL_law_39 (tgt := 495) (by decide) (by decide) (by decide) rfl rfl (law_c9 hLn hi5 hB h kk)
    · exact z_tsI (off := 517) dL_law_39 (tgt := 556) (by decide) (by decide) (by decide) rfl rfl (law_c10 hLn hi5 hB h kk)
    · exact z_tsI (off := 542) dL_law_39 (tgt := 581) (by decide) (by decide) (by decide) rfl rfl (law_c11 hLn hi5 hB h kk)
    · exact z_tsI (off := 567) dL_law_39 (tgt := 606) (by decide) (by decide) (by decide) rfl rfl (law_c12 hLn hi5 hB h kk)
    · exact z_tsI (off := 604) dL_law_39 (tgt := 643) (by decide) (by decide) (by decide) rfl rfl (law_c13 hLn hi5 hB h kk)
    · exact z_tsI (off := 653) dL_law_39 (tgt := 692) (by decide) (by decide) (by decide) rfl rfl (law_c14 hLn hi5 hB h kk)
    · exact z_tsI (off := 690) dL_law_39 (tgt := 729) (by decide) (by decide) (by decide) rfl rfl (law_c15 hLn hi5 hB h kk)
    · exact z_tsI (off := 727) dL_law_39 (tgt := 766) (by decide) (by decide) (by decide) rfl rfl (law_c16 hLn hi5 hB h kk)
    · exact z_tsI (off := 740) dL_law_39 (tgt := 779) (by decide) (by decide) (by decide) rfl rfl (law_c17 hLn hi5 hB h kk)
    · exact z_tsI (off := 753) dL_law_39 (tgt := 792) (by decide) (by decide) (by decide) rfl rfl (law_c18 hLn hi5 hB h kk)
    · exact z_tsI (off := 766) dL_law_39 (tgt := 805) (by decide) (by decide) (by decide) rfl rfl (law_c19 hLn hi5 hB h kk)
    · exact z_tsI (off := 779) dL_law_39 (tgt := 818) (by decide) (by decide) (by decide) rfl rfl (law_c20 hLn hi5 hB h kk)
    · exact z_tsI (off := 792) dL_law_39 (tgt := 831) (by decide) (by decide) (by decide) rfl rfl (law_c21 hLn hi5 hB h kk)
    · exact z_tsI (off := 817) dL_law_39 (tgt := 856) (by decide) (by decide) (by decide) rfl rfl (law_c22 hLn hi5 hB h kk)
    · exact z_tsI (off := 842) dL_law_39 (tgt := 881) (by decide) (by decide) (by decide) rfl rfl (law_c23 hLn hi5 hB h kk)
    · exact z_tsI (off := 855) dL_law_39 (tgt := 894) (by decide) (by decide) (by decide) rfl rfl (law_c24 hLn hi5 hB h kk)
    · exact z_tsI (off := 868) dL_law_39 (tgt := 907) (by decide) (by decide) (by decide) rfl rfl (law_c25 hLn hi5 hB h kk)
    · exact z_tsI (off := 881) dL_law_39 (tgt := 920) (by decide) (by decide) (by decide) rfl rfl (law_c26 hLn hi5 hB h kk)
    · exact z_tsI (off := 894) dL_law_39 (tgt := 933) (by decide) (by decide) (by decide) rfl rfl (law_c27 hLn hi5 hB h kk)
    · exact z_tsI (off := 907) dL_law_39 (tgt := 946) (by decide) (by decide) (by decide) rfl rfl (law_c28 hLn hi5 hB h kk)
    · exact z_tsI (off := 920) dL_law_39 (tgt := 959) (by decide) (by decide) (by decide) rfl rfl (law_c29 hLn hi5 hB h kk)
    · exact z_tsI (off := 945) dL_law_39 (tgt := 984) (by decide) (by decide) (by decide) rfl rfl (law_c30 hLn hi5 hB h kk)
    · exact z_tsI (off := 958) dL_law_39 (tgt := 997) (by decide) (by decide) (by decide) rfl rfl (law_c31 hLn hi5 hB h kk)
    · exact z_tsI (off := 983) dL_law_39 (tgt := 1022) (by decide) (by decide) (by decide) rfl rfl (law_c32 hLn hi5 hB h kk)
    · exact z_tsI (off := 996) dL_law_39 (tgt := 1035) (by decide) (by decide) (by decide) rfl rfl (law_c33 hLn hi5 hB h kk)
    · exact z_tsI (off := 1033) dL_law_39 (tgt := 1072) (by decide) (by decide) (by decide) rfl rfl (law_c34 hLn hi5 hB h kk)
    · exact z_tsI (off := 1046) dL_law_39 (tgt := 1085) (by decide) (by decide) (by decide) rfl rfl (law_c35 hLn hi5 hB h kk)
    · exact z_tsI (off := 1059) dL_law_39 (tgt := 1098) (by decide) (by decide) (by decide) rfl rfl (law_c36 hLn hi5 hB h kk)
    · exact z_tsI (off := 1072) dL_law_39 (tgt := 1111) (by decide) (by decide) (by decide) rfl rfl (law_c37 hLn hi5 hB h kk)
    · exact z_tsI (off := 1097) dL_law_39 (tgt := 1136) (by decide) (by decide) (by decide) rfl rfl (law_c38 hLn hi5 hB h kk)
    · exact z_tsI (off := 1110) dL_law_39 (tgt := 1149) (by decide) (by decide) (by decide) rfl rfl (law_c39 hLn hi5 hB h kk)
    · exact z_tsI (off := 1159) dL_law_39 (tgt := 1198) (by decide) (by decide) (by decide) rfl rfl (law_c40 hLn hi5 hB h kk)
    · exact z_tsI (off := 1196) dL_law_39 (tgt := 1235) (by decide) (by decide) (by decide) rfl rfl (law_c41 hLn hi5 hB h kk)
    · exact z_tsI (off := 1209) dL_law_39 (tgt := 1248) (by decide) (by decide) (by decide) rfl rfl (law_c42 hLn hi5 hB h kk)
    · exact z_tsI (off := 1234) dL_law_39 (tgt := 1273) (by decide) (by decide) (by decide) rfl rfl (law_c43 hLn hi5 hB h kk)
    · exact z_tsI (off := 1271) dL_law_39 (tgt := 1310) (by decide) (by decide) (by decide) rfl rfl (law_c44 hLn hi5 hB h kk)
    · exact z_tsI (off := 1296) dL_law_39 (tgt := 1335) (by decide) (by decide) (by decide) rfl rfl (law_c45 hLn hi5 hB h kk)
    · exact z_tsI (off := 1321) dL_law_39 (tgt := 1360) (by decide) (by decide) (by decide) rfl rfl (law_c46 hLn hi5 hB h kk)
    · exact z_tsI (off := 1346) dL_law_39 (tgt := 1385) (by decide) (by decide) (by decide) rfl rfl (law_c47 hLn hi5 hB h kk)
    · exact z_tsO dL_law_39 (tgt := 1440) ⟨by omega, by omega⟩ (Or.inr (by omega)) rfl (z_budget (bc' := 100 * k) (bs' := 400 * k) (by omega) (by omega) (kk σ (XR_mono (by omega) h)))
