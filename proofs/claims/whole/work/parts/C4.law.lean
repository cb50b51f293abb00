theorem dL_law_1098 : decode cL_law 1098 = .ok (.aload_n 1, 1) := by decide +kernel
theorem dL_law_1099 : decode cL_law 1099 = .ok (.invokevirtual 179, 3) := by decide +kernel
theorem dL_law_1102 : decode cL_law 1102 = .ok (.aload_n 2, 1) := by decide +kernel
theorem dL_law_1103 : decode cL_law 1103 = .ok (.invokevirtual 182, 3) := by decide +kernel
theorem dL_law_1106 : decode cL_law 1106 = .ok (.if_icmp .eq 334, 3) := by decide +kernel
theorem dL_law_1109 : decode cL_law 1109 = .ok (.iconst 0, 1) := by decide +kernel
theorem dL_law_1110 : decode cL_law 1110 = .ok (.ireturn, 1) := by decide +kernel
theorem law_c36 {Ln : Nat} {xs : Nat → Int32} {i bc bs : Nat} {B : Int} {σ : xW} {K : List xV → Nat → xW → Prop} (hLn : Ln ≤ 2560) (hi : 5 * i + 5 ≤ Ln) (hB : 0 ≤ B ∧ B ≤ 1000000) (h : XR B σ σ) (kk : xKK Ln xs i bc bs B K) : xZ (xGL Ln xs) 330 (bc + 100) (bs + 400) mL_law 1098 [vT 100, vR 0, vR 121, vR 154, vI (5 * (i : Int)), vX, vX, vX] [] 155 σ K := by
  obtain ⟨r, σ1, τ1, hF, hM, hX⟩ := xstep (cf := F_X10_asks ) (mf := F_X11_asks ) op_asks (fun σ q hq => xfm_hi (fr_X10_asks hq) (by decide +kernel)) (fun τ q hq => xfm_lo (fr_X11_asks hq) (by decide +kernel)) hB h
  refine z_budget (bc' := bc + 0 + 0) (bs' := bs + 0 + 0) (by omega) (by omega) ?_
  refine z_aln dL_law_1098 rfl rfl (by decide) ?_
  refine z_callV xGL_s (bc := bc + 0) (bs := bs + 0) (c := 0) (as := []) (S := []) dL_law_1099 ml_L_179 rfl (s_X10_asks hF) rfl (by decide) (by decide) (fun r' n' σ' _ hK => ?_)
  obtain ⟨rfl, rfl, rfl⟩ := hK
  refine z_aln dL_law_1102 rfl rfl (by decide) ?_
  refine z_callV xGL_s (bc := bc) (bs := bs) (c := 121) (as := []) (S := [vI r]) dL_law_1103 ml_L_182 rfl (s_X11_asks hM) rfl (by decide) (Nat.le_of_ble_eq_true rfl) (fun r' n' σ' _ hK => ?_)
  obtain ⟨rfl, rfl, rfl⟩ := hK
  exact z_wr2 rfl rfl (z_ceq dL_law_1106 (tgt := 1440) rfl (I32_xw _) (I32_xw _) (fun _ => kk _ hX) (fun hne => absurd rfl hne))
theorem dL_law_1111 : decode cL_law 1111 = .ok (.aload_n 1, 1) := by decide +kernel
theorem dL_law_1112 : decode cL_law 1112 = .ok (.aload_n 0, 1) := by decide +kernel
theorem dL_law_1113 : decode cL_law 1113 = .ok (.iload 4, 2) := by decide +kernel
theorem dL_law_1115 : decode cL_law 1115 = .ok (.iconst 1, 1) := by decide +kernel
theorem dL_law_1116 : decode cL_law 1116 = .ok (.iadd, 1) := by decide +kernel
theorem dL_law_1117 : decode cL_law 1117 = .ok (.iaload, 1) := by decide +kernel
theorem dL_law_1118 : decode cL_law 1118 = .ok (.invokevirtual 183, 3) := by decide +kernel
theorem dL_law_1121 : decode cL_law 1121 = .ok (.aload_n 2, 1) := by decide +kernel
theorem dL_law_1122 : decode cL_law 1122 = .ok (.aload_n 0, 1) := by decide +kernel
theorem dL_law_1123 : decode cL_law 1123 = .ok (.iload 4, 2) := by decide +kernel
theorem dL_law_1125 : decode cL_law 1125 = .ok (.iconst 1, 1) := by decide +kernel
theorem dL_law_1126 : decode cL_law 1126 = .ok (.iadd, 1) := by decide +kernel
theorem dL_law_1127 : decode cL_law 1127 = .ok (.iaload, 1) := by decide +kernel
theorem dL_law_1128 : decode cL_law 1128 = .ok (.invokevirtual 186, 3) := by decide +kernel
theorem dL_law_1131 : decode cL_law 1131 = .ok (.if_icmp .eq 309, 3) := by decide +kernel
theorem dL_law_1134 : decode cL_law 1134 = .ok (.iconst 0, 1) := by decide +kernel
theorem dL_law_1135 : decode cL_law 1135 = .ok (.ireturn, 1) := by decide +kernel
theorem law_c37 {Ln : Nat} {xs : Nat → Int32} {i bc bs : Nat} {B : Int} {σ : xW} {K : List xV → Nat → xW → Prop} (hLn : Ln ≤ 2560) (hi : 5 * i + 5 ≤ Ln) (hB : 0 ≤ B ∧ B ≤ 1000000) (h : XR B σ σ) (kk : xKK Ln xs i bc bs B K) : xZ (xGL Ln xs) 330 (bc + 100) (bs + 400) mL_law 1111 [vT 100, vR 0, vR 121, vR 154, vI (5 * (i : Int)), vX, vX, vX] [] 155 σ K := by
  obtain ⟨r, σ1, τ1, hF, hM, hX⟩ := xstep (cf := F_X10_menders (xs (5 * (i : Int) + 1).toNat).toInt) (mf := F_X11_menders (xs (5 * (i : Int) + 1).toNat).toInt) (op_menders (I32_toInt _)) (fun σ q hq => xfm_hi (fr_X10_menders hq) (by decide +kernel)) (fun τ q hq => xfm_lo (fr_X11_menders hq) (by decide +kernel)) hB h
  refine z_budget (bc' := bc + 0 + 0) (bs' := bs + 0 + 0) (by omega) (by omega) ?_
  refine z_aln dL_law_1111 rfl rfl (by decide) ?_
  refine z_tln dL_law_1112 rfl rfl (z_il dL_law_1113 rfl (z_ic dL_law_1115 (z_iadd dL_law_1116 (z_sld dL_law_1117 ⟨by omega, by omega⟩ hLn ?_))))
  refine z_callV xGL_s (bc := bc + 0) (bs := bs + 0) (c := 0) (as := [vI (xs (5 * (i : Int) + 1).toNat).toInt]) (S := []) dL_law_1118 ml_L_183 rfl (s_X10_menders hF) rfl (by decide) (by decide) (fun r' n' σ' _ hK => ?_)
  obtain ⟨rfl, rfl, rfl⟩ := hK
  refine z_aln dL_law_1121 rfl rfl (by decide) ?_
  refine z_tln dL_law_1122 rfl rfl (z_il dL_law_1123 rfl (z_ic dL_law_1125 (z_iadd dL_law_1126 (z_sld dL_law_1127 ⟨by omega, by omega⟩ hLn ?_))))
  refine z_callV xGL_s (bc := bc) (bs := bs) (c := 121) (as := [vI (xs (5 * (i : Int) + 1).toNat).toInt]) (S := [vI r]) dL_law_1128 ml_L_186 rfl (s_X11_menders hM) rfl (by decide) (Nat.le_of_ble_eq_true rfl) (fun r' n' σ' _ hK => ?_)
  obtain ⟨rfl, rfl, rfl⟩ := hK
  exact z_wr2 rfl rfl (z_ceq dL_law_1131 (tgt := 1440) rfl (I32_xw _) (I32_xw _) (fun _ => kk _ hX) (fun hne => absurd rfl hne))
theorem dL_law_1136 : decode cL_law 1136 = .ok (.aload_n 1, 1) := by decide +kernel
theorem dL_law_1137 : decode cL_law 1137 = .ok (.invokevirtual 187, 3) := by decide +kernel
theorem dL_law_1140 : decode cL_law 1140 = .ok (.aload_n 2, 1) := by decide +kernel
theorem dL_law_1141 : decode cL_law 1141 = .ok (.invokevirtual 190, 3) := by decide +kernel
theorem dL_law_1144 : decode cL_law 1144 = .ok (.if_icmp .eq 296, 3) := by decide +kernel
theorem dL_law_1147 : decode cL_law 1147 = .ok (.iconst 0, 1) := by decide +kernel
theorem dL_law_1148 : decode cL_law 1148 = .ok (.ireturn, 1) := by decide +kernel
theorem law_c38 {Ln : Nat} {xs : Nat → Int32} {i bc bs : Nat} {B : Int} {σ : xW} {K : List xV → Nat → xW → Prop} (hLn : Ln ≤ 2560) (hi : 5 * i + 5 ≤ Ln) (hB : 0 ≤ B ∧ B ≤ 1000000) (h : XR B σ σ) (kk : xKK Ln xs i bc bs B K) : xZ (xGL Ln xs) 330 (bc + 100) (bs + 400) mL_law 1136 [vT 100, vR 0, vR 121, vR 154, vI (5 * (i : Int)), vX, vX, vX] [] 155 σ K := by
  obtain ⟨r, σ1, τ1, hF, hM, hX⟩ := xstep (cf := F_X10_apart ) (mf := F_X11_apart ) op_apart (fun σ q hq => xfm_hi (fr_X10_apart hq) (by decide +kernel)) (fun τ q hq => xfm_lo (fr_X11_apart hq) (by decide +kernel)) hB h
  refine z_budget (bc' := bc + 0 + 0) (bs' := bs + 0 + 0) (by omega) (by omega) ?_
  refine z_aln dL_law_1136 rfl rfl (by decide) ?_
  refine z_callV xGL_s (bc := bc + 0) (bs := bs + 0) (c := 0) (as := []) (S := []) dL_law_1137 ml_L_187 rfl (s_X10_apart hF) rfl (by decide) (by decide) (fun r' n' σ' _ hK => ?_)
  obtain ⟨rfl, rfl, rfl⟩ := hK
  refine z_aln dL_law_1140 rfl rfl (by decide) ?_
  refine z_callV xGL_s (bc := bc) (bs := bs) (c := 121) (as := []) (S := [vI r]) dL_law_1141 ml_L_190 rfl (s_X11_apart hM) rfl (by decide) (Nat.le_of_ble_eq_true rfl) (fun r' n' σ' _ hK => ?_)
  obtain ⟨rfl, rfl, rfl⟩ := hK
  exact z_wr2 rfl rfl (z_ceq dL_law_1144 (tgt := 1440) rfl (I32_xw _) (I32_xw _) (fun _ => kk _ hX) (fun hne => absurd rfl hne))
theorem dL_law_1149 : decode cL_law 1149 = .ok (.aload_n 1, 1) := by decide +kernel
theorem dL_law_1150 : decode cL_law 1150 = .ok (.aload_n 0, 1) := by decide +kernel
theorem dL_law_1151 : decode cL_law 1151 = .ok (.iload 4, 2) := by decide +kernel
theorem dL_law_1153 : decode cL_law 1153 = .ok (.iconst 1, 1) := by decide +kernel
theorem dL_law_1154 : decode cL_law 1154 = .ok (.iadd, 1) := by decide +kernel
theorem dL_law_1155 : decode cL_law 1155 = .ok (.iaload, 1) := by decide +kernel
theorem dL_law_1156 : decode cL_law 1156 = .ok (.aload_n 0, 1) := by decide +kernel
theorem dL_law_1157 : decode cL_law 1157 = .ok (.iload 4, 2) := by decide +kernel
theorem dL_law_1159 : decode cL_law 1159 = .ok (.iconst 2, 1) := by decide +kernel
theorem dL_law_1160 : decode cL_law 1160 = .ok (.iadd, 1) := by decide +kernel
theorem dL_law_1161 : decode cL_law 1161 = .ok (.iaload, 1) := by decide +kernel
theorem dL_law_1162 : decode cL_law 1162 = .ok (.aload_n 0, 1) := by decide +kernel
theorem dL_law_1163 : decode cL_law 1163 = .ok (.iload 4, 2) := by decide +kernel
theorem dL_law_1165 : decode cL_law 1165 = .ok (.iconst 3, 1) := by decide +kernel
theorem dL_law_1166 : decode cL_law 1166 = .ok (.iadd, 1) := by decide +kernel
theorem dL_law_1167 : decode cL_law 1167 = .ok (.iaload, 1) := by decide +kernel
theorem dL_law_1168 : decode cL_law 1168 = .ok (.invokevirtual 191, 3) := by decide +kernel
theorem dL_law_1171 : decode cL_law 1171 = .ok (.aload_n 2, 1) := by decide +kernel
theorem dL_law_1172 : decode cL_law 1172 = .ok (.aload_n 0, 1) := by decide +kernel
theorem dL_law_1173 : decode cL_law 1173 = .ok (.iload 4, 2) := by decide +kernel
theorem dL_law_1175 : decode cL_law 1175 = .ok (.iconst 1, 1) := by decide +kernel
theorem dL_law_1176 : decode cL_law 1176 = .ok (.iadd, 1) := by decide +kernel
theorem dL_law_1177 : decode cL_law 1177 = .ok (.iaload, 1) := by decide +kernel
theorem dL_law_1178 : decode cL_law 1178 = .ok (.aload_n 0, 1) := by decide +kernel
theorem dL_law_1179 : decode cL_law 1179 = .ok (.iload 4, 2) := by decide +kernel
theorem dL_law_1181 : decode cL_law 1181 = .ok (.iconst 2, 1) := by decide +kernel
theorem dL_law_1182 : decode cL_law 1182 = .ok (.iadd, 1) := by decide +kernel
theorem dL_law_1183 : decode cL_law 1183 = .ok (.iaload, 1) := by decide +kernel
theorem dL_law_1184 : decode cL_law 1184 = .ok (.aload_n 0, 1) := by decide +kernel
theorem dL_law_1185 : decode cL_law 1185 = .ok (.iload 4, 2) := by decide +kernel
theorem dL_law_1187 : decode cL_law 1187 = .ok (.iconst 3, 1) := by decide +kernel
theorem dL_law_1188 : decode cL_law 1188 = .ok (.iadd, 1) := by decide +kernel
theorem dL_law_1189 : decode cL_law 1189 = .ok (.iaload, 1) := by decide +kernel
theorem dL_law_1190 : decode cL_law 1190 = .ok (.invokevirtual 194, 3) := by decide +kernel
theorem dL_law_1193 : decode cL_law 1193 = .ok (.if_icmp .eq 247, 3) := by decide +kernel
theorem dL_law_1196 : decode cL_law 1196 = .ok (.iconst 0, 1) := by decide +kernel
theorem dL_law_1197 : decode cL_law 1197 = .ok (.ireturn, 1) := by decide +kernel
theorem law_c39 {Ln : Nat} {xs : Nat → Int32} {i bc bs : Nat} {B : Int} {σ : xW} {K : List xV → Nat → xW → Prop} (hLn : Ln ≤ 2560) (hi : 5 * i + 5 ≤ Ln) (hB : 0 ≤ B ∧ B ≤ 1000000) (h : XR B σ σ) (kk : xKK Ln xs i bc bs B K) : xZ (xGL Ln xs) 330 (bc + 100) (bs + 400) mL_law 1149 [vT 100, vR 0, vR 121, vR 154, vI (5 * (i : Int)), vX, vX, vX] [] 155 σ K := by
  obtain ⟨r, σ1, τ1, hF, hM, hX⟩ := xstep (cf := F_X10_misfires (xs (5 * (i : Int) + 1).toNat).toInt (xs (5 * (i : Int) + 2).toNat).toInt (xs (5 * (i : Int) + 3).toNat).toInt) (mf := F_X11_misfires (xs (5 * (i : Int) + 1).toNat).toInt (xs (5 * (i : Int) + 2).toNat).toInt (xs (5 * (i : Int) + 3).toNat).toInt) (op_misfires (I32_toInt _) (I32_toInt _) (I32_toInt _)) (fun σ q hq => xfm_hi (fr_X10_misfires hq) (by decide +kernel)) (fun τ q hq => xfm_lo (fr_X11_misfires hq) (by decide +kernel)) hB h
  refine z_budget (bc' := bc + 0 + 0) (bs' := bs + 0 + 0) (by omega) (by omega) ?_
  refine z_aln dL_law_1149 rfl rfl (by decide) ?_
  refine z_tln dL_law_1150 rfl rfl (z_il dL_law_1151 rfl (z_ic dL_law_1153 (z_iadd dL_law_1154 (z_sld dL_law_1155 ⟨by omega, by omega⟩ hLn ?_))))
  refine z_tln dL_law_1156 rfl rfl (z_il dL_law_1157 rfl (z_ic dL_law_1159 (z_iadd dL_law_1160 (z_sld dL_law_1161 ⟨by omega, by omega⟩ hLn ?_))))
  refine z_tln dL_law_1162 rfl rfl (z_il dL_law_1163 rfl (z_ic dL_law_1165 (z_iadd dL_law_1166 (z_sld dL_law_1167 ⟨by omega, by omega⟩ hLn ?_))))
  refine z_callV xGL_s (bc := bc + 0) (bs := bs + 0) (c := 0) (as := [vI (xs (5 * (i : Int) + 1).toNat).toInt, vI (xs (5 * (i : Int) + 2).toNat).toInt, vI (xs (5 * (i : Int) + 3).toNat).toInt]) (S := []) dL_law_1168 ml_L_191 rfl (s_X10_misfires hF) rfl (by decide) (by decide) (fun r' n' σ' _ hK => ?_)
  obtain ⟨rfl, rfl, rfl⟩ := hK
  refine z_aln dL_law_1171 rfl rfl (by decide) ?_
  refine z_tln dL_law_1172 rfl rfl (z_il dL_law_1173 rfl (z_ic dL_law_1175 (z_iadd dL_law_1176 (z_sld dL_law_1177 ⟨by omega, by omega⟩ hLn ?_))))
  refine z_tln dL_law_1178 rfl rfl (z_il dL_law_1179 rfl (z_ic dL_law_1181 (z_iadd dL_law_1182 (z_sld dL_law_1183 ⟨by omega, by omega⟩ hLn ?_))))
  refine z_tln dL_law_1184 rfl rfl (z_il dL_law_1185 rfl (z_ic dL_law_1187 (z_iadd dL_law_1188 (z_sld dL_law_1189 ⟨by omega, by omega⟩ hLn ?_))))
  refine z_callV xGL_s (bc := bc) (bs := bs) (c := 121) (as := [vI (xs (5 * (i : Int) + 1).toNat).toInt, vI (xs (5 * (i : Int) + 2).toNat).toInt, vI (xs (5 * (i : Int) + 3).toNat).toInt]) (S := [vI r]) dL_law_1190 ml_L_194 rfl (s_X11_misfires hM) rfl (by decide) (Nat.le_of_ble_eq_true rfl) (fun r' n' σ' _ hK => ?_)
  obtain ⟨rfl, rfl, rfl⟩ := hK
  exact z_wr2 rfl rfl (z_ceq dL_law_1193 (tgt := 1440) rfl (I32_xw _) (I32_xw _) (fun _ => kk _ hX) (fun hne => absurd rfl hne))
theorem dL_law_1198 : decode cL_law 1198 = .ok (.aload_n 1, 1) := by decide +kernel
theorem dL_law_1199 : decode cL_law 1199 = .ok (.aload_n 0, 1) := by decide +kernel
theorem dL_law_1200 : decode cL_law 1200 = .ok (.iload 4, 2) := by decide +kernel
theorem dL_law_1202 : decode cL_law 1202 = .ok (.iconst 1, 1) := by decide +kernel
theorem dL_law_1203 : decode cL_law 1203 = .ok (.iadd, 1) := by decide +kernel
theorem dL_law_1204 : decode cL_law 1204 = .ok (.iaload, 1) := by decide +kernel
theorem dL_law_1205 : decode cL_law 1205 = .ok (.aload_n 0, 1) := by decide +kernel
theorem dL_law_1206 : decode cL_law 1206 = .ok (.iload 4, 2) := by decide +kernel
theorem dL_law_1208 : decode cL_law 1208 = .ok (.iconst 2, 1) := by decide +kernel
theorem dL_law_1209 : decode cL_law 1209 = .ok (.iadd, 1) := by decide +kernel
theorem dL_law_1210 : decode cL_law 1210 = .ok (.iaload, 1) := by decide +kernel
theorem dL_law_1211 : decode cL_law 1211 = .ok (.invokevirtual 195, 3) := by decide +kernel
theorem dL_law_1214 : decode cL_law 1214 = .ok (.aload_n 2, 1) := by decide +kernel
theorem dL_law_1215 : decode cL_law 1215 = .ok (.aload_n 0, 1) := by decide +kernel
theorem dL_law_1216 : decode cL_law 1216 = .ok (.iload 4, 2) := by decide +kernel
theorem dL_law_1218 : decode cL_law 1218 = .ok (.iconst 1, 1) := by decide +kernel
theorem dL_law_1219 : decode cL_law 1219 = .ok (.iadd, 1) := by decide +kernel
theorem dL_law_1220 : decode cL_law 1220 = .ok (.iaload, 1) := by decide +kernel
theorem dL_law_1221 : decode cL_law 1221 = .ok (.aload_n 0, 1) := by decide +kernel
theorem dL_law_1222 : decode cL_law 1222 = .ok (.iload 4, 2) := by decide +kernel
theorem dL_law_1224 : decode cL_law 1224 = .ok (.iconst 2, 1) := by decide +kernel
theorem dL_law_1225 : decode cL_law 1225 = .ok (.iadd, 1) := by decide +kernel
theorem dL_law_1226 : decode cL_law 1226 = .ok (.iaload, 1) := by decide +kernel
theorem dL_law_1227 : decode cL_law 1227 = .ok (.invokevirtual 198, 3) := by decide +kernel
theorem dL_law_1230 : decode cL_law 1230 = .ok (.if_icmp .eq 210, 3) := by decide +kernel
theorem dL_law_1233 : decode cL_law 1233 = .ok (.iconst 0, 1) := by decide +kernel
theorem dL_law_1234 : decode cL_law 1234 = .ok (.ireturn, 1) := by decide +kernel
theorem law_c40 {Ln : Nat} {xs : Nat → Int32} {i bc bs : Nat} {B : Int} {σ : xW} {K : List xV → Nat → xW → Prop} (hLn : Ln ≤ 2560) (hi : 5 * i + 5 ≤ Ln) (hB : 0 ≤ B ∧ B ≤ 1000000) (h : XR B σ σ) (kk : xKK Ln xs i bc bs B K) : xZ (xGL Ln xs) 330 (bc + 100) (bs + 400) mL_law 1198 [vT 100, vR 0, vR 121, vR 154, vI (5 * (i : Int)), vX, vX, vX] [] 155 σ K := by
  obtain ⟨r, σ1, τ1, hF, hM, hX⟩ := xstep (cf := F_X10_forts (xs (5 * (i : Int) + 1).toNat).toInt (xs (5 * (i : Int) + 2).toNat).toInt) (mf := F_X11_forts (xs (5 * (i : Int) + 1).toNat).toInt (xs (5 * (i : Int) + 2).toNat).toInt) (op_forts (I32_toInt _) (I32_toInt _)) (fun σ q hq => xfm_hi (fr_X10_forts hq) (by decide +kernel)) (fun τ q hq => xfm_lo (fr_X11_forts hq) (by decide +kernel)) hB h
  refine z_budget (bc' := bc + 0 + 0) (bs' := bs + 0 + 0) (by omega) (by omega) ?_
  refine z_aln dL_law_1198 rfl rfl (by decide) ?_
  refine z_tln dL_law_1199 rfl rfl (z_il dL_law_1200 rfl (z_ic dL_law_1202 (z_iadd dL_law_1203 (z_sld dL_law_1204 ⟨by omega, by omega⟩ hLn ?_))))
  refine z_tln dL_law_1205 rfl rfl (z_il dL_law_1206 rfl (z_ic dL_law_1208 (z_iadd dL_law_1209 (z_sld dL_law_1210 ⟨by omega, by omega⟩ hLn ?_))))
  refine z_callV xGL_s (bc := bc + 0) (bs := bs + 0) (c := 0) (as := [vI (xs (5 * (i : Int) + 1).toNat).toInt, vI (xs (5 * (i : Int) + 2).toNat).toInt]) (S := []) dL_law_1211 ml_L_195 rfl (s_X10_forts hF) rfl (by decide) (by decide) (fun r' n' σ' _ hK => ?_)
  obtain ⟨rfl, rfl, rfl⟩ := hK
  refine z_aln dL_law_1214 rfl rfl (by decide) ?_
  refine z_tln dL_law_1215 rfl rfl (z_il dL_law_1216 rfl (z_ic dL_law_1218 (z_iadd dL_law_1219 (z_sld dL_law_1220 ⟨by omega, by omega⟩ hLn ?_))))
  refine z_tln dL_law_1221 rfl rfl (z_il dL_law_1222 rfl (z_ic dL_law_1224 (z_iadd dL_law_1225 (z_sld dL_law_1226 ⟨by omega, by omega⟩ hLn ?_))))
  refine z_callV xGL_s (bc := bc) (bs := bs) (c := 121) (as := [vI (xs (5 * (i : Int) + 1).toNat).toInt, vI (xs (5 * (i : Int) + 2).toNat).toInt]) (S := [vI r]) dL_law_1227 ml_L_198 rfl (s_X11_forts hM) rfl (by decide) (Nat.le_of_ble_eq_true rfl) (fun r' n' σ' _ hK => ?_)
  obtain ⟨rfl, rfl, rfl⟩ := hK
  exact z_wr2 rfl rfl (z_ceq dL_law_1230 (tgt := 1440) rfl (I32_xw _) (I32_xw _) (fun _ => kk _ hX) (fun hne => absurd rfl hne))
theorem dL_law_1235 : decode cL_law 1235 = .ok (.aload_n 1, 1) := by decide +kernel
theorem dL_law_1236 : decode cL_law 1236 = .ok (.invokevirtual 199, 3) := by decide +kernel
theorem dL_law_1239 : decode cL_law 1239 = .ok (.aload_n 2, 1) := by decide +kernel
theorem dL_law_1240 : decode cL_law 1240 = .ok (.invokevirtual 202, 3) := by decide +kernel
theorem dL_law_1243 : decode cL_law 1243 = .ok (.if_icmp .eq 197, 3) := by decide +kernel
theorem dL_law_1246 : decode cL_law 1246 = .ok (.iconst 0, 1) := by decide +kernel
theorem dL_law_1247 : decode cL_law 1247 = .ok (.ireturn, 1) := by decide +kernel
theorem law_c41 {Ln : Nat} {xs : Nat → Int32} {i bc bs : Nat} {B : Int} {σ : xW} {K : List xV → Nat → xW → Prop} (hLn : Ln ≤ 2560) (hi : 5 * i + 5 ≤ Ln) (hB : 0 ≤ B ∧ B ≤ 1000000) (h : XR B σ σ) (kk : xKK Ln xs i bc bs B K) : xZ (xGL Ln xs) 330 (bc + 100) (bs + 400) mL_law 1235 [vT 100, vR 0, vR 121, vR 154, vI (5 * (i : Int)), vX, vX, vX] [] 155 σ K := by
  obtain ⟨r, σ1, τ1, hF, hM, hX⟩ := xstep (cf := F_X10_law ) (mf := F_X11_law ) op_law (fun σ q hq => hi_X10_law hq) (fun τ q hq => lo_X11_law hq) hB h
  refine z_budget (bc' := bc + 0 + 0) (bs' := bs + 0 + 0) (by omega) (by omega) ?_
  refine z_aln dL_law_1235 rfl rfl (by decide) ?_
  refine z_callV xGL_s (bc := bc + 0) (bs := bs + 0) (c := 0) (as := []) (S := []) dL_law_1236 ml_L_199 rfl (s_X10_law hF) rfl (by decide) (by decide) (fun r' n' σ' _ hK => ?_)
  obtain ⟨rfl, rfl, rfl⟩ := hK
  refine z_aln dL_law_1239 rfl rfl (by decide) ?_
  refine z_callV xGL_s (bc := bc) (bs := bs) (c := 121) (as := []) (S := [vI r]) dL_law_1240 ml_L_202 rfl (s_X11_law hM) rfl (by decide) (Nat.le_of_ble_eq_true rfl) (fun r' n' σ' _ hK => ?_)
  obtain ⟨rfl, rfl, rfl⟩ := hK
  exact z_wr2 rfl rfl (z_ceq dL_law_1243 (tgt := 1440) rfl (I32_xw _) (I32_xw _) (fun _ => kk _ hX) (fun hne => absurd rfl hne))
theorem dL_law_1248 : decode cL_law 1248 = .ok (.aload_n 1, 1) := by decide +kernel
theorem dL_law_1249 : decode cL_law 1249 = .ok (.aload_n 0, 1) := by decide +kernel
theorem dL_law_1250 : decode cL_law 1250 = .ok (.iload 4, 2) := by decide +kernel
theorem dL_law_1252 : decode cL_law 1252 = .ok (.iconst 1, 1) := by decide +kernel
theorem dL_law_1253 : decode cL_law 1253 = .ok (.iadd, 1) := by decide +kernel
theorem dL_law_1254 : decode cL_law 1254 = .ok (.iaload, 1) := by decide +kernel
theorem dL_law_1255 : decode cL_law 1255 = .ok (.invokevirtual 203, 3) := by decide +kernel
theorem dL_law_1258 : decode cL_law 1258 = .ok (.aload_n 2, 1) := by decide +kernel
theorem dL_law_1259 : decode cL_law 1259 = .ok (.aload_n 0, 1) := by decide +kernel
theorem dL_law_1260 : decode cL_law 1260 = .ok (.iload 4, 2) := by decide +kernel
theorem dL_law_1262 : decode cL_law 1262 = .ok (.iconst 1, 1) := by decide +kernel
theorem dL_law_1263 : decode cL_law 1263 = .ok (.iadd, 1) := by decide +kernel
theorem dL_law_1264 : decode cL_law 1264 = .ok (.iaload, 1) := by decide +kernel
theorem dL_law_1265 : decode cL_law 1265 = .ok (.invokevirtual 206, 3) := by decide +kernel
theorem dL_law_1268 : decode cL_law 1268 = .ok (.if_icmp .eq 172, 3) := by decide +kernel
theorem dL_law_1271 : decode cL_law 1271 = .ok (.iconst 0, 1) := by decide +kernel
theorem dL_law_1272 : decode cL_law 1272 = .ok (.ireturn, 1) := by decide +kernel
theorem law_c42 {Ln : Nat} {xs : Nat → Int32} {i bc bs : Nat} {B : Int} {σ : xW} {K : List xV → Nat → xW → Prop} (hLn : Ln ≤ 2560) (hi : 5 * i + 5 ≤ Ln) (hB : 0 ≤ B ∧ B ≤ 1000000) (h : XR B σ σ) (kk : xKK Ln xs i bc bs B K) : xZ (xGL Ln xs) 330 (bc + 100) (bs + 400) mL_law 1248 [vT 100, vR 0, vR 121, vR 154, vI (5 * (i : Int)), vX, vX, vX] [] 155 σ K := by
  obtain ⟨r, σ1, τ1, hF, hM, hX⟩ := xstep (cf := F_X10_rests (xs (5 * (i : Int) + 1).toNat).toInt) (mf := F_X11_rests (xs (5 * (i : Int) + 1).toNat).toInt) (op_rests (I32_toInt _)) (fun σ q hq => xfm_hi (fr_X10_rests hq) (by decide +kernel)) (fun τ q hq => xfm_lo (fr_X11_rests hq) (by decide +kernel)) hB h
  refine z_budget (bc' := bc + 0 + 0) (bs' := bs + 0 + 0) (by omega) (by omega) ?_
  refine z_aln dL_law_1248 rfl rfl (by decide) ?_
  refine z_tln dL_law_1249 rfl rfl (z_il dL_law_1250 rfl (z_ic dL_law_1252 (z_iadd dL_law_1253 (z_sld dL_law_1254 ⟨by omega, by omega⟩ hLn ?_))))
  refine z_callV xGL_s (bc := bc + 0) (bs := bs + 0) (c := 0) (as := [vI (xs (5 * (i : Int) + 1).toNat).toInt]) (S := []) dL_law_1255 ml_L_203 rfl (s_X10_rests hF) rfl (by decide) (by decide) (fun r' n' σ' _ hK => ?_)
  obtain ⟨rfl, rfl, rfl⟩ := hK
  refine z_aln dL_law_1258 rfl rfl (by decide) ?_
  refine z_tln dL_law_1259 rfl rfl (z_il dL_law_1260 rfl (z_ic dL_law_1262 (z_iadd dL_law_1263 (z_sld dL_law_1264 ⟨by omega, by omega⟩ hLn ?_))))
  refine z_callV xGL_s (bc := bc) (bs := bs) (c := 121) (as := [vI (xs (5 * (i : Int) + 1).toNat).toInt]) (S := [vI r]) dL_law_1265 ml_L_206 rfl (s_X11_rests hM) rfl (by decide) (Nat.le_of_ble_eq_true rfl) (fun r' n' σ' _ hK => ?_)
  obtain ⟨rfl, rfl, rfl⟩ := hK
  exact z_wr2 rfl rfl (z_ceq dL_law_1268 (tgt := 1440) rfl (I32_xw _) (I32_xw _) (fun _ => kk _ hX) (fun hne => absurd rfl hne))
theorem dL_law_1273 : decode cL_law 1273 = .ok (.aload_n 1, 1) := by decide +kernel
theorem dL_law_1274 : decode cL_law 1274 = .ok (.aload_n 0, 1) := by decide +kernel
theorem dL_law_1275 : decode cL_law 1275 = .ok (.iload 4, 2) := by decide +kernel
theorem dL_law_1277 : decode cL_law 1277 = .ok (.iconst 1, 1) := by decide +kernel
theorem dL_law_1278 : decode cL_law 1278 = .ok (.iadd, 1) := by decide +kernel
theorem dL_law_1279 : decode cL_law 1279 = .ok (.iaload, 1) := by decide +kernel
theorem dL_law_1280 : decode cL_law 1280 = .ok (.aload_n 0, 1) := by decide +kernel
theorem dL_law_1281 : decode cL_law 1281 = .ok (.iload 4, 2) := by decide +kernel
theorem dL_law_1283 : decode cL_law 1283 = .ok (.iconst 2, 1) := by decide +kernel
theorem dL_law_1284 : decode cL_law 1284 = .ok (.iadd, 1) := by decide +kernel
theorem dL_law_1285 : decode cL_law 1285 = .ok (.iaload, 1) := by decide +kernel
theorem dL_law_1286 : decode cL_law 1286 = .ok (.invokevirtual 207, 3) := by decide +kernel
theorem dL_law_1289 : decode cL_law 1289 = .ok (.aload_n 2, 1) := by decide +kernel
theorem dL_law_1290 : decode cL_law 1290 = .ok (.aload_n 0, 1) := by decide +kernel
theorem dL_law_1291 : decode cL_law 1291 = .ok (.iload 4, 2) := by decide +kernel
theorem dL_law_1293 : decode cL_law 1293 = .ok (.iconst 1, 1) := by decide +kernel
theorem dL_law_1294 : decode cL_law 1294 = .ok (.iadd, 1) := by decide +kernel
theorem dL_law_1295 : decode cL_law 1295 = .ok (.iaload, 1) := by decide +kernel
theorem dL_law_1296 : decode cL_law 1296 = .ok (.aload_n 0, 1) := by decide +kernel
theorem dL_law_1297 : decode cL_law 1297 = .ok (.iload 4, 2) := by decide +kernel
theorem dL_law_1299 : decode cL_law 1299 = .ok (.iconst 2, 1) := by decide +kernel
theorem dL_law_1300 : decode cL_law 1300 = .ok (.iadd, 1) := by decide +kernel
theorem dL_law_1301 : decode cL_law 1301 = .ok (.iaload, 1) := by decide +kernel
theorem dL_law_1302 : decode cL_law 1302 = .ok (.invokevirtual 210, 3) := by decide +kernel
theorem dL_law_1305 : decode cL_law 1305 = .ok (.if_icmp .eq 135, 3) := by decide +kernel
theorem dL_law_1308 : decode cL_law 1308 = .ok (.iconst 0, 1) := by decide +kernel
theorem dL_law_1309 : decode cL_law 1309 = .ok (.ireturn, 1) := by decide +kernel
theorem law_c43 {Ln : Nat} {xs : Nat → Int32} {i bc bs : Nat} {B : Int} {σ : xW} {K : List xV → Nat → xW → Prop} (hLn : Ln ≤ 2560) (hi : 5 * i + 5 ≤ Ln) (hB : 0 ≤ B ∧ B ≤ 1000000) (h : XR B σ σ) (kk : xKK Ln xs i bc bs B K) : xZ (xGL Ln xs) 330 (bc + 100) (bs + 400) mL_law 1273 [vT 100, vR 0, vR 121, vR 154, vI (5 * (i : Int)), vX, vX, vX] [] 155 σ K := by
  obtain ⟨r, σ1, τ1, hF, hM, hX⟩ := xstep (cf := F_X10_years (xs (5 * (i : Int) + 1).toNat).toInt (xs (5 * (i : Int) + 2).toNat).toInt) (mf := F_X11_years (xs (5 * (i : Int) + 1).toNat).toInt (xs (5 * (i : Int) + 2).toNat).toInt) (op_years (I32_toInt _) (I32_toInt _)) (fun σ q hq => hi_X10_years hq) (fun τ q hq => xfm_lo (fr_X11_years hq) (by decide +kernel)) hB h
  refine z_budget (bc' := bc + 0 + 0) (bs' := bs + 0 + 0) (by omega) (by omega) ?_
  refine z_aln dL_law_1273 rfl rfl (by decide) ?_
  refine z_tln dL_law_1274 rfl rfl (z_il dL_law_1275 rfl (z_ic dL_law_1277 (z_iadd dL_law_1278 (z_sld dL_law_1279 ⟨by omega, by omega⟩ hLn ?_))))
  refine z_tln dL_law_1280 rfl rfl (z_il dL_law_1281 rfl (z_ic dL_law_1283 (z_iadd dL_law_1284 (z_sld dL_law_1285 ⟨by omega, by omega⟩ hLn ?_))))
  refine z_callV xGL_s (bc := bc + 0) (bs := bs + 0) (c := 0) (as := [vI (xs (5 * (i : Int) + 1).toNat).toInt, vI (xs (5 * (i : Int) + 2).toNat).toInt]) (S := []) dL_law_1286 ml_L_207 rfl (s_X10_years hF) rfl (by decide) (by decide) (fun r' n' σ' _ hK => ?_)
  obtain ⟨rfl, rfl, rfl⟩ := hK
  refine z_aln dL_law_1289 rfl rfl (by decide) ?_
  refine z_tln dL_law_1290 rfl rfl (z_il dL_law_1291 rfl (z_ic dL_law_1293 (z_iadd dL_law_1294 (z_sld dL_law_1295 ⟨by omega, by omega⟩ hLn ?_))))
  refine z_tln dL_law_1296 rfl rfl (z_il dL_law_1297 rfl (z_ic dL_law_1299 (z_iadd dL_law_1300 (z_sld dL_law_1301 ⟨by omega, by omega⟩ hLn ?_))))
  refine z_callV xGL_s (bc := bc) (bs := bs) (c := 121) (as := [vI (xs (5 * (i : Int) + 1).toNat).toInt, vI (xs (5 * (i : Int) + 2).toNat).toInt]) (S := [vI r]) dL_law_1302 ml_L_210 rfl (s_X11_years hM) rfl (by decide) (Nat.le_of_ble_eq_true rfl) (fun r' n' σ' _ hK => ?_)
  obtain ⟨rfl, rfl, rfl⟩ := hK
  exact z_wr2 rfl rfl (z_ceq dL_law_1305 (tgt := 1440) rfl (I32_xw _) (I32_xw _) (fun _ => kk _ hX) (fun hne => absurd rfl hne))
theorem dL_law_1310 : decode cL_law 1310 = .ok (.aload_n 1, 1) := by decide +kernel
theorem dL_law_1311 : decode cL_law 1311 = .ok (.aload_n 0, 1) := by decide +kernel
theorem dL_law_1312 : decode cL_law 1312 = .ok (.iload 4, 2) := by decide +kernel
theorem dL_law_1314 : decode cL_law 1314 = .ok (.iconst 1, 1) := by decide +kernel
theorem dL_law_1315 : decode cL_law 1315 = .ok (.iadd, 1) := by decide +kernel
theorem dL_law_1316 : decode cL_law 1316 = .ok (.iaload, 1) := by decide +kernel
theorem dL_law_1317 : decode cL_law 1317 = .ok (.invokevirtual 211, 3) := by decide +kernel
theorem dL_law_1320 : decode cL_law 1320 = .ok (.aload_n 2, 1) := by decide +kernel
theorem dL_law_1321 : decode cL_law 1321 = .ok (.aload_n 0, 1) := by decide +kernel
theorem dL_law_1322 : decode cL_law 1322 = .ok (.iload 4, 2) := by decide +kernel
theorem dL_law_1324 : decode cL_law 1324 = .ok (.iconst 1, 1) := by decide +kernel
theorem dL_law_1325 : decode cL_law 1325 = .ok (.iadd, 1) := by decide +kernel
theorem dL_law_1326 : decode cL_law 1326 = .ok (.iaload, 1) := by decide +kernel
theorem dL_law_1327 : decode cL_law 1327 = .ok (.invokevirtual 214, 3) := by decide +kernel
theorem dL_law_1330 : decode cL_law 1330 = .ok (.if_icmp .eq 110, 3) := by decide +kernel
theorem dL_law_1333 : decode cL_law 1333 = .ok (.iconst 0, 1) := by decide +kernel
theorem dL_law_1334 : decode cL_law 1334 = .ok (.ireturn, 1) := by decide +kernel
theorem law_c44 {Ln : Nat} {xs : Nat → Int32} {i bc bs : Nat} {B : Int} {σ : xW} {K : List xV → Nat → xW → Prop} (hLn : Ln ≤ 2560) (hi : 5 * i + 5 ≤ Ln) (hB : 0 ≤ B ∧ B ≤ 1000000) (h : XR B σ σ) (kk : xKK Ln xs i bc bs B K) : xZ (xGL Ln xs) 330 (bc + 100) (bs + 400) mL_law 1310 [vT 100, vR 0, vR 121, vR 154, vI (5 * (i : Int)), vX, vX, vX] [] 155 σ K := by
  obtain ⟨r, σ1, τ1, hF, hM, hX⟩ := xstep (cf := F_X10_keep (xs (5 * (i : Int) + 1).toNat).toInt) (mf := F_X11_keep (xs (5 * (i : Int) + 1).toNat).toInt) (op_keep (I32_toInt _)) (fun σ q hq => hi_X10_keep hq) (fun τ q hq => xfm_lo (fr_X11_keep hq) (by decide +kernel)) hB h
  refine z_budget (bc' := bc + 0 + 0) (bs' := bs + 0 + 0) (by omega) (by omega) ?_
  refine z_aln dL_law_1310 rfl rfl (by decide) ?_
  refine z_tln dL_law_1311 rfl rfl (z_il dL_law_1312 rfl (z_ic dL_law_1314 (z_iadd dL_law_1315 (z_sld dL_law_1316 ⟨by omega, by omega⟩ hLn ?_))))
  refine z_callV xGL_s (bc := bc + 0) (bs := bs + 0) (c := 0) (as := [vI (xs (5 * (i : Int) + 1).toNat).toInt]) (S := []) dL_law_1317 ml_L_211 rfl (s_X10_keep hF) rfl (by decide) (by decide) (fun r' n' σ' _ hK => ?_)
  obtain ⟨rfl, rfl, rfl⟩ := hK
  refine z_aln dL_law_1320 rfl rfl (by decide) ?_
  refine z_tln dL_law_1321 rfl rfl (z_il dL_law_1322 rfl (z_ic dL_law_1324 (z_iadd dL_law_1325 (z_sld dL_law_1326 ⟨by omega, by omega⟩ hLn ?_))))
  refine z_callV xGL_s (bc := bc) (bs := bs) (c := 121) (as := [vI (xs (5 * (i : Int) + 1).toNat).toInt]) (S := [vI r]) dL_law_1327 ml_L_214 rfl (s_X11_keep hM) rfl (by decide) (Nat.le_of_ble_eq_true rfl) (fun r' n' σ' _ hK => ?_)
  obtain ⟨rfl, rfl, rfl⟩ := hK
  exact z_wr2 rfl rfl (z_ceq dL_law_1330 (tgt := 1440) rfl (I32_xw _) (I32_xw _) (fun _ => kk _ hX) (fun hne => absurd rfl hne))
theorem dL_law_1335 : decode cL_law 1335 = .ok (.aload_n 1, 1) := by decide +kernel
theorem dL_law_1336 : decode cL_law 1336 = .ok (.aload_n 0, 1) := by decide +kernel
theorem dL_law_1337 : decode cL_law 1337 = .ok (.iload 4, 2) := by decide +kernel
theorem dL_law_1339 : decode cL_law 1339 = .ok (.iconst 1, 1) := by decide +kernel
theorem dL_law_1340 : decode cL_law 1340 = .ok (.iadd, 1) := by decide +kernel
theorem dL_law_1341 : decode cL_law 1341 = .ok (.iaload, 1) := by decide +kernel
theorem dL_law_1342 : decode cL_law 1342 = .ok (.invokevirtual 215, 3) := by decide +kernel
theorem dL_law_1345 : decode cL_law 1345 = .ok (.aload_n 2, 1) := by decide +kernel
theorem dL_law_1346 : decode cL_law 1346 = .ok (.aload_n 0, 1) := by decide +kernel
theorem dL_law_1347 : decode cL_law 1347 = .ok (.iload 4, 2) := by decide +kernel
theorem dL_law_1349 : decode cL_law 1349 = .ok (.iconst 1, 1) := by decide +kernel
theorem dL_law_1350 : decode cL_law 1350 = .ok (.iadd, 1) := by decide +kernel
theorem dL_law_1351 : decode cL_law 1351 = .ok (.iaload, 1) := by decide +kernel
theorem dL_law_1352 : decode cL_law 1352 = .ok (.invokevirtual 218, 3) := by decide +kernel
theorem dL_law_1355 : decode cL_law 1355 = .ok (.if_icmp .eq 85, 3) := by decide +kernel
theorem dL_law_1358 : decode cL_law 1358 = .ok (.iconst 0, 1) := by decide +kernel
theorem dL_law_1359 : decode cL_law 1359 = .ok (.ireturn, 1) := by decide +kernel
theorem law_c45 {Ln : Nat} {xs : Nat → Int32} {i bc bs : Nat} {B : Int} {σ : xW} {K : List xV → Nat → xW → Prop} (hLn : Ln ≤ 2560) (hi : 5 * i + 5 ≤ Ln) (hB : 0 ≤ B ∧ B ≤ 1000000) (h : XR B σ σ) (kk : xKK Ln xs i bc bs B K) : xZ (xGL Ln xs) 330 (bc + 100) (bs + 400) mL_law 1335 [vT 100, vR 0, vR 121, vR 154, vI (5 * (i : Int)), vX, vX, vX] [] 155 σ K := by
  obtain ⟨r, σ1, τ1, hF, hM, hX⟩ := xstep (cf := F_X10_again (xs (5 * (i : Int) + 1).toNat).toInt) (mf := F_X11_again (xs (5 * (i : Int) + 1).toNat).toInt) (op_again (I32_toInt _)) (fun σ q hq => xfm_hi (fr_X10_again hq) (by decide +kernel)) (fun τ q hq => xfm_lo (fr_X11_again hq) (by decide +kernel)) hB h
  refine z_budget (bc' := bc + 0 + 0) (bs' := bs + 0 + 0) (by omega) (by omega) ?_
  refine z_aln dL_law_1335 rfl rfl (by decide) ?_
  refine z_tln dL_law_1336 rfl rfl (z_il dL_law_1337 rfl (z_ic dL_law_1339 (z_iadd dL_law_1340 (z_sld dL_law_1341 ⟨by omega, by omega⟩ hLn ?_))))
  refine z_callV xGL_s (bc := bc + 0) (bs := bs + 0) (c := 0) (as := [vI (xs (5 * (i : Int) + 1).toNat).toInt]) (S := []) dL_law_1342 ml_L_215 rfl (s_X10_again hF) rfl (by decide) (by decide) (fun r' n' σ' _ hK => ?_)
  obtain ⟨rfl, rfl, rfl⟩ := hK
  refine z_aln dL_law_1345 rfl rfl (by decide) ?_
  refine z_tln dL_law_1346 rfl rfl (z_il dL_law_1347 rfl (z_ic dL_law_1349 (z_iadd dL_law_1350 (z_sld dL_law_1351 ⟨by omega, by omega⟩ hLn ?_))))
  refine z_callV xGL_s (bc := bc) (bs := bs) (c := 121) (as := [vI (xs (5 * (i : Int) + 1).toNat).toInt]) (S := [vI r]) dL_law_1352 ml_L_218 rfl (s_X11_again hM) rfl (by decide) (Nat.le_of_ble_eq_true rfl) (fun r' n' σ' _ hK => ?_)
  obtain ⟨rfl, rfl, rfl⟩ := hK
  exact z_wr2 rfl rfl (z_ceq dL_law_1355 (tgt := 1440) rfl (I32_xw _) (I32_xw _) (fun _ => kk _ hX) (fun hne => absurd rfl hne))
theorem dL_law_1360 : decode cL_law 1360 = .ok (.aload_n 1, 1) := by decide +kernel
theorem dL_law_1361 : decode cL_law 1361 = .ok (.aload_n 0, 1) := by decide +kernel
theorem dL_law_1362 : decode cL_law 1362 = .ok (.iload 4, 2) := by decide +kernel
theorem dL_law_1364 : decode cL_law 1364 = .ok (.iconst 1, 1) := by decide +kernel
theorem dL_law_1365 : decode cL_law 1365 = .ok (.iadd, 1) := by decide +kernel
theorem dL_law_1366 : decode cL_law 1366 = .ok (.iaload, 1) := by decide +kernel
theorem dL_law_1367 : decode cL_law 1367 = .ok (.invokevirtual 219, 3) := by decide +kernel
theorem dL_law_1370 : decode cL_law 1370 = .ok (.aload_n 2, 1) := by decide +kernel
theorem dL_law_1371 : decode cL_law 1371 = .ok (.aload_n 0, 1) := by decide +kernel
theorem dL_law_1372 : decode cL_law 1372 = .ok (.iload 4, 2) := by decide +kernel
theorem dL_law_1374 : decode cL_law 1374 = .ok (.iconst 1, 1) := by decide +kernel
theorem dL_law_1375 : decode cL_law 1375 = .ok (.iadd, 1) := by decide +kernel
theorem dL_law_1376 : decode cL_law 1376 = .ok (.iaload, 1) := by decide +kernel
theorem dL_law_1377 : decode cL_law 1377 = .ok (.invokevirtual 222, 3) := by decide +kernel
theorem dL_law_1380 : decode cL_law 1380 = .ok (.if_icmp .eq 60, 3) := by decide +kernel
theorem dL_law_1383 : decode cL_law 1383 = .ok (.iconst 0, 1) := by decide +kernel
theorem dL_law_1384 : decode cL_law 1384 = .ok (.ireturn, 1) := by decide +kernel
theorem law_c46 {Ln : Nat} {xs : Nat → Int32} {i bc bs : Nat} {B : Int} {σ : xW} {K : List xV → Nat → xW → Prop} (hLn : Ln ≤ 2560) (hi : 5 * i + 5 ≤ Ln) (hB : 0 ≤ B ∧ B ≤ 1000000) (h : XR B σ σ) (kk : xKK Ln xs i bc bs B K) : xZ (xGL Ln xs) 330 (bc + 100) (bs + 400) mL_law 1360 [vT 100, vR 0, vR 121, vR 154, vI (5 * (i : Int)), vX, vX, vX] [] 155 σ K := by
  obtain ⟨r, τ1, hF, hM, hX⟩ := xstepP (cf := F_X10_count (xs (5 * (i : Int) + 1).toNat).toInt) (mf := F_X11_count (xs (5 * (i : Int) + 1).toNat).toInt) (op_count (I32_toInt _)) (fun τ q hq => xfm_lo (fr_X11_count hq) (by decide +kernel)) hB h
  refine z_budget (bc' := bc + 0 + 0) (bs' := bs + 0 + 0) (by omega) (by omega) ?_
  refine z_aln dL_law_1360 rfl rfl (by decide) ?_
  refine z_tln dL_law_1361 rfl rfl (z_il dL_law_1362 rfl (z_ic dL_law_1364 (z_iadd dL_law_1365 (z_sld dL_law_1366 ⟨by omega, by omega⟩ hLn ?_))))
  refine z_callV xGL_s (bc := bc + 0) (bs := bs + 0) (c := 0) (as := [vI (xs (5 * (i : Int) + 1).toNat).toInt]) (S := []) dL_law_1367 ml_L_219 rfl (s_X10_count hF) rfl (by decide) (by decide) (fun r' n' σ' _ hK => ?_)
  obtain ⟨rfl, rfl, rfl⟩ := hK
  refine z_aln dL_law_1370 rfl rfl (by decide) ?_
  refine z_tln dL_law_1371 rfl rfl (z_il dL_law_1372 rfl (z_ic dL_law_1374 (z_iadd dL_law_1375 (z_sld dL_law_1376 ⟨by omega, by omega⟩ hLn ?_))))
  refine z_callV xGL_s (bc := bc) (bs := bs) (c := 121) (as := [vI (xs (5 * (i : Int) + 1).toNat).toInt]) (S := [vI r]) dL_law_1377 ml_L_222 rfl (s_X11_count hM) rfl (by decide) (Nat.le_of_ble_eq_true rfl) (fun r' n' σ' _ hK => ?_)
  obtain ⟨rfl, rfl, rfl⟩ := hK
  exact z_wr2 rfl rfl (z_ceq dL_law_1380 (tgt := 1440) rfl (I32_xw _) (I32_xw _) (fun _ => kk _ hX) (fun hne => absurd rfl hne))
theorem dL_law_1385 : decode cL_law 1385 = .ok (.aload_n 1, 1) := by decide +kernel
theorem dL_law_1386 : decode cL_law 1386 = .ok (.aload_n 0, 1) := by decide +kernel
theorem dL_law_1387 : decode cL_law 1387 = .ok (.iload 4, 2) := by decide +kernel
theorem dL_law_1389 : decode cL_law 1389 = .ok (.iconst 1, 1) := by decide +kernel
theorem dL_law_1390 : decode cL_law 1390 = .ok (.iadd, 1) := by decide +kernel
theorem dL_law_1391 : decode cL_law 1391 = .ok (.iaload, 1) := by decide +kernel
theorem dL_law_1392 : decode cL_law 1392 = .ok (.aload_n 3, 1) := by decide +kernel
theorem dL_law_1393 : decode cL_law 1393 = .ok (.invokestatic 223, 3) := by decide +kernel
theorem dL_law_1396 : decode cL_law 1396 = .ok (.istore 5, 2) := by decide +kernel
theorem dL_law_1398 : decode cL_law 1398 = .ok (.aload_n 2, 1) := by decide +kernel
theorem dL_law_1399 : decode cL_law 1399 = .ok (.aload_n 0, 1) := by decide +kernel
theorem dL_law_1400 : decode cL_law 1400 = .ok (.iload 4, 2) := by decide +kernel
theorem dL_law_1402 : decode cL_law 1402 = .ok (.iconst 1, 1) := by decide +kernel
theorem dL_law_1403 : decode cL_law 1403 = .ok (.iadd, 1) := by decide +kernel
theorem dL_law_1404 : decode cL_law 1404 = .ok (.iaload, 1) := by decide +kernel
theorem dL_law_1405 : decode cL_law 1405 = .ok (.invokevirtual 226, 3) := by decide +kernel
theorem dL_law_1408 : decode cL_law 1408 = .ok (.lstore 6, 2) := by decide +kernel
theorem dL_law_1410 : decode cL_law 1410 = .ok (.aload_n 2, 1) := by decide +kernel
theorem dL_law_1411 : decode cL_law 1411 = .ok (.invokevirtual 63, 3) := by decide +kernel
theorem dL_law_1414 : decode cL_law 1414 = .ok (.iload 5, 2) := by decide +kernel
theorem dL_law_1416 : decode cL_law 1416 = .ok (.if_icmp .eq 5, 3) := by decide +kernel
theorem dL_law_1419 : decode cL_law 1419 = .ok (.iconst 0, 1) := by decide +kernel
theorem dL_law_1420 : decode cL_law 1420 = .ok (.ireturn, 1) := by decide +kernel
theorem dL_law_1421 : decode cL_law 1421 = .ok (.iload 5, 2) := by decide +kernel
theorem dL_law_1423 : decode cL_law 1423 = .ok (.ifCond .ne 14, 3) := by decide +kernel
theorem dL_law_1426 : decode cL_law 1426 = .ok (.aload_n 3, 1) := by decide +kernel
theorem dL_law_1427 : decode cL_law 1427 = .ok (.iconst 0, 1) := by decide +kernel
theorem dL_law_1428 : decode cL_law 1428 = .ok (.laload, 1) := by decide +kernel
theorem dL_law_1429 : decode cL_law 1429 = .ok (.lload 6, 2) := by decide +kernel
theorem dL_law_1431 : decode cL_law 1431 = .ok (.lcmp, 1) := by decide +kernel
theorem dL_law_1432 : decode cL_law 1432 = .ok (.ifCond .eq 5, 3) := by decide +kernel
theorem dL_law_1435 : decode cL_law 1435 = .ok (.iconst 0, 1) := by decide +kernel
theorem dL_law_1436 : decode cL_law 1436 = .ok (.ireturn, 1) := by decide +kernel
theorem dL_law_1437 : decode cL_law 1437 = .ok (.goto 3, 3) := by decide +kernel
theorem law_c47 {Ln : Nat} {xs : Nat → Int32} {i bc bs : Nat} {B : Int} {σ : xW} {K : List xV → Nat → xW → Prop} (hLn : Ln ≤ 2560) (hi : 5 * i + 5 ≤ Ln) (hB : 0 ≤ B ∧ B ≤ 1000000) (h : XR B σ σ) (kk : xKK Ln xs i bc bs B K) : xZ (xGL Ln xs) 330 (bc + 100) (bs + 400) mL_law 1385 [vT 100, vR 0, vR 121, vR 154, vI (5 * (i : Int)), vX, vX, vX] [] 155 σ K := by
  have ho : XOt (fun σ : xW => 0 ≤ (xs (5 * (i : Int) + 1).toNat).toInt ∧ (xs (5 * (i : Int) + 1).toNat).toInt < σ 3 1) (fun σ => (F_X10_row (xs (5 * (i : Int) + 1).toNat).toInt σ).map (fun r => (r, σ))) (F_X11_row (xs (5 * (i : Int) + 1).toNat).toInt) := op_row (I32_toInt _)
  refine z_budget (bc' := bc + 0 + 0 + 1) (bs' := bs + 0 + 0 + 6) (by omega) (by omega) ?_
  have hn : I32 (σ 3 1) := by have q := h.2.1.1; exact ⟨by omega, by omega⟩
  refine z_aln dL_law_1385 rfl rfl (by decide) ?_
  refine z_tln dL_law_1386 rfl rfl (z_il dL_law_1387 rfl (z_ic dL_law_1389 (z_iadd dL_law_1390 (z_sld dL_law_1391 ⟨by omega, by omega⟩ hLn ?_))))
  refine z_aln dL_law_1392 rfl rfl (by decide) ?_
  by_cases hv : (fun σ : xW => 0 ≤ (xs (5 * (i : Int) + 1).toNat).toInt ∧ (xs (5 * (i : Int) + 1).toNat).toInt < σ 3 1) σ
  · obtain ⟨r, σ1, τ1, hF, hM, hT, hO, hX⟩ := xstepT id ho (fun σ q hq => by
    obtain ⟨r, hr, rfl⟩ := Option.map_eq_some_iff.mp hq
    exact fun _ _ => rfl) (fun τ q hq => xfm_lo (fr_X11_row hq) (by decide +kernel)) hB h hv
    obtain ⟨r2, hr2, he2⟩ := Option.map_eq_some_iff.mp hF
    cases he2
    refine z_callW xGL_s xGL_f (bc := bc + 0 + 0) (bs := bs + 0 + 0) (na := 3) (as := [vR 0, vI (xs (5 * (i : Int) + 1).toNat).toInt, vR 154]) (S := []) dL_law_1393 (x_tb (tb5 131 (by decide +kernel)) rfl) (x_tb (tb5 132 (by decide +kernel)) rfl) (x_tb (tb1 0 (by decide +kernel)) rfl) (x_tb (tb5 133 (by decide +kernel)) rfl) (by decide +kernel) (by decide) (L_row hr2) rfl (by decide) (by decide) (fun r' n' σ' _ hK => ?_)
    obtain ⟨rfl, rfl, rfl⟩ := hK
    refine z_ist_5 dL_law_1396 (by decide) rfl (z_aln dL_law_1398 rfl rfl (by decide) ?_)
    refine z_tln dL_law_1399 rfl rfl (z_il dL_law_1400 rfl (z_ic dL_law_1402 (z_iadd dL_law_1403 (z_sld dL_law_1404 ⟨by omega, by omega⟩ hLn ?_))))
    refine z_callV xGL_s (bc := bc + 0) (bs := bs + 0) (c := 121) (as := [vI (xs (5 * (i : Int) + 1).toNat).toInt]) (S := []) dL_law_1405 ml_L_226 rfl (s_X11_row hM) rfl (by decide) (by decide) (fun r' n' σ' _ hK => ?_)
    obtain ⟨rfl, rfl, rfl⟩ := hK
    refine z_lst_6 dL_law_1408 (by decide) rfl (z_aln dL_law_1410 rfl rfl (by decide) ?_)
    refine z_callV xGL_s (bc := bc) (bs := bs) (c := 121) (as := []) (S := []) dL_law_1411 ml_L_63 rfl (s_X11_thrown (q := 0) (congrArg some hT)) rfl (by decide) (by decide) (fun r' n' σ' _ hK => ?_)
    obtain ⟨rfl, rfl, rfl⟩ := hK
    refine z_il dL_law_1414 rfl (z_ceq dL_law_1416 (tgt := 1421) rfl (by decide) (by decide) (fun _ => ?_) (fun hne => absurd rfl hne))
    refine z_il dL_law_1421 rfl (z_zne dL_law_1423 (tgt := 1437) rfl (by decide) (fun hne => absurd rfl hne) (fun _ => ?_))
    refine z_aln dL_law_1426 rfl rfl (by decide) (z_ic dL_law_1427 (z_lald 1 dL_law_1428 rfl ⟨by decide, by decide⟩ (by decide) ?_))
    rw [hO]
    refine z_ll dL_law_1429 rfl (z_wl2 rfl rfl (z_lcmp dL_law_1431 (I64_xwl _) (I64_xwl _) ?_))
    show xZ (xGL Ln xs) 330 bc bs mL_law _ _ (vI (xcmp (xwl r) (xwl r)) :: _) 155 _ K
    rw [xcmp_self]
    exact z_zeq dL_law_1432 (tgt := 1437) rfl (by decide) (fun _ => z_goto dL_law_1437 (tgt := 1440) rfl (z_drop_5 (z_drop_6 (kk _ hX)))) (fun hne => absurd rfl hne)
  · obtain ⟨r, τ1, hM, hT, hX⟩ := xstepTn ho (fun τ q hq => xfm_lo (fr_X11_row hq) (by decide +kernel)) hB h hv
    refine z_callW xGL_s xGL_f (bc := bc + 0 + 0) (bs := bs + 0 + 0) (na := 3) (as := [vR 0, vI (xs (5 * (i : Int) + 1).toNat).toInt, vR 154]) (S := []) dL_law_1393 (x_tb (tb5 131 (by decide +kernel)) rfl) (x_tb (tb5 132 (by decide +kernel)) rfl) (x_tb (tb1 0 (by decide +kernel)) rfl) (x_tb (tb5 133 (by decide +kernel)) rfl) (by decide +kernel) (by decide) (Lt_row (I32_toInt _) hn hv) rfl (by decide) (by decide) (fun r' n' σ' _ hK => ?_)
    obtain ⟨rfl, rfl, rfl⟩ := hK
    refine z_ist_5 dL_law_1396 (by decide) rfl (z_aln dL_law_1398 rfl rfl (by decide) ?_)
    refine z_tln dL_law_1399 rfl rfl (z_il dL_law_1400 rfl (z_ic dL_law_1402 (z_iadd dL_law_1403 (z_sld dL_law_1404 ⟨by omega, by omega⟩ hLn ?_))))
    refine z_callV xGL_s (bc := bc + 0) (bs := bs + 0) (c := 121) (as := [vI (xs (5 * (i : Int) + 1).toNat).toInt]) (S := []) dL_law_1405 ml_L_226 rfl (s_X11_row hM) rfl (by decide) (by decide) (fun r' n' σ' _ hK => ?_)
    obtain ⟨rfl, rfl, rfl⟩ := hK
    refine z_lst_6 dL_law_1408 (by decide) rfl (z_aln dL_law_1410 rfl rfl (by decide) ?_)
    refine z_callV xGL_s (bc := bc) (bs := bs) (c := 121) (as := []) (S := []) dL_law_1411 ml_L_63 rfl (s_X11_thrown (q := 1) (congrArg some hT)) rfl (by decide) (by decide) (fun r' n' σ' _ hK => ?_)
    obtain ⟨rfl, rfl, rfl⟩ := hK
    refine z_il dL_law_1414 rfl (z_ceq dL_law_1416 (tgt := 1421) rfl (by decide) (by decide) (fun _ => ?_) (fun hne => absurd rfl hne))
    exact z_il dL_law_1421 rfl (z_zne dL_law_1423 (tgt := 1437) rfl (by decide) (fun _ => z_goto dL_law_1437 (tgt := 1440) rfl (z_drop_5 (z_drop_6 (kk _ hX)))) (fun he => absurd he (by decide)))
