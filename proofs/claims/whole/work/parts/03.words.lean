theorem x_tb {w : Cond} (h : w ∈ tables_1) (g : goodWord w = true) : w ∈ xTB := List.mem_filter.mpr ⟨List.mem_append_right _ h, g⟩
theorem x_nw {w : Cond} (h : w ∈ tables_1) (g : xnest w = true) : w ∈ xNW := List.mem_filter.mpr ⟨List.mem_append_right _ h, g⟩
theorem tb1 {w : Cond} (i : Nat) (h : tables_1_1[i]? = some w) : w ∈ tables_1 := List.mem_append_left _ (List.mem_of_getElem? h)
theorem tb2 {w : Cond} (i : Nat) (h : tables_1_2[i]? = some w) : w ∈ tables_1 := List.mem_append_right _ (List.mem_append_left _ (List.mem_of_getElem? h))
theorem tb3 {w : Cond} (i : Nat) (h : tables_1_3[i]? = some w) : w ∈ tables_1 := List.mem_append_right _ (List.mem_append_right _ (List.mem_append_left _ (List.mem_of_getElem? h)))
theorem tb4 {w : Cond} (i : Nat) (h : tables_1_4[i]? = some w) : w ∈ tables_1 := List.mem_append_right _ (List.mem_append_right _ (List.mem_append_right _ (List.mem_append_left _ (List.mem_of_getElem? h))))
theorem tb5 {w : Cond} (i : Nat) (h : tables_1_5[i]? = some w) : w ∈ tables_1 := List.mem_append_right _ (List.mem_append_right _ (List.mem_append_right _ (List.mem_append_right _ (List.mem_append_left _ (List.mem_of_getElem? h)))))
theorem tb6 {w : Cond} (i : Nat) (h : tables_1_6[i]? = some w) : w ∈ tables_1 := List.mem_append_right _ (List.mem_append_right _ (List.mem_append_right _ (List.mem_append_right _ (List.mem_append_right _ (List.mem_append_left _ (List.mem_of_getElem? h))))))
theorem tb7 {w : Cond} (i : Nat) (h : tables_1_7[i]? = some w) : w ∈ tables_1 := List.mem_append_right _ (List.mem_append_right _ (List.mem_append_right _ (List.mem_append_right _ (List.mem_append_right _ (List.mem_append_right _ (List.mem_append_left _ (List.mem_of_getElem? h)))))))
theorem tb8 {w : Cond} (i : Nat) (h : tables_1_8[i]? = some w) : w ∈ tables_1 := List.mem_append_right _ (List.mem_append_right _ (List.mem_append_right _ (List.mem_append_right _ (List.mem_append_right _ (List.mem_append_right _ (List.mem_append_right _ (List.mem_of_getElem? h)))))))
theorem x_sel {q : MethodName × Nat} (i : Nat) (h : lw_privs[i]? = some q) (g : goodWord (Cond.selects q.1.cls q.1 q.1) = true) : Cond.selects q.1.cls q.1 q.1 ∈ xTB := List.mem_filter.mpr ⟨List.mem_append_left _ (List.mem_map.mpr ⟨q, List.mem_of_getElem? h, rfl⟩), g⟩
theorem x_all (ws : List Cond) (is : List Nat) (h : ws = is.filterMap (fun i => tables_1[i]?)) (g : ws.all goodWord = true) : ∀ w ∈ ws, w ∈ xTB := by
  intro w hw
  have h1 := List.all_eq_true.mp g w hw
  rw [h] at hw
  obtain ⟨i, -, hi⟩ := List.mem_filterMap.mp hw
  exact x_tb (List.mem_of_getElem? hi) h1
theorem wX0 : ∀ w ∈ u_ws RX0 TX0 2, w ∈ xTB := x_all _ [204, 206] (by decide +kernel) (by decide +kernel)
theorem wX1 : ∀ w ∈ u_ws RX1 TX1 2, w ∈ xTB := x_all _ [75, 77] (by decide +kernel) (by decide +kernel)
theorem wX2 : ∀ w ∈ u_ws RX2 TX2 2, w ∈ xTB := x_all _ [287, 289] (by decide +kernel) (by decide +kernel)
theorem wX3 : ∀ w ∈ u_ws RX3 TX3 3, w ∈ xTB := x_all _ [177, 179, 181] (by decide +kernel) (by decide +kernel)
theorem wX4 : ∀ w ∈ u_ws RX4 TX4 8, w ∈ xTB := x_all _ [231, 233, 235, 237, 239, 241, 243, 245] (by decide +kernel) (by decide +kernel)
theorem wX5 : ∀ w ∈ u_ws RX5 TX5 6, w ∈ xTB := x_all _ [266, 268, 270, 272, 274, 276] (by decide +kernel) (by decide +kernel)
theorem wX6 : ∀ w ∈ u_ws RX6 TX6 2, w ∈ xTB := x_all _ [61, 63] (by decide +kernel) (by decide +kernel)
theorem wX7 : ∀ w ∈ u_ws RX7 TX7 8, w ∈ xTB := x_all _ [104, 106, 108, 110, 112, 114, 116, 118] (by decide +kernel) (by decide +kernel)
theorem wX8 : ∀ w ∈ u_ws RX8 TX8 2, w ∈ xTB := x_all _ [45, 47] (by decide +kernel) (by decide +kernel)
theorem wX9 : ∀ w ∈ u_ws RX9 TX9 9, w ∈ xTB := x_all _ [145, 147, 149, 151, 153, 155, 157, 159, 161] (by decide +kernel) (by decide +kernel)
theorem wX10 : ∀ w ∈ u_ws RX10 TX10 18, w ∈ xTB := x_all _ [310, 312, 314, 316, 318, 320, 322, 324, 326, 328, 330, 332, 334, 336, 338, 340, 342, 344] (by decide +kernel) (by decide +kernel)
theorem wX11 : ∀ w ∈ u_ws RX11 TX11 52, w ∈ xTB := x_all _ [1161, 1163, 1165, 1167, 1169, 1171, 1173, 1175, 1177, 1179, 1181, 1183, 1185, 1187, 1189, 1191, 1193, 1195, 1197, 1199, 1201, 1203, 1205, 1207, 1209, 1211, 1213, 1215, 1217, 1219, 1221, 1223, 1225, 1227, 1229, 1231, 1233, 1235, 1237, 1239, 1241, 1243, 1245, 1247, 1249, 1251, 1253, 1255, 1257, 1259, 1261, 1263] (by decide +kernel) (by decide +kernel)
theorem fl_X8_11 : xFL RX8 11 8 0 true (.array .char) := ⟨RX8, TX8, 2, tyX8, rfl, by decide, wX8, tyX8_ok, nmX8, rfl, rfl, Or.inl (x_tb (tb1 40 (by decide +kernel)) rfl)⟩
theorem fl_X8_15 : xFL RX8 15 8 1 false .int := ⟨RX8, TX8, 2, tyX8, rfl, by decide, wX8, tyX8_ok, nmX8, rfl, rfl, Or.inl (x_tb (tb1 41 (by decide +kernel)) rfl)⟩
theorem fl_X1_19 : xFL RX1 19 8 1 false .int := ⟨RX8, TX8, 2, tyX8, rfl, by decide, wX8, tyX8_ok, nmX8, rfl, rfl, Or.inr ⟨"NoonGun", x_nw (tb1 42 (by decide +kernel)) rfl⟩⟩
theorem fl_X10_112 : xFL RX10 112 8 1 false .int := ⟨RX8, TX8, 2, tyX8, rfl, by decide, wX8, tyX8_ok, nmX8, rfl, rfl, Or.inr ⟨"NoonGun", x_nw (tb1 43 (by decide +kernel)) rfl⟩⟩
theorem fl_X7_51 : xFL RX7 51 8 1 false .int := ⟨RX8, TX8, 2, tyX8, rfl, by decide, wX8, tyX8_ok, nmX8, rfl, rfl, Or.inr ⟨"NoonGun", x_nw (tb1 44 (by decide +kernel)) rfl⟩⟩
theorem fl_X6_9 : xFL RX6 9 6 0 true (.array .long) := ⟨RX6, TX6, 2, tyX6, rfl, by decide, wX6, tyX6_ok, nmX6, rfl, rfl, Or.inl (x_tb (tb1 57 (by decide +kernel)) rfl)⟩
theorem fl_X10_410 : xFL RX10 410 6 0 true (.array .long) := ⟨RX6, TX6, 2, tyX6, rfl, by decide, wX6, tyX6_ok, nmX6, rfl, rfl, Or.inr ⟨"NoonGun", x_nw (tb1 58 (by decide +kernel)) rfl⟩⟩
theorem fl_X6_13 : xFL RX6 13 6 1 false .int := ⟨RX6, TX6, 2, tyX6, rfl, by decide, wX6, tyX6_ok, nmX6, rfl, rfl, Or.inl (x_tb (tb1 59 (by decide +kernel)) rfl)⟩
theorem fl_X10_407 : xFL RX10 407 6 1 false .int := ⟨RX6, TX6, 2, tyX6, rfl, by decide, wX6, tyX6_ok, nmX6, rfl, rfl, Or.inr ⟨"NoonGun", x_nw (tb1 60 (by decide +kernel)) rfl⟩⟩
theorem fl_X1_11 : xFL RX1 11 1 0 true (.array .int) := ⟨RX1, TX1, 2, tyX1, rfl, by decide, wX1, tyX1_ok, nmX1, rfl, rfl, Or.inl (x_tb (tb1 73 (by decide +kernel)) rfl)⟩
theorem fl_X1_15 : xFL RX1 15 1 1 false .int := ⟨RX1, TX1, 2, tyX1, rfl, by decide, wX1, tyX1_ok, nmX1, rfl, rfl, Or.inl (x_tb (tb1 74 (by decide +kernel)) rfl)⟩
theorem fl_X7_11 : xFL RX7 11 7 0 true (.array .int) := ⟨RX7, TX7, 8, tyX7, rfl, by decide, wX7, tyX7_ok, nmX7, rfl, rfl, Or.inl (x_tb (tb1 96 (by decide +kernel)) rfl)⟩
theorem fl_X7_15 : xFL RX7 15 7 1 false .int := ⟨RX7, TX7, 8, tyX7, rfl, by decide, wX7, tyX7_ok, nmX7, rfl, rfl, Or.inl (x_tb (tb1 97 (by decide +kernel)) rfl)⟩
theorem fl_X7_19 : xFL RX7 19 7 2 true (.array .int) := ⟨RX7, TX7, 8, tyX7, rfl, by decide, wX7, tyX7_ok, nmX7, rfl, rfl, Or.inl (x_tb (tb1 98 (by decide +kernel)) rfl)⟩
theorem fl_X7_22 : xFL RX7 22 7 3 true (.array .char) := ⟨RX7, TX7, 8, tyX7, rfl, by decide, wX7, tyX7_ok, nmX7, rfl, rfl, Or.inl (x_tb (tb1 99 (by decide +kernel)) rfl)⟩
theorem fl_X7_26 : xFL RX7 26 7 4 false .int := ⟨RX7, TX7, 8, tyX7, rfl, by decide, wX7, tyX7_ok, nmX7, rfl, rfl, Or.inl (x_tb (tb1 100 (by decide +kernel)) rfl)⟩
theorem fl_X7_29 : xFL RX7 29 7 5 false .int := ⟨RX7, TX7, 8, tyX7, rfl, by decide, wX7, tyX7_ok, nmX7, rfl, rfl, Or.inl (x_tb (tb1 101 (by decide +kernel)) rfl)⟩
theorem fl_X7_32 : xFL RX7 32 7 6 false .int := ⟨RX7, TX7, 8, tyX7, rfl, by decide, wX7, tyX7_ok, nmX7, rfl, rfl, Or.inl (x_tb (tb1 102 (by decide +kernel)) rfl)⟩
theorem fl_X7_35 : xFL RX7 35 7 7 false .boolean := ⟨RX7, TX7, 8, tyX7, rfl, by decide, wX7, tyX7_ok, nmX7, rfl, rfl, Or.inl (x_tb (tb1 103 (by decide +kernel)) rfl)⟩
theorem fl_X9_9 : xFL RX9 9 9 0 false .int := ⟨RX9, TX9, 9, tyX9, rfl, by decide, wX9, tyX9_ok, nmX9, rfl, rfl, Or.inl (x_tb (tb1 127 (by decide +kernel)) rfl)⟩
theorem fl_X10_379 : xFL RX10 379 9 0 false .int := ⟨RX9, TX9, 9, tyX9, rfl, by decide, wX9, tyX9_ok, nmX9, rfl, rfl, Or.inr ⟨"NoonGun", x_nw (tb1 128 (by decide +kernel)) rfl⟩⟩
theorem fl_X9_15 : xFL RX9 15 9 1 false .int := ⟨RX9, TX9, 9, tyX9, rfl, by decide, wX9, tyX9_ok, nmX9, rfl, rfl, Or.inl (x_tb (tb1 129 (by decide +kernel)) rfl)⟩
theorem fl_X10_438 : xFL RX10 438 9 1 false .int := ⟨RX9, TX9, 9, tyX9, rfl, by decide, wX9, tyX9_ok, nmX9, rfl, rfl, Or.inr ⟨"NoonGun", x_nw (tb1 130 (by decide +kernel)) rfl⟩⟩
theorem fl_X9_18 : xFL RX9 18 9 2 false .int := ⟨RX9, TX9, 9, tyX9, rfl, by decide, wX9, tyX9_ok, nmX9, rfl, rfl, Or.inl (x_tb (tb1 131 (by decide +kernel)) rfl)⟩
theorem fl_X10_288 : xFL RX10 288 9 2 false .int := ⟨RX9, TX9, 9, tyX9, rfl, by decide, wX9, tyX9_ok, nmX9, rfl, rfl, Or.inr ⟨"NoonGun", x_nw (tb1 132 (by decide +kernel)) rfl⟩⟩
theorem fl_X9_21 : xFL RX9 21 9 3 false .int := ⟨RX9, TX9, 9, tyX9, rfl, by decide, wX9, tyX9_ok, nmX9, rfl, rfl, Or.inl (x_tb (tb1 133 (by decide +kernel)) rfl)⟩
theorem fl_X10_239 : xFL RX10 239 9 3 false .int := ⟨RX9, TX9, 9, tyX9, rfl, by decide, wX9, tyX9_ok, nmX9, rfl, rfl, Or.inr ⟨"NoonGun", x_nw (tb1 134 (by decide +kernel)) rfl⟩⟩
theorem fl_X9_24 : xFL RX9 24 9 4 false .int := ⟨RX9, TX9, 9, tyX9, rfl, by decide, wX9, tyX9_ok, nmX9, rfl, rfl, Or.inl (x_tb (tb1 135 (by decide +kernel)) rfl)⟩
theorem fl_X10_404 : xFL RX10 404 9 4 false .int := ⟨RX9, TX9, 9, tyX9, rfl, by decide, wX9, tyX9_ok, nmX9, rfl, rfl, Or.inr ⟨"NoonGun", x_nw (tb1 136 (by decide +kernel)) rfl⟩⟩
theorem fl_X9_27 : xFL RX9 27 9 5 false .int := ⟨RX9, TX9, 9, tyX9, rfl, by decide, wX9, tyX9_ok, nmX9, rfl, rfl, Or.inl (x_tb (tb1 137 (by decide +kernel)) rfl)⟩
theorem fl_X10_277 : xFL RX10 277 9 5 false .int := ⟨RX9, TX9, 9, tyX9, rfl, by decide, wX9, tyX9_ok, nmX9, rfl, rfl, Or.inr ⟨"NoonGun", x_nw (tb1 138 (by decide +kernel)) rfl⟩⟩
theorem fl_X9_30 : xFL RX9 30 9 6 true (.array .int) := ⟨RX9, TX9, 9, tyX9, rfl, by decide, wX9, tyX9_ok, nmX9, rfl, rfl, Or.inl (x_tb (tb1 139 (by decide +kernel)) rfl)⟩
theorem fl_X10_152 : xFL RX10 152 9 6 true (.array .int) := ⟨RX9, TX9, 9, tyX9, rfl, by decide, wX9, tyX9_ok, nmX9, rfl, rfl, Or.inr ⟨"NoonGun", x_nw (tb1 140 (by decide +kernel)) rfl⟩⟩
theorem fl_X9_34 : xFL RX9 34 9 7 true (.array .int) := ⟨RX9, TX9, 9, tyX9, rfl, by decide, wX9, tyX9_ok, nmX9, rfl, rfl, Or.inl (x_tb (tb1 141 (by decide +kernel)) rfl)⟩
theorem fl_X10_155 : xFL RX10 155 9 7 true (.array .int) := ⟨RX9, TX9, 9, tyX9, rfl, by decide, wX9, tyX9_ok, nmX9, rfl, rfl, Or.inr ⟨"NoonGun", x_nw (tb1 142 (by decide +kernel)) rfl⟩⟩
theorem fl_X9_37 : xFL RX9 37 9 8 true (.array .int) := ⟨RX9, TX9, 9, tyX9, rfl, by decide, wX9, tyX9_ok, nmX9, rfl, rfl, Or.inl (x_tb (tb1 143 (by decide +kernel)) rfl)⟩
theorem fl_X10_179 : xFL RX10 179 9 8 true (.array .int) := ⟨RX9, TX9, 9, tyX9, rfl, by decide, wX9, tyX9_ok, nmX9, rfl, rfl, Or.inr ⟨"NoonGun", x_nw (tb1 144 (by decide +kernel)) rfl⟩⟩
theorem fl_X3_11 : xFL RX3 11 3 0 true (.array (.object "NoonGun$Town")) := ⟨RX3, TX3, 3, tyX3, rfl, by decide, wX3, tyX3_ok, nmX3, rfl, rfl, Or.inl (x_tb (tb1 173 (by decide +kernel)) rfl)⟩
theorem fl_X3_15 : xFL RX3 15 3 1 false .int := ⟨RX3, TX3, 3, tyX3, rfl, by decide, wX3, tyX3_ok, nmX3, rfl, rfl, Or.inl (x_tb (tb1 174 (by decide +kernel)) rfl)⟩
theorem fl_X3_19 : xFL RX3 19 3 2 false .int := ⟨RX3, TX3, 3, tyX3, rfl, by decide, wX3, tyX3_ok, nmX3, rfl, rfl, Or.inl (x_tb (tb1 175 (by decide +kernel)) rfl)⟩
theorem fl_X10_250 : xFL RX10 250 3 2 false .int := ⟨RX3, TX3, 3, tyX3, rfl, by decide, wX3, tyX3_ok, nmX3, rfl, rfl, Or.inr ⟨"NoonGun", x_nw (tb1 176 (by decide +kernel)) rfl⟩⟩
theorem fl_X0_19 : xFL RX0 19 0 0 true (.array .int) := ⟨RX0, TX0, 2, tyX0, rfl, by decide, wX0, tyX0_ok, nmX0, rfl, rfl, Or.inl (x_tb (tb1 201 (by decide +kernel)) rfl)⟩
theorem fl_X0_25 : xFL RX0 25 0 1 true (.array .int) := ⟨RX0, TX0, 2, tyX0, rfl, by decide, wX0, tyX0_ok, nmX0, rfl, rfl, Or.inl (x_tb (tb1 202 (by decide +kernel)) rfl)⟩
theorem fl_X10_325 : xFL RX10 325 0 1 true (.array .int) := ⟨RX0, TX0, 2, tyX0, rfl, by decide, wX0, tyX0_ok, nmX0, rfl, rfl, Or.inr ⟨"NoonGun", x_nw (tb1 203 (by decide +kernel)) rfl⟩⟩
theorem fl_X4_9 : xFL RX4 9 4 0 false .int := ⟨RX4, TX4, 8, tyX4, rfl, by decide, wX4, tyX4_ok, nmX4, rfl, rfl, Or.inl (x_tb (tb1 217 (by decide +kernel)) rfl)⟩
theorem fl_X10_131 : xFL RX10 131 4 0 false .int := ⟨RX4, TX4, 8, tyX4, rfl, by decide, wX4, tyX4_ok, nmX4, rfl, rfl, Or.inr ⟨"NoonGun", x_nw (tb1 218 (by decide +kernel)) rfl⟩⟩
theorem fl_X4_15 : xFL RX4 15 4 1 true (.array .int) := ⟨RX4, TX4, 8, tyX4, rfl, by decide, wX4, tyX4_ok, nmX4, rfl, rfl, Or.inl (x_tb (tb1 219 (by decide +kernel)) rfl)⟩
theorem fl_X10_176 : xFL RX10 176 4 1 true (.array .int) := ⟨RX4, TX4, 8, tyX4, rfl, by decide, wX4, tyX4_ok, nmX4, rfl, rfl, Or.inr ⟨"NoonGun", x_nw (tb1 220 (by decide +kernel)) rfl⟩⟩
theorem fl_X4_19 : xFL RX4 19 4 2 true (.array .int) := ⟨RX4, TX4, 8, tyX4, rfl, by decide, wX4, tyX4_ok, nmX4, rfl, rfl, Or.inl (x_tb (tb1 221 (by decide +kernel)) rfl)⟩
theorem fl_X10_182 : xFL RX10 182 4 2 true (.array .int) := ⟨RX4, TX4, 8, tyX4, rfl, by decide, wX4, tyX4_ok, nmX4, rfl, rfl, Or.inr ⟨"NoonGun", x_nw (tb1 222 (by decide +kernel)) rfl⟩⟩
theorem fl_X4_22 : xFL RX4 22 4 3 true (.array .int) := ⟨RX4, TX4, 8, tyX4, rfl, by decide, wX4, tyX4_ok, nmX4, rfl, rfl, Or.inl (x_tb (tb1 223 (by decide +kernel)) rfl)⟩
theorem fl_X10_185 : xFL RX10 185 4 3 true (.array .int) := ⟨RX4, TX4, 8, tyX4, rfl, by decide, wX4, tyX4_ok, nmX4, rfl, rfl, Or.inr ⟨"NoonGun", x_nw (tb1 224 (by decide +kernel)) rfl⟩⟩
theorem fl_X4_25 : xFL RX4 25 4 4 true (.array .int) := ⟨RX4, TX4, 8, tyX4, rfl, by decide, wX4, tyX4_ok, nmX4, rfl, rfl, Or.inl (x_tb (tb1 225 (by decide +kernel)) rfl)⟩
theorem fl_X4_28 : xFL RX4 28 4 5 true (.array .int) := ⟨RX4, TX4, 8, tyX4, rfl, by decide, wX4, tyX4_ok, nmX4, rfl, rfl, Or.inl (x_tb (tb1 226 (by decide +kernel)) rfl)⟩
theorem fl_X10_255 : xFL RX10 255 4 5 true (.array .int) := ⟨RX4, TX4, 8, tyX4, rfl, by decide, wX4, tyX4_ok, nmX4, rfl, rfl, Or.inr ⟨"NoonGun", x_nw (tb1 227 (by decide +kernel)) rfl⟩⟩
theorem fl_X4_31 : xFL RX4 31 4 6 true (.array .int) := ⟨RX4, TX4, 8, tyX4, rfl, by decide, wX4, tyX4_ok, nmX4, rfl, rfl, Or.inl (x_tb (tb1 228 (by decide +kernel)) rfl)⟩
theorem fl_X10_322 : xFL RX10 322 4 6 true (.array .int) := ⟨RX4, TX4, 8, tyX4, rfl, by decide, wX4, tyX4_ok, nmX4, rfl, rfl, Or.inr ⟨"NoonGun", x_nw (tb1 229 (by decide +kernel)) rfl⟩⟩
theorem fl_X4_34 : xFL RX4 34 4 7 true (.array .int) := ⟨RX4, TX4, 8, tyX4, rfl, by decide, wX4, tyX4_ok, nmX4, rfl, rfl, Or.inl (x_tb (tb1 230 (by decide +kernel)) rfl)⟩
theorem fl_X5_11 : xFL RX5 11 5 0 true (.array .int) := ⟨RX5, TX5, 6, tyX5, rfl, by decide, wX5, tyX5_ok, nmX5, rfl, rfl, Or.inl (x_tb (tb2 14 (by decide +kernel)) rfl)⟩
theorem fl_X10_460 : xFL RX10 460 5 0 true (.array .int) := ⟨RX5, TX5, 6, tyX5, rfl, by decide, wX5, tyX5_ok, nmX5, rfl, rfl, Or.inr ⟨"NoonGun", x_nw (tb2 15 (by decide +kernel)) rfl⟩⟩
theorem fl_X5_15 : xFL RX5 15 5 1 true (.array .int) := ⟨RX5, TX5, 6, tyX5, rfl, by decide, wX5, tyX5_ok, nmX5, rfl, rfl, Or.inl (x_tb (tb2 16 (by decide +kernel)) rfl)⟩
theorem fl_X10_466 : xFL RX10 466 5 1 true (.array .int) := ⟨RX5, TX5, 6, tyX5, rfl, by decide, wX5, tyX5_ok, nmX5, rfl, rfl, Or.inr ⟨"NoonGun", x_nw (tb2 17 (by decide +kernel)) rfl⟩⟩
theorem fl_X5_18 : xFL RX5 18 5 2 false .int := ⟨RX5, TX5, 6, tyX5, rfl, by decide, wX5, tyX5_ok, nmX5, rfl, rfl, Or.inl (x_tb (tb2 18 (by decide +kernel)) rfl)⟩
theorem fl_X10_333 : xFL RX10 333 5 2 false .int := ⟨RX5, TX5, 6, tyX5, rfl, by decide, wX5, tyX5_ok, nmX5, rfl, rfl, Or.inr ⟨"NoonGun", x_nw (tb2 19 (by decide +kernel)) rfl⟩⟩
theorem fl_X5_22 : xFL RX5 22 5 3 true (.array .int) := ⟨RX5, TX5, 6, tyX5, rfl, by decide, wX5, tyX5_ok, nmX5, rfl, rfl, Or.inl (x_tb (tb2 20 (by decide +kernel)) rfl)⟩
theorem fl_X10_337 : xFL RX10 337 5 3 true (.array .int) := ⟨RX5, TX5, 6, tyX5, rfl, by decide, wX5, tyX5_ok, nmX5, rfl, rfl, Or.inr ⟨"NoonGun", x_nw (tb2 21 (by decide +kernel)) rfl⟩⟩
theorem fl_X5_25 : xFL RX5 25 5 4 false .int := ⟨RX5, TX5, 6, tyX5, rfl, by decide, wX5, tyX5_ok, nmX5, rfl, rfl, Or.inl (x_tb (tb2 22 (by decide +kernel)) rfl)⟩
theorem fl_X10_457 : xFL RX10 457 5 4 false .int := ⟨RX5, TX5, 6, tyX5, rfl, by decide, wX5, tyX5_ok, nmX5, rfl, rfl, Or.inr ⟨"NoonGun", x_nw (tb2 23 (by decide +kernel)) rfl⟩⟩
theorem fl_X5_28 : xFL RX5 28 5 5 true (.array .int) := ⟨RX5, TX5, 6, tyX5, rfl, by decide, wX5, tyX5_ok, nmX5, rfl, rfl, Or.inl (x_tb (tb2 24 (by decide +kernel)) rfl)⟩
theorem fl_X10_467 : xFL RX10 467 5 5 true (.array .int) := ⟨RX5, TX5, 6, tyX5, rfl, by decide, wX5, tyX5_ok, nmX5, rfl, rfl, Or.inr ⟨"NoonGun", x_nw (tb2 25 (by decide +kernel)) rfl⟩⟩
theorem fl_X2_9 : xFL RX2 9 2 0 true (.array .int) := ⟨RX2, TX2, 2, tyX2, rfl, by decide, wX2, tyX2_ok, nmX2, rfl, rfl, Or.inl (x_tb (tb2 45 (by decide +kernel)) rfl)⟩
theorem fl_X2_13 : xFL RX2 13 2 1 false .boolean := ⟨RX2, TX2, 2, tyX2, rfl, by decide, wX2, tyX2_ok, nmX2, rfl, rfl, Or.inl (x_tb (tb2 46 (by decide +kernel)) rfl)⟩
theorem fl_X10_12 : xFL RX10 12 10 0 true (.object "NoonGun$Text") := ⟨RX10, TX10, 18, tyX10, rfl, by decide, wX10, tyX10_ok, nmX10, rfl, rfl, Or.inl (x_tb (tb2 52 (by decide +kernel)) rfl)⟩
theorem fl_X10_19 : xFL RX10 19 10 1 true (.object "NoonGun$Row") := ⟨RX10, TX10, 18, tyX10, rfl, by decide, wX10, tyX10_ok, nmX10, rfl, rfl, Or.inl (x_tb (tb2 53 (by decide +kernel)) rfl)⟩
theorem fl_X10_26 : xFL RX10 26 10 2 true (.object "NoonGun$Digits") := ⟨RX10, TX10, 18, tyX10, rfl, by decide, wX10, tyX10_ok, nmX10, rfl, rfl, Or.inl (x_tb (tb2 54 (by decide +kernel)) rfl)⟩
theorem fl_X10_30 : xFL RX10 30 10 3 true (.object "NoonGun$Digits") := ⟨RX10, TX10, 18, tyX10, rfl, by decide, wX10, tyX10_ok, nmX10, rfl, rfl, Or.inl (x_tb (tb2 55 (by decide +kernel)) rfl)⟩
theorem fl_X10_36 : xFL RX10 36 10 4 false (.object "NoonGun$Rule") := ⟨RX10, TX10, 18, tyX10, rfl, by decide, wX10, tyX10_ok, nmX10, rfl, rfl, Or.inl (x_tb (tb2 56 (by decide +kernel)) rfl)⟩
theorem fl_X10_40 : xFL RX10 40 10 5 false (.object "NoonGun$Rule") := ⟨RX10, TX10, 18, tyX10, rfl, by decide, wX10, tyX10_ok, nmX10, rfl, rfl, Or.inl (x_tb (tb2 57 (by decide +kernel)) rfl)⟩
theorem fl_X10_46 : xFL RX10 46 10 6 true (.object "NoonGun$Town") := ⟨RX10, TX10, 18, tyX10, rfl, by decide, wX10, tyX10_ok, nmX10, rfl, rfl, Or.inl (x_tb (tb2 58 (by decide +kernel)) rfl)⟩
theorem fl_X10_53 : xFL RX10 53 10 7 true (.object "NoonGun$Past") := ⟨RX10, TX10, 18, tyX10, rfl, by decide, wX10, tyX10_ok, nmX10, rfl, rfl, Or.inl (x_tb (tb2 59 (by decide +kernel)) rfl)⟩
theorem fl_X10_57 : xFL RX10 57 10 8 true (.array (.object "NoonGun$Town")) := ⟨RX10, TX10, 18, tyX10, rfl, by decide, wX10, tyX10_ok, nmX10, rfl, rfl, Or.inl (x_tb (tb2 60 (by decide +kernel)) rfl)⟩
theorem fl_X10_61 : xFL RX10 61 10 9 true (.array .boolean) := ⟨RX10, TX10, 18, tyX10, rfl, by decide, wX10, tyX10_ok, nmX10, rfl, rfl, Or.inl (x_tb (tb2 61 (by decide +kernel)) rfl)⟩
theorem fl_X10_68 : xFL RX10 68 10 10 true (.object "NoonGun$Bang") := ⟨RX10, TX10, 18, tyX10, rfl, by decide, wX10, tyX10_ok, nmX10, rfl, rfl, Or.inl (x_tb (tb2 62 (by decide +kernel)) rfl)⟩
theorem fl_X10_75 : xFL RX10 75 10 11 true (.object "NoonGun$Plan") := ⟨RX10, TX10, 18, tyX10, rfl, by decide, wX10, tyX10_ok, nmX10, rfl, rfl, Or.inl (x_tb (tb2 63 (by decide +kernel)) rfl)⟩
theorem fl_X10_82 : xFL RX10 82 10 12 true (.object "NoonGun$Reports") := ⟨RX10, TX10, 18, tyX10, rfl, by decide, wX10, tyX10_ok, nmX10, rfl, rfl, Or.inl (x_tb (tb2 64 (by decide +kernel)) rfl)⟩
theorem fl_X10_89 : xFL RX10 89 10 13 true (.object "NoonGun$Forts") := ⟨RX10, TX10, 18, tyX10, rfl, by decide, wX10, tyX10_ok, nmX10, rfl, rfl, Or.inl (x_tb (tb2 65 (by decide +kernel)) rfl)⟩
theorem fl_X10_93 : xFL RX10 93 10 14 false .int := ⟨RX10, TX10, 18, tyX10, rfl, by decide, wX10, tyX10_ok, nmX10, rfl, rfl, Or.inl (x_tb (tb2 66 (by decide +kernel)) rfl)⟩
theorem fl_X10_97 : xFL RX10 97 10 15 false .int := ⟨RX10, TX10, 18, tyX10, rfl, by decide, wX10, tyX10_ok, nmX10, rfl, rfl, Or.inl (x_tb (tb2 67 (by decide +kernel)) rfl)⟩
theorem fl_X10_100 : xFL RX10 100 10 16 true (.array .int) := ⟨RX10, TX10, 18, tyX10, rfl, by decide, wX10, tyX10_ok, nmX10, rfl, rfl, Or.inl (x_tb (tb2 68 (by decide +kernel)) rfl)⟩
theorem fl_X10_104 : xFL RX10 104 10 17 true (.array .long) := ⟨RX10, TX10, 18, tyX10, rfl, by decide, wX10, tyX10_ok, nmX10, rfl, rfl, Or.inl (x_tb (tb2 69 (by decide +kernel)) rfl)⟩
theorem fl_X11_3 : xFL RX11 3 11 0 false .int := ⟨RX11, TX11, 52, tyX11, rfl, by decide, wX11, tyX11_ok, nmX11, rfl, rfl, Or.inl (x_tb (tb5 149 (by decide +kernel)) rfl)⟩
theorem fl_X11_15 : xFL RX11 15 11 1 false .int := ⟨RX11, TX11, 52, tyX11, rfl, by decide, wX11, tyX11_ok, nmX11, rfl, rfl, Or.inl (x_tb (tb5 150 (by decide +kernel)) rfl)⟩
theorem fl_X11_11 : xFL RX11 11 11 2 true (.array .long) := ⟨RX11, TX11, 52, tyX11, rfl, by decide, wX11, tyX11_ok, nmX11, rfl, rfl, Or.inl (x_tb (tb5 151 (by decide +kernel)) rfl)⟩
theorem fl_X11_129 : xFL RX11 129 11 3 false .int := ⟨RX11, TX11, 52, tyX11, rfl, by decide, wX11, tyX11_ok, nmX11, rfl, rfl, Or.inl (x_tb (tb5 152 (by decide +kernel)) rfl)⟩
theorem fl_X11_136 : xFL RX11 136 11 4 false .int := ⟨RX11, TX11, 52, tyX11, rfl, by decide, wX11, tyX11_ok, nmX11, rfl, rfl, Or.inl (x_tb (tb5 153 (by decide +kernel)) rfl)⟩
theorem fl_X11_221 : xFL RX11 221 11 5 false .int := ⟨RX11, TX11, 52, tyX11, rfl, by decide, wX11, tyX11_ok, nmX11, rfl, rfl, Or.inl (x_tb (tb5 154 (by decide +kernel)) rfl)⟩
theorem fl_X11_28 : xFL RX11 28 11 6 false .int := ⟨RX11, TX11, 52, tyX11, rfl, by decide, wX11, tyX11_ok, nmX11, rfl, rfl, Or.inl (x_tb (tb5 155 (by decide +kernel)) rfl)⟩
theorem fl_X11_31 : xFL RX11 31 11 7 false .int := ⟨RX11, TX11, 52, tyX11, rfl, by decide, wX11, tyX11_ok, nmX11, rfl, rfl, Or.inl (x_tb (tb5 156 (by decide +kernel)) rfl)⟩
theorem fl_X11_34 : xFL RX11 34 11 8 true (.array .int) := ⟨RX11, TX11, 52, tyX11, rfl, by decide, wX11, tyX11_ok, nmX11, rfl, rfl, Or.inl (x_tb (tb5 157 (by decide +kernel)) rfl)⟩
theorem fl_X11_38 : xFL RX11 38 11 9 true (.array .int) := ⟨RX11, TX11, 52, tyX11, rfl, by decide, wX11, tyX11_ok, nmX11, rfl, rfl, Or.inl (x_tb (tb5 158 (by decide +kernel)) rfl)⟩
theorem fl_X11_41 : xFL RX11 41 11 10 true (.array .int) := ⟨RX11, TX11, 52, tyX11, rfl, by decide, wX11, tyX11_ok, nmX11, rfl, rfl, Or.inl (x_tb (tb5 159 (by decide +kernel)) rfl)⟩
theorem fl_X11_44 : xFL RX11 44 11 11 true (.array .int) := ⟨RX11, TX11, 52, tyX11, rfl, by decide, wX11, tyX11_ok, nmX11, rfl, rfl, Or.inl (x_tb (tb5 160 (by decide +kernel)) rfl)⟩
theorem fl_X11_47 : xFL RX11 47 11 12 true (.array .int) := ⟨RX11, TX11, 52, tyX11, rfl, by decide, wX11, tyX11_ok, nmX11, rfl, rfl, Or.inl (x_tb (tb5 161 (by decide +kernel)) rfl)⟩
theorem fl_X11_50 : xFL RX11 50 11 13 true (.array .int) := ⟨RX11, TX11, 52, tyX11, rfl, by decide, wX11, tyX11_ok, nmX11, rfl, rfl, Or.inl (x_tb (tb5 162 (by decide +kernel)) rfl)⟩
theorem fl_X11_53 : xFL RX11 53 11 14 true (.array .int) := ⟨RX11, TX11, 52, tyX11, rfl, by decide, wX11, tyX11_ok, nmX11, rfl, rfl, Or.inl (x_tb (tb5 163 (by decide +kernel)) rfl)⟩
theorem fl_X11_141 : xFL RX11 141 11 15 false .int := ⟨RX11, TX11, 52, tyX11, rfl, by decide, wX11, tyX11_ok, nmX11, rfl, rfl, Or.inl (x_tb (tb5 164 (by decide +kernel)) rfl)⟩
theorem fl_X11_144 : xFL RX11 144 11 16 false .int := ⟨RX11, TX11, 52, tyX11, rfl, by decide, wX11, tyX11_ok, nmX11, rfl, rfl, Or.inl (x_tb (tb5 165 (by decide +kernel)) rfl)⟩
theorem fl_X11_156 : xFL RX11 156 11 17 false .int := ⟨RX11, TX11, 52, tyX11, rfl, by decide, wX11, tyX11_ok, nmX11, rfl, rfl, Or.inl (x_tb (tb5 166 (by decide +kernel)) rfl)⟩
theorem fl_X11_147 : xFL RX11 147 11 18 false .int := ⟨RX11, TX11, 52, tyX11, rfl, by decide, wX11, tyX11_ok, nmX11, rfl, rfl, Or.inl (x_tb (tb5 167 (by decide +kernel)) rfl)⟩
theorem fl_X11_56 : xFL RX11 56 11 19 true (.array .int) := ⟨RX11, TX11, 52, tyX11, rfl, by decide, wX11, tyX11_ok, nmX11, rfl, rfl, Or.inl (x_tb (tb5 168 (by decide +kernel)) rfl)⟩
theorem fl_X11_181 : xFL RX11 181 11 20 false .int := ⟨RX11, TX11, 52, tyX11, rfl, by decide, wX11, tyX11_ok, nmX11, rfl, rfl, Or.inl (x_tb (tb5 169 (by decide +kernel)) rfl)⟩
theorem fl_X11_59 : xFL RX11 59 11 21 true (.array .int) := ⟨RX11, TX11, 52, tyX11, rfl, by decide, wX11, tyX11_ok, nmX11, rfl, rfl, Or.inl (x_tb (tb5 170 (by decide +kernel)) rfl)⟩
theorem fl_X11_62 : xFL RX11 62 11 22 true (.array .int) := ⟨RX11, TX11, 52, tyX11, rfl, by decide, wX11, tyX11_ok, nmX11, rfl, rfl, Or.inl (x_tb (tb5 171 (by decide +kernel)) rfl)⟩
theorem fl_X11_255 : xFL RX11 255 11 23 false .int := ⟨RX11, TX11, 52, tyX11, rfl, by decide, wX11, tyX11_ok, nmX11, rfl, rfl, Or.inl (x_tb (tb5 172 (by decide +kernel)) rfl)⟩
theorem fl_X11_234 : xFL RX11 234 11 24 false .int := ⟨RX11, TX11, 52, tyX11, rfl, by decide, wX11, tyX11_ok, nmX11, rfl, rfl, Or.inl (x_tb (tb5 173 (by decide +kernel)) rfl)⟩
theorem fl_X11_65 : xFL RX11 65 11 25 true (.array .int) := ⟨RX11, TX11, 52, tyX11, rfl, by decide, wX11, tyX11_ok, nmX11, rfl, rfl, Or.inl (x_tb (tb5 174 (by decide +kernel)) rfl)⟩
theorem fl_X11_68 : xFL RX11 68 11 26 true (.array .int) := ⟨RX11, TX11, 52, tyX11, rfl, by decide, wX11, tyX11_ok, nmX11, rfl, rfl, Or.inl (x_tb (tb5 175 (by decide +kernel)) rfl)⟩
theorem fl_X11_71 : xFL RX11 71 11 27 true (.array .int) := ⟨RX11, TX11, 52, tyX11, rfl, by decide, wX11, tyX11_ok, nmX11, rfl, rfl, Or.inl (x_tb (tb5 176 (by decide +kernel)) rfl)⟩
theorem fl_X11_218 : xFL RX11 218 11 28 false .int := ⟨RX11, TX11, 52, tyX11, rfl, by decide, wX11, tyX11_ok, nmX11, rfl, rfl, Or.inl (x_tb (tb5 177 (by decide +kernel)) rfl)⟩
theorem fl_X11_74 : xFL RX11 74 11 29 true (.array .int) := ⟨RX11, TX11, 52, tyX11, rfl, by decide, wX11, tyX11_ok, nmX11, rfl, rfl, Or.inl (x_tb (tb5 178 (by decide +kernel)) rfl)⟩
theorem fl_X11_340 : xFL RX11 340 11 30 false .int := ⟨RX11, TX11, 52, tyX11, rfl, by decide, wX11, tyX11_ok, nmX11, rfl, rfl, Or.inl (x_tb (tb5 179 (by decide +kernel)) rfl)⟩
theorem fl_X11_343 : xFL RX11 343 11 31 false .int := ⟨RX11, TX11, 52, tyX11, rfl, by decide, wX11, tyX11_ok, nmX11, rfl, rfl, Or.inl (x_tb (tb5 180 (by decide +kernel)) rfl)⟩
theorem fl_X11_77 : xFL RX11 77 11 32 true (.array .int) := ⟨RX11, TX11, 52, tyX11, rfl, by decide, wX11, tyX11_ok, nmX11, rfl, rfl, Or.inl (x_tb (tb5 181 (by decide +kernel)) rfl)⟩
theorem fl_X11_80 : xFL RX11 80 11 33 true (.array .int) := ⟨RX11, TX11, 52, tyX11, rfl, by decide, wX11, tyX11_ok, nmX11, rfl, rfl, Or.inl (x_tb (tb5 182 (by decide +kernel)) rfl)⟩
theorem fl_X11_83 : xFL RX11 83 11 34 true (.array .int) := ⟨RX11, TX11, 52, tyX11, rfl, by decide, wX11, tyX11_ok, nmX11, rfl, rfl, Or.inl (x_tb (tb5 183 (by decide +kernel)) rfl)⟩
theorem fl_X11_86 : xFL RX11 86 11 35 true (.array .int) := ⟨RX11, TX11, 52, tyX11, rfl, by decide, wX11, tyX11_ok, nmX11, rfl, rfl, Or.inl (x_tb (tb5 184 (by decide +kernel)) rfl)⟩
theorem fl_X11_384 : xFL RX11 384 11 36 false .int := ⟨RX11, TX11, 52, tyX11, rfl, by decide, wX11, tyX11_ok, nmX11, rfl, rfl, Or.inl (x_tb (tb5 185 (by decide +kernel)) rfl)⟩
theorem fl_X11_89 : xFL RX11 89 11 37 true (.array .int) := ⟨RX11, TX11, 52, tyX11, rfl, by decide, wX11, tyX11_ok, nmX11, rfl, rfl, Or.inl (x_tb (tb5 186 (by decide +kernel)) rfl)⟩
theorem fl_X11_92 : xFL RX11 92 11 38 true (.array .int) := ⟨RX11, TX11, 52, tyX11, rfl, by decide, wX11, tyX11_ok, nmX11, rfl, rfl, Or.inl (x_tb (tb5 187 (by decide +kernel)) rfl)⟩
theorem fl_X11_95 : xFL RX11 95 11 39 true (.array .int) := ⟨RX11, TX11, 52, tyX11, rfl, by decide, wX11, tyX11_ok, nmX11, rfl, rfl, Or.inl (x_tb (tb5 188 (by decide +kernel)) rfl)⟩
theorem fl_X11_98 : xFL RX11 98 11 40 true (.array .int) := ⟨RX11, TX11, 52, tyX11, rfl, by decide, wX11, tyX11_ok, nmX11, rfl, rfl, Or.inl (x_tb (tb5 189 (by decide +kernel)) rfl)⟩
theorem fl_X11_101 : xFL RX11 101 11 41 true (.array .int) := ⟨RX11, TX11, 52, tyX11, rfl, by decide, wX11, tyX11_ok, nmX11, rfl, rfl, Or.inl (x_tb (tb5 190 (by decide +kernel)) rfl)⟩
theorem fl_X11_425 : xFL RX11 425 11 42 false .int := ⟨RX11, TX11, 52, tyX11, rfl, by decide, wX11, tyX11_ok, nmX11, rfl, rfl, Or.inl (x_tb (tb5 191 (by decide +kernel)) rfl)⟩
theorem fl_X11_104 : xFL RX11 104 11 43 true (.array .int) := ⟨RX11, TX11, 52, tyX11, rfl, by decide, wX11, tyX11_ok, nmX11, rfl, rfl, Or.inl (x_tb (tb5 192 (by decide +kernel)) rfl)⟩
theorem fl_X11_107 : xFL RX11 107 11 44 true (.array .int) := ⟨RX11, TX11, 52, tyX11, rfl, by decide, wX11, tyX11_ok, nmX11, rfl, rfl, Or.inl (x_tb (tb5 193 (by decide +kernel)) rfl)⟩
theorem fl_X11_110 : xFL RX11 110 11 45 true (.array .long) := ⟨RX11, TX11, 52, tyX11, rfl, by decide, wX11, tyX11_ok, nmX11, rfl, rfl, Or.inl (x_tb (tb5 194 (by decide +kernel)) rfl)⟩
theorem fl_X11_113 : xFL RX11 113 11 46 true (.array .boolean) := ⟨RX11, TX11, 52, tyX11, rfl, by decide, wX11, tyX11_ok, nmX11, rfl, rfl, Or.inl (x_tb (tb5 195 (by decide +kernel)) rfl)⟩
theorem fl_X11_117 : xFL RX11 117 11 47 true (.array .int) := ⟨RX11, TX11, 52, tyX11, rfl, by decide, wX11, tyX11_ok, nmX11, rfl, rfl, Or.inl (x_tb (tb5 196 (by decide +kernel)) rfl)⟩
theorem fl_X11_457 : xFL RX11 457 11 48 false .int := ⟨RX11, TX11, 52, tyX11, rfl, by decide, wX11, tyX11_ok, nmX11, rfl, rfl, Or.inl (x_tb (tb5 197 (by decide +kernel)) rfl)⟩
theorem fl_X11_120 : xFL RX11 120 11 49 true (.array .boolean) := ⟨RX11, TX11, 52, tyX11, rfl, by decide, wX11, tyX11_ok, nmX11, rfl, rfl, Or.inl (x_tb (tb5 198 (by decide +kernel)) rfl)⟩
theorem fl_X11_123 : xFL RX11 123 11 50 true (.array .int) := ⟨RX11, TX11, 52, tyX11, rfl, by decide, wX11, tyX11_ok, nmX11, rfl, rfl, Or.inl (x_tb (tb5 199 (by decide +kernel)) rfl)⟩
theorem fl_X11_126 : xFL RX11 126 11 51 true (.array .int) := ⟨RX11, TX11, 52, tyX11, rfl, by decide, wX11, tyX11_ok, nmX11, rfl, rfl, Or.inl (x_tb (tb5 200 (by decide +kernel)) rfl)⟩
theorem my_X0_init : xMY mX0_init 0 := ⟨x_tb (tb1 9 (by decide +kernel)) rfl, x_tb (tb1 188 (by decide +kernel)) rfl, by decide +kernel, by decide⟩
theorem mi_X0_init : Cond.instanceMethod yX0_init ∈ xTB := x_tb (tb1 187 (by decide +kernel)) rfl
theorem my_X0_on : xMY mX0_on 3 := ⟨x_tb (tb1 9 (by decide +kernel)) rfl, x_tb (tb3 120 (by decide +kernel)) rfl, by decide +kernel, by decide⟩
theorem mi_X0_on : Cond.instanceMethod yX0_on ∈ xTB := x_tb (tb3 119 (by decide +kernel)) rfl
theorem me_X0_on : Cond.selects yX0_on.cls yX0_on yX0_on ∈ xTB := x_sel 31 (q := (yX0_on, 2)) (by decide +kernel) rfl
theorem my_X0_minute : xMY mX0_minute 4 := ⟨x_tb (tb1 9 (by decide +kernel)) rfl, x_tb (tb3 130 (by decide +kernel)) rfl, by decide +kernel, by decide⟩
theorem mi_X0_minute : Cond.instanceMethod yX0_minute ∈ xTB := x_tb (tb3 129 (by decide +kernel)) rfl
theorem me_X0_minute : Cond.selects yX0_minute.cls yX0_minute yX0_minute ∈ xTB := x_sel 32 (q := (yX0_minute, 2)) (by decide +kernel) rfl
theorem my_X1_init : xMY mX1_init 0 := ⟨x_tb (tb1 4 (by decide +kernel)) rfl, x_tb (tb1 71 (by decide +kernel)) rfl, by decide +kernel, by decide⟩
theorem mi_X1_init : Cond.instanceMethod yX1_init ∈ xTB := x_tb (tb1 70 (by decide +kernel)) rfl
theorem my_X1_read : xMY mX1_read 1 := ⟨x_tb (tb1 4 (by decide +kernel)) rfl, x_tb (tb2 186 (by decide +kernel)) rfl, by decide +kernel, by decide⟩
theorem mi_X1_read : Cond.instanceMethod yX1_read ∈ xTB := x_tb (tb2 185 (by decide +kernel)) rfl
theorem me_X1_read : Cond.selects yX1_read.cls yX1_read yX1_read ∈ xTB := x_sel 14 (q := (yX1_read, 2)) (by decide +kernel) rfl
theorem my_X1_of : xMY mX1_of 1 := ⟨x_tb (tb1 4 (by decide +kernel)) rfl, x_tb (tb3 116 (by decide +kernel)) rfl, by decide +kernel, by decide⟩
theorem mi_X1_of : Cond.instanceMethod yX1_of ∈ xTB := x_tb (tb3 115 (by decide +kernel)) rfl
theorem me_X1_of : Cond.selects yX1_of.cls yX1_of yX1_of ∈ xTB := x_sel 30 (q := (yX1_of, 2)) (by decide +kernel) rfl
theorem my_X2_init : xMY mX2_init 0 := ⟨x_tb (tb1 13 (by decide +kernel)) rfl, x_tb (tb2 43 (by decide +kernel)) rfl, by decide +kernel, by decide⟩
theorem mi_X2_init : Cond.instanceMethod yX2_init ∈ xTB := x_tb (tb2 42 (by decide +kernel)) rfl
theorem my_X2_isMove : xMY mX2_isMove 2 := ⟨x_tb (tb1 13 (by decide +kernel)) rfl, x_tb (tb4 236 (by decide +kernel)) rfl, by decide +kernel, by decide⟩
theorem ms_X2_isMove : Cond.static yX2_isMove ∈ xTB := x_tb (tb4 235 (by decide +kernel)) rfl
theorem my_X2_loses : xMY mX2_loses 2 := ⟨x_tb (tb1 13 (by decide +kernel)) rfl, x_tb (tb5 0 (by decide +kernel)) rfl, by decide +kernel, by decide⟩
theorem mi_X2_loses : Cond.instanceMethod yX2_loses ∈ xTB := x_tb (tb4 239 (by decide +kernel)) rfl
theorem me_X2_loses : Cond.selects yX2_loses.cls yX2_loses yX2_loses ∈ xTB := x_sel 80 (q := (yX2_loses, 2)) (by decide +kernel) rfl
theorem my_X2_findLosing : xMY mX2_findLosing 0 := ⟨x_tb (tb1 13 (by decide +kernel)) rfl, x_tb (tb5 4 (by decide +kernel)) rfl, by decide +kernel, by decide⟩
theorem mi_X2_findLosing : Cond.instanceMethod yX2_findLosing ∈ xTB := x_tb (tb5 3 (by decide +kernel)) rfl
theorem me_X2_findLosing : Cond.selects yX2_findLosing.cls yX2_findLosing yX2_findLosing ∈ xTB := x_sel 81 (q := (yX2_findLosing, 2)) (by decide +kernel) rfl
theorem my_X3_init : xMY mX3_init 0 := ⟨x_tb (tb1 8 (by decide +kernel)) rfl, x_tb (tb1 168 (by decide +kernel)) rfl, by decide +kernel, by decide⟩
theorem mi_X3_init : Cond.instanceMethod yX3_init ∈ xTB := x_tb (tb1 167 (by decide +kernel)) rfl
theorem my_X3_note : xMY mX3_note 1 := ⟨x_tb (tb1 8 (by decide +kernel)) rfl, x_tb (tb3 95 (by decide +kernel)) rfl, by decide +kernel, by decide⟩
theorem mi_X3_note : Cond.instanceMethod yX3_note ∈ xTB := x_tb (tb3 94 (by decide +kernel)) rfl
theorem me_X3_note : Cond.selects yX3_note.cls yX3_note yX3_note ∈ xTB := x_sel 25 (q := (yX3_note, 3)) (by decide +kernel) rfl
theorem my_X3_takeBack : xMY mX3_takeBack 1 := ⟨x_tb (tb1 8 (by decide +kernel)) rfl, x_tb (tb4 13 (by decide +kernel)) rfl, by decide +kernel, by decide⟩
theorem mi_X3_takeBack : Cond.instanceMethod yX3_takeBack ∈ xTB := x_tb (tb4 12 (by decide +kernel)) rfl
theorem me_X3_takeBack : Cond.selects yX3_takeBack.cls yX3_takeBack yX3_takeBack ∈ xTB := x_sel 52 (q := (yX3_takeBack, 3)) (by decide +kernel) rfl
theorem my_X3_add : xMY mX3_add 0 := ⟨x_tb (tb1 8 (by decide +kernel)) rfl, x_tb (tb3 178 (by decide +kernel)) rfl, by decide +kernel, by decide⟩
theorem mi_X3_add : Cond.instanceMethod yX3_add ∈ xTB := x_tb (tb3 177 (by decide +kernel)) rfl
theorem me_X3_add : Cond.selects yX3_add.cls yX3_add yX3_add ∈ xTB := x_sel 42 (q := (yX3_add, 3)) (by decide +kernel) rfl
theorem my_X3_bringBack : xMY mX3_bringBack 1 := ⟨x_tb (tb1 8 (by decide +kernel)) rfl, x_tb (tb4 9 (by decide +kernel)) rfl, by decide +kernel, by decide⟩
theorem mi_X3_bringBack : Cond.instanceMethod yX3_bringBack ∈ xTB := x_tb (tb4 8 (by decide +kernel)) rfl
theorem me_X3_bringBack : Cond.selects yX3_bringBack.cls yX3_bringBack yX3_bringBack ∈ xTB := x_sel 51 (q := (yX3_bringBack, 3)) (by decide +kernel) rfl
theorem my_X3_drop : xMY mX3_drop 0 := ⟨x_tb (tb1 8 (by decide +kernel)) rfl, x_tb (tb2 151 (by decide +kernel)) rfl, by decide +kernel, by decide⟩
theorem mi_X3_drop : Cond.instanceMethod yX3_drop ∈ xTB := x_tb (tb2 150 (by decide +kernel)) rfl
theorem me_X3_drop : Cond.selects yX3_drop.cls yX3_drop yX3_drop ∈ xTB := x_sel 8 (q := (yX3_drop, 3)) (by decide +kernel) rfl
theorem my_X4_init : xMY mX4_init 0 := ⟨x_tb (tb1 11 (by decide +kernel)) rfl, x_tb (tb1 215 (by decide +kernel)) rfl, by decide +kernel, by decide⟩
theorem mi_X4_init : Cond.instanceMethod yX4_init ∈ xTB := x_tb (tb1 214 (by decide +kernel)) rfl
theorem my_X4_begin : xMY mX4_begin 2 := ⟨x_tb (tb1 11 (by decide +kernel)) rfl, x_tb (tb3 145 (by decide +kernel)) rfl, by decide +kernel, by decide⟩
theorem mi_X4_begin : Cond.instanceMethod yX4_begin ∈ xTB := x_tb (tb3 144 (by decide +kernel)) rfl
theorem me_X4_begin : Cond.selects yX4_begin.cls yX4_begin yX4_begin ∈ xTB := x_sel 34 (q := (yX4_begin, 8)) (by decide +kernel) rfl
theorem my_X4_holdBack : xMY mX4_holdBack 1 := ⟨x_tb (tb1 11 (by decide +kernel)) rfl, x_tb (tb4 126 (by decide +kernel)) rfl, by decide +kernel, by decide⟩
theorem mi_X4_holdBack : Cond.instanceMethod yX4_holdBack ∈ xTB := x_tb (tb4 125 (by decide +kernel)) rfl
theorem me_X4_holdBack : Cond.selects yX4_holdBack.cls yX4_holdBack yX4_holdBack ∈ xTB := x_sel 65 (q := (yX4_holdBack, 8)) (by decide +kernel) rfl
theorem my_X4_at : xMY mX4_at 1 := ⟨x_tb (tb1 11 (by decide +kernel)) rfl, x_tb (tb5 122 (by decide +kernel)) rfl, by decide +kernel, by decide⟩
theorem mi_X4_at : Cond.instanceMethod yX4_at ∈ xTB := x_tb (tb5 121 (by decide +kernel)) rfl
theorem me_X4_at : Cond.selects yX4_at.cls yX4_at yX4_at ∈ xTB := x_sel 85 (q := (yX4_at, 8)) (by decide +kernel) rfl
theorem my_X4_collide : xMY mX4_collide 2 := ⟨x_tb (tb1 11 (by decide +kernel)) rfl, x_tb (tb3 153 (by decide +kernel)) rfl, by decide +kernel, by decide⟩
theorem mi_X4_collide : Cond.instanceMethod yX4_collide ∈ xTB := x_tb (tb3 152 (by decide +kernel)) rfl
theorem me_X4_collide : Cond.selects yX4_collide.cls yX4_collide yX4_collide ∈ xTB := x_sel 36 (q := (yX4_collide, 8)) (by decide +kernel) rfl
theorem my_X4_foes : xMY mX4_foes 1 := ⟨x_tb (tb1 11 (by decide +kernel)) rfl, x_tb (tb4 88 (by decide +kernel)) rfl, by decide +kernel, by decide⟩
theorem mi_X4_foes : Cond.instanceMethod yX4_foes ∈ xTB := x_tb (tb4 87 (by decide +kernel)) rfl
theorem me_X4_foes : Cond.selects yX4_foes.cls yX4_foes yX4_foes ∈ xTB := x_sel 61 (q := (yX4_foes, 8)) (by decide +kernel) rfl
theorem my_X4_pairs : xMY mX4_pairs 0 := ⟨x_tb (tb1 11 (by decide +kernel)) rfl, x_tb (tb3 149 (by decide +kernel)) rfl, by decide +kernel, by decide⟩
theorem mi_X4_pairs : Cond.instanceMethod yX4_pairs ∈ xTB := x_tb (tb3 148 (by decide +kernel)) rfl
theorem me_X4_pairs : Cond.selects yX4_pairs.cls yX4_pairs yX4_pairs ∈ xTB := x_sel 35 (q := (yX4_pairs, 8)) (by decide +kernel) rfl
theorem my_X4_firstMinute : xMY mX4_firstMinute 0 := ⟨x_tb (tb1 11 (by decide +kernel)) rfl, x_tb (tb4 40 (by decide +kernel)) rfl, by decide +kernel, by decide⟩
theorem mi_X4_firstMinute : Cond.instanceMethod yX4_firstMinute ∈ xTB := x_tb (tb4 39 (by decide +kernel)) rfl
theorem me_X4_firstMinute : Cond.selects yX4_firstMinute.cls yX4_firstMinute yX4_firstMinute ∈ xTB := x_sel 55 (q := (yX4_firstMinute, 8)) (by decide +kernel) rfl
theorem my_X4_minuteBehind : xMY mX4_minuteBehind 0 := ⟨x_tb (tb1 11 (by decide +kernel)) rfl, x_tb (tb4 45 (by decide +kernel)) rfl, by decide +kernel, by decide⟩
theorem mi_X4_minuteBehind : Cond.instanceMethod yX4_minuteBehind ∈ xTB := x_tb (tb4 44 (by decide +kernel)) rfl
theorem me_X4_minuteBehind : Cond.selects yX4_minuteBehind.cls yX4_minuteBehind yX4_minuteBehind ∈ xTB := x_sel 56 (q := (yX4_minuteBehind, 8)) (by decide +kernel) rfl
theorem my_X4_howMany : xMY mX4_howMany 2 := ⟨x_tb (tb1 11 (by decide +kernel)) rfl, x_tb (tb4 50 (by decide +kernel)) rfl, by decide +kernel, by decide⟩
theorem mi_X4_howMany : Cond.instanceMethod yX4_howMany ∈ xTB := x_tb (tb4 49 (by decide +kernel)) rfl
theorem me_X4_howMany : Cond.selects yX4_howMany.cls yX4_howMany yX4_howMany ∈ xTB := x_sel 57 (q := (yX4_howMany, 8)) (by decide +kernel) rfl
theorem my_X4_sort : xMY mX4_sort 0 := ⟨x_tb (tb1 11 (by decide +kernel)) rfl, x_tb (tb4 25 (by decide +kernel)) rfl, by decide +kernel, by decide⟩
theorem mi_X4_sort : Cond.instanceMethod yX4_sort ∈ xTB := x_tb (tb4 24 (by decide +kernel)) rfl
theorem me_X4_sort : Cond.selects yX4_sort.cls yX4_sort yX4_sort ∈ xTB := x_sel 54 (q := (yX4_sort, 8)) (by decide +kernel) rfl
theorem my_X4_shareOut : xMY mX4_shareOut 0 := ⟨x_tb (tb1 11 (by decide +kernel)) rfl, x_tb (tb4 134 (by decide +kernel)) rfl, by decide +kernel, by decide⟩
theorem mi_X4_shareOut : Cond.instanceMethod yX4_shareOut ∈ xTB := x_tb (tb4 133 (by decide +kernel)) rfl
theorem me_X4_shareOut : Cond.selects yX4_shareOut.cls yX4_shareOut yX4_shareOut ∈ xTB := x_sel 66 (q := (yX4_shareOut, 8)) (by decide +kernel) rfl
theorem my_X5_init : xMY mX5_init 0 := ⟨x_tb (tb1 12 (by decide +kernel)) rfl, x_tb (tb2 12 (by decide +kernel)) rfl, by decide +kernel, by decide⟩
theorem mi_X5_init : Cond.instanceMethod yX5_init ∈ xTB := x_tb (tb2 11 (by decide +kernel)) rfl
theorem my_X5_add : xMY mX5_add 2 := ⟨x_tb (tb1 12 (by decide +kernel)) rfl, x_tb (tb4 158 (by decide +kernel)) rfl, by decide +kernel, by decide⟩
theorem mi_X5_add : Cond.instanceMethod yX5_add ∈ xTB := x_tb (tb4 157 (by decide +kernel)) rfl
theorem me_X5_add : Cond.selects yX5_add.cls yX5_add yX5_add ∈ xTB := x_sel 69 (q := (yX5_add, 6)) (by decide +kernel) rfl
theorem my_X5_countMinute : xMY mX5_countMinute 1 := ⟨x_tb (tb1 12 (by decide +kernel)) rfl, x_tb (tb4 193 (by decide +kernel)) rfl, by decide +kernel, by decide⟩
theorem mi_X5_countMinute : Cond.instanceMethod yX5_countMinute ∈ xTB := x_tb (tb4 192 (by decide +kernel)) rfl
theorem me_X5_countMinute : Cond.selects yX5_countMinute.cls yX5_countMinute yX5_countMinute ∈ xTB := x_sel 74 (q := (yX5_countMinute, 6)) (by decide +kernel) rfl
theorem my_X6_init : xMY mX6_init 0 := ⟨x_tb (tb1 3 (by decide +kernel)) rfl, x_tb (tb1 55 (by decide +kernel)) rfl, by decide +kernel, by decide⟩
theorem mi_X6_init : Cond.instanceMethod yX6_init ∈ xTB := x_tb (tb1 54 (by decide +kernel)) rfl
theorem my_X6_clear : xMY mX6_clear 0 := ⟨x_tb (tb1 3 (by decide +kernel)) rfl, x_tb (tb3 166 (by decide +kernel)) rfl, by decide +kernel, by decide⟩
theorem mi_X6_clear : Cond.instanceMethod yX6_clear ∈ xTB := x_tb (tb3 165 (by decide +kernel)) rfl
theorem me_X6_clear : Cond.selects yX6_clear.cls yX6_clear yX6_clear ∈ xTB := x_sel 39 (q := (yX6_clear, 2)) (by decide +kernel) rfl
theorem my_X6_add : xMY mX6_add 1 := ⟨x_tb (tb1 3 (by decide +kernel)) rfl, x_tb (tb3 170 (by decide +kernel)) rfl, by decide +kernel, by decide⟩
theorem mi_X6_add : Cond.instanceMethod yX6_add ∈ xTB := x_tb (tb3 169 (by decide +kernel)) rfl
theorem me_X6_add : Cond.selects yX6_add.cls yX6_add yX6_add ∈ xTB := x_sel 40 (q := (yX6_add, 2)) (by decide +kernel) rfl
theorem my_X6_tell : xMY mX6_tell 1 := ⟨x_tb (tb1 3 (by decide +kernel)) rfl, x_tb (tb3 162 (by decide +kernel)) rfl, by decide +kernel, by decide⟩
theorem mi_X6_tell : Cond.instanceMethod yX6_tell ∈ xTB := x_tb (tb3 161 (by decide +kernel)) rfl
theorem me_X6_tell : Cond.selects yX6_tell.cls yX6_tell yX6_tell ∈ xTB := x_sel 38 (q := (yX6_tell, 2)) (by decide +kernel) rfl
theorem my_X6_tell_ : xMY mX6_tell_ 2 := ⟨x_tb (tb1 3 (by decide +kernel)) rfl, x_tb (tb3 158 (by decide +kernel)) rfl, by decide +kernel, by decide⟩
theorem mi_X6_tell_ : Cond.instanceMethod yX6_tell_ ∈ xTB := x_tb (tb3 157 (by decide +kernel)) rfl
theorem me_X6_tell_ : Cond.selects yX6_tell_.cls yX6_tell_ yX6_tell_ ∈ xTB := x_sel 37 (q := (yX6_tell_, 2)) (by decide +kernel) rfl
theorem my_X6_tell__ : xMY mX6_tell__ 3 := ⟨x_tb (tb1 3 (by decide +kernel)) rfl, x_tb (tb4 54 (by decide +kernel)) rfl, by decide +kernel, by decide⟩
theorem mi_X6_tell__ : Cond.instanceMethod yX6_tell__ ∈ xTB := x_tb (tb4 53 (by decide +kernel)) rfl
theorem me_X6_tell__ : Cond.selects yX6_tell__.cls yX6_tell__ yX6_tell__ ∈ xTB := x_sel 58 (q := (yX6_tell__, 2)) (by decide +kernel) rfl
theorem my_X7_init : xMY mX7_init 0 := ⟨x_tb (tb1 5 (by decide +kernel)) rfl, x_tb (tb1 85 (by decide +kernel)) rfl, by decide +kernel, by decide⟩
theorem mi_X7_init : Cond.instanceMethod yX7_init ∈ xTB := x_tb (tb1 84 (by decide +kernel)) rfl
theorem my_X7_takeFirst : xMY mX7_takeFirst 0 := ⟨x_tb (tb1 5 (by decide +kernel)) rfl, x_tb (tb1 90 (by decide +kernel)) rfl, by decide +kernel, by decide⟩
theorem mi_X7_takeFirst : Cond.instanceMethod yX7_takeFirst ∈ xTB := x_tb (tb1 89 (by decide +kernel)) rfl
theorem me_X7_takeFirst : Cond.selects yX7_takeFirst.cls yX7_takeFirst yX7_takeFirst ∈ xTB := x_sel 0 (q := (yX7_takeFirst, 8)) (by decide +kernel) rfl
theorem my_X7_read : xMY mX7_read 1 := ⟨x_tb (tb1 5 (by decide +kernel)) rfl, x_tb (tb2 199 (by decide +kernel)) rfl, by decide +kernel, by decide⟩
theorem mi_X7_read : Cond.instanceMethod yX7_read ∈ xTB := x_tb (tb2 198 (by decide +kernel)) rfl
theorem me_X7_read : Cond.selects yX7_read.cls yX7_read yX7_read ∈ xTB := x_sel 15 (q := (yX7_read, 8)) (by decide +kernel) rfl
theorem my_X7_accepts : xMY mX7_accepts 1 := ⟨x_tb (tb1 5 (by decide +kernel)) rfl, x_tb (tb2 204 (by decide +kernel)) rfl, by decide +kernel, by decide⟩
theorem mi_X7_accepts : Cond.instanceMethod yX7_accepts ∈ xTB := x_tb (tb2 203 (by decide +kernel)) rfl
theorem me_X7_accepts : Cond.selects yX7_accepts.cls yX7_accepts yX7_accepts ∈ xTB := x_sel 16 (q := (yX7_accepts, 8)) (by decide +kernel) rfl
theorem my_X7_beginsThing : xMY mX7_beginsThing 1 := ⟨x_tb (tb1 5 (by decide +kernel)) rfl, x_tb (tb2 208 (by decide +kernel)) rfl, by decide +kernel, by decide⟩
theorem mi_X7_beginsThing : Cond.instanceMethod yX7_beginsThing ∈ xTB := x_tb (tb2 207 (by decide +kernel)) rfl
theorem me_X7_beginsThing : Cond.selects yX7_beginsThing.cls yX7_beginsThing yX7_beginsThing ∈ xTB := x_sel 17 (q := (yX7_beginsThing, 8)) (by decide +kernel) rfl
theorem my_X7_goesOnNumber : xMY mX7_goesOnNumber 1 := ⟨x_tb (tb1 5 (by decide +kernel)) rfl, x_tb (tb3 56 (by decide +kernel)) rfl, by decide +kernel, by decide⟩
theorem mi_X7_goesOnNumber : Cond.instanceMethod yX7_goesOnNumber ∈ xTB := x_tb (tb3 55 (by decide +kernel)) rfl
theorem me_X7_goesOnNumber : Cond.selects yX7_goesOnNumber.cls yX7_goesOnNumber yX7_goesOnNumber ∈ xTB := x_sel 20 (q := (yX7_goesOnNumber, 8)) (by decide +kernel) rfl
theorem my_X7_closes : xMY mX7_closes 0 := ⟨x_tb (tb1 5 (by decide +kernel)) rfl, x_tb (tb3 60 (by decide +kernel)) rfl, by decide +kernel, by decide⟩
theorem mi_X7_closes : Cond.instanceMethod yX7_closes ∈ xTB := x_tb (tb3 59 (by decide +kernel)) rfl
theorem me_X7_closes : Cond.selects yX7_closes.cls yX7_closes yX7_closes ∈ xTB := x_sel 21 (q := (yX7_closes, 8)) (by decide +kernel) rfl
theorem my_X7_joins : xMY mX7_joins 1 := ⟨x_tb (tb1 5 (by decide +kernel)) rfl, x_tb (tb3 75 (by decide +kernel)) rfl, by decide +kernel, by decide⟩
theorem mi_X7_joins : Cond.instanceMethod yX7_joins ∈ xTB := x_tb (tb3 74 (by decide +kernel)) rfl
theorem me_X7_joins : Cond.selects yX7_joins.cls yX7_joins yX7_joins ∈ xTB := x_sel 24 (q := (yX7_joins, 8)) (by decide +kernel) rfl
theorem my_X7_binding : xMY mX7_binding 1 := ⟨x_tb (tb1 5 (by decide +kernel)) rfl, x_tb (tb3 71 (by decide +kernel)) rfl, by decide +kernel, by decide⟩
theorem ms_X7_binding : Cond.static yX7_binding ∈ xTB := x_tb (tb3 70 (by decide +kernel)) rfl
theorem my_X7_lastWaiting : xMY mX7_lastWaiting 0 := ⟨x_tb (tb1 5 (by decide +kernel)) rfl, x_tb (tb3 68 (by decide +kernel)) rfl, by decide +kernel, by decide⟩
theorem mi_X7_lastWaiting : Cond.instanceMethod yX7_lastWaiting ∈ xTB := x_tb (tb3 67 (by decide +kernel)) rfl
theorem me_X7_lastWaiting : Cond.selects yX7_lastWaiting.cls yX7_lastWaiting yX7_lastWaiting ∈ xTB := x_sel 23 (q := (yX7_lastWaiting, 8)) (by decide +kernel) rfl
theorem my_X7_await : xMY mX7_await 1 := ⟨x_tb (tb1 5 (by decide +kernel)) rfl, x_tb (tb2 212 (by decide +kernel)) rfl, by decide +kernel, by decide⟩
theorem mi_X7_await : Cond.instanceMethod yX7_await ∈ xTB := x_tb (tb2 211 (by decide +kernel)) rfl
theorem me_X7_await : Cond.selects yX7_await.cls yX7_await yX7_await ∈ xTB := x_sel 18 (q := (yX7_await, 8)) (by decide +kernel) rfl
theorem my_X7_step : xMY mX7_step 1 := ⟨x_tb (tb1 5 (by decide +kernel)) rfl, x_tb (tb3 52 (by decide +kernel)) rfl, by decide +kernel, by decide⟩
theorem mi_X7_step : Cond.instanceMethod yX7_step ∈ xTB := x_tb (tb3 51 (by decide +kernel)) rfl
theorem me_X7_step : Cond.selects yX7_step.cls yX7_step yX7_step ∈ xTB := x_sel 19 (q := (yX7_step, 8)) (by decide +kernel) rfl
theorem my_X7_settle : xMY mX7_settle 1 := ⟨x_tb (tb1 5 (by decide +kernel)) rfl, x_tb (tb3 64 (by decide +kernel)) rfl, by decide +kernel, by decide⟩
theorem mi_X7_settle : Cond.instanceMethod yX7_settle ∈ xTB := x_tb (tb3 63 (by decide +kernel)) rfl
theorem me_X7_settle : Cond.selects yX7_settle.cls yX7_settle yX7_settle ∈ xTB := x_sel 22 (q := (yX7_settle, 8)) (by decide +kernel) rfl
theorem my_X7_delay : xMY mX7_delay 1 := ⟨x_tb (tb1 5 (by decide +kernel)) rfl, x_tb (tb3 134 (by decide +kernel)) rfl, by decide +kernel, by decide⟩
theorem mi_X7_delay : Cond.instanceMethod yX7_delay ∈ xTB := x_tb (tb3 133 (by decide +kernel)) rfl
theorem me_X7_delay : Cond.selects yX7_delay.cls yX7_delay yX7_delay ∈ xTB := x_sel 33 (q := (yX7_delay, 8)) (by decide +kernel) rfl
theorem my_X7_valueOf : xMY mX7_valueOf 2 := ⟨x_tb (tb1 5 (by decide +kernel)) rfl, x_tb (tb3 137 (by decide +kernel)) rfl, by decide +kernel, by decide⟩
theorem ms_X7_valueOf : Cond.static yX7_valueOf ∈ xTB := x_tb (tb3 136 (by decide +kernel)) rfl
theorem my_X7_reckon : xMY mX7_reckon 3 := ⟨x_tb (tb1 5 (by decide +kernel)) rfl, x_tb (tb3 140 (by decide +kernel)) rfl, by decide +kernel, by decide⟩
theorem ms_X7_reckon : Cond.static yX7_reckon ∈ xTB := x_tb (tb3 139 (by decide +kernel)) rfl
theorem my_X8_init : xMY mX8_init 0 := ⟨x_tb (tb1 2 (by decide +kernel)) rfl, x_tb (tb1 38 (by decide +kernel)) rfl, by decide +kernel, by decide⟩
theorem mi_X8_init : Cond.instanceMethod yX8_init ∈ xTB := x_tb (tb1 37 (by decide +kernel)) rfl
theorem my_X8_add : xMY mX8_add 1 := ⟨x_tb (tb1 2 (by decide +kernel)) rfl, x_tb (tb2 114 (by decide +kernel)) rfl, by decide +kernel, by decide⟩
theorem mi_X8_add : Cond.instanceMethod yX8_add ∈ xTB := x_tb (tb2 113 (by decide +kernel)) rfl
theorem me_X8_add : Cond.selects yX8_add.cls yX8_add yX8_add ∈ xTB := x_sel 1 (q := (yX8_add, 2)) (by decide +kernel) rfl
theorem my_X8_cut : xMY mX8_cut 1 := ⟨x_tb (tb1 2 (by decide +kernel)) rfl, x_tb (tb2 122 (by decide +kernel)) rfl, by decide +kernel, by decide⟩
theorem mi_X8_cut : Cond.instanceMethod yX8_cut ∈ xTB := x_tb (tb2 121 (by decide +kernel)) rfl
theorem me_X8_cut : Cond.selects yX8_cut.cls yX8_cut yX8_cut ∈ xTB := x_sel 2 (q := (yX8_cut, 2)) (by decide +kernel) rfl
theorem my_X8_clear : xMY mX8_clear 0 := ⟨x_tb (tb1 2 (by decide +kernel)) rfl, x_tb (tb2 155 (by decide +kernel)) rfl, by decide +kernel, by decide⟩
theorem mi_X8_clear : Cond.instanceMethod yX8_clear ∈ xTB := x_tb (tb2 154 (by decide +kernel)) rfl
theorem me_X8_clear : Cond.selects yX8_clear.cls yX8_clear yX8_clear ∈ xTB := x_sel 9 (q := (yX8_clear, 2)) (by decide +kernel) rfl
theorem my_X8_at : xMY mX8_at 1 := ⟨x_tb (tb1 2 (by decide +kernel)) rfl, x_tb (tb2 142 (by decide +kernel)) rfl, by decide +kernel, by decide⟩
theorem mi_X8_at : Cond.instanceMethod yX8_at ∈ xTB := x_tb (tb2 141 (by decide +kernel)) rfl
theorem me_X8_at : Cond.selects yX8_at.cls yX8_at yX8_at ∈ xTB := x_sel 6 (q := (yX8_at, 2)) (by decide +kernel) rfl
theorem my_X8_digit : xMY mX8_digit 1 := ⟨x_tb (tb1 2 (by decide +kernel)) rfl, x_tb (tb2 138 (by decide +kernel)) rfl, by decide +kernel, by decide⟩
theorem mi_X8_digit : Cond.instanceMethod yX8_digit ∈ xTB := x_tb (tb2 137 (by decide +kernel)) rfl
theorem me_X8_digit : Cond.selects yX8_digit.cls yX8_digit yX8_digit ∈ xTB := x_sel 5 (q := (yX8_digit, 2)) (by decide +kernel) rfl
theorem my_X9_init : xMY mX9_init 0 := ⟨x_tb (tb1 7 (by decide +kernel)) rfl, x_tb (tb1 125 (by decide +kernel)) rfl, by decide +kernel, by decide⟩
theorem mi_X9_init : Cond.instanceMethod yX9_init ∈ xTB := x_tb (tb1 124 (by decide +kernel)) rfl
theorem my_X9_copy : xMY mX9_copy 1 := ⟨x_tb (tb1 7 (by decide +kernel)) rfl, x_tb (tb3 99 (by decide +kernel)) rfl, by decide +kernel, by decide⟩
theorem mi_X9_copy : Cond.instanceMethod yX9_copy ∈ xTB := x_tb (tb3 98 (by decide +kernel)) rfl
theorem me_X9_copy : Cond.selects yX9_copy.cls yX9_copy yX9_copy ∈ xTB := x_sel 26 (q := (yX9_copy, 9)) (by decide +kernel) rfl
theorem my_X10_init : xMY mX10_init 0 := ⟨x_tb (tb1 1 (by decide +kernel)) rfl, x_tb (tb1 30 (by decide +kernel)) rfl, by decide +kernel, by decide⟩
theorem mi_X10_init : Cond.instanceMethod yX10_init ∈ xTB := x_tb (tb1 29 (by decide +kernel)) rfl
theorem my_X10_sign : xMY mX10_sign 1 := ⟨x_tb (tb1 1 (by decide +kernel)) rfl, x_tb (tb2 110 (by decide +kernel)) rfl, by decide +kernel, by decide⟩
theorem mi_X10_sign : Cond.instanceMethod yX10_sign ∈ xTB := x_tb (tb2 108 (by decide +kernel)) rfl
theorem me_X10_sign : Cond.selects yX10_sign.cls yX10_sign yX10_sign ∈ xTB := x_tb (tb2 109 (by decide +kernel)) rfl
theorem my_X10_end : xMY mX10_end 1 := ⟨x_tb (tb1 1 (by decide +kernel)) rfl, x_tb (tb2 118 (by decide +kernel)) rfl, by decide +kernel, by decide⟩
theorem mi_X10_end : Cond.instanceMethod yX10_end ∈ xTB := x_tb (tb2 116 (by decide +kernel)) rfl
theorem me_X10_end : Cond.selects yX10_end.cls yX10_end yX10_end ∈ xTB := x_tb (tb2 117 (by decide +kernel)) rfl
theorem my_X10_houses : xMY mX10_houses 0 := ⟨x_tb (tb1 1 (by decide +kernel)) rfl, x_tb (tb2 126 (by decide +kernel)) rfl, by decide +kernel, by decide⟩
theorem mi_X10_houses : Cond.instanceMethod yX10_houses ∈ xTB := x_tb (tb2 124 (by decide +kernel)) rfl
theorem me_X10_houses : Cond.selects yX10_houses.cls yX10_houses yX10_houses ∈ xTB := x_tb (tb2 125 (by decide +kernel)) rfl
theorem my_X10_deeds : xMY mX10_deeds 0 := ⟨x_tb (tb1 1 (by decide +kernel)) rfl, x_tb (tb2 159 (by decide +kernel)) rfl, by decide +kernel, by decide⟩
theorem mi_X10_deeds : Cond.instanceMethod yX10_deeds ∈ xTB := x_tb (tb2 157 (by decide +kernel)) rfl
theorem me_X10_deeds : Cond.selects yX10_deeds.cls yX10_deeds yX10_deeds ∈ xTB := x_tb (tb2 158 (by decide +kernel)) rfl
theorem my_X10_winds : xMY mX10_winds 0 := ⟨x_tb (tb1 1 (by decide +kernel)) rfl, x_tb (tb2 178 (by decide +kernel)) rfl, by decide +kernel, by decide⟩
theorem mi_X10_winds : Cond.instanceMethod yX10_winds ∈ xTB := x_tb (tb2 176 (by decide +kernel)) rfl
theorem me_X10_winds : Cond.selects yX10_winds.cls yX10_winds yX10_winds ∈ xTB := x_tb (tb2 177 (by decide +kernel)) rfl
theorem my_X10_damps : xMY mX10_damps 0 := ⟨x_tb (tb1 1 (by decide +kernel)) rfl, x_tb (tb2 191 (by decide +kernel)) rfl, by decide +kernel, by decide⟩
theorem mi_X10_damps : Cond.instanceMethod yX10_damps ∈ xTB := x_tb (tb2 189 (by decide +kernel)) rfl
theorem me_X10_damps : Cond.selects yX10_damps.cls yX10_damps yX10_damps ∈ xTB := x_tb (tb2 190 (by decide +kernel)) rfl
theorem my_X10_rule : xMY mX10_rule 0 := ⟨x_tb (tb1 1 (by decide +kernel)) rfl, x_tb (tb2 195 (by decide +kernel)) rfl, by decide +kernel, by decide⟩
theorem mi_X10_rule : Cond.instanceMethod yX10_rule ∈ xTB := x_tb (tb2 193 (by decide +kernel)) rfl
theorem me_X10_rule : Cond.selects yX10_rule.cls yX10_rule yX10_rule ∈ xTB := x_tb (tb2 194 (by decide +kernel)) rfl
theorem my_X10_house : xMY mX10_house 2 := ⟨x_tb (tb1 1 (by decide +kernel)) rfl, x_tb (tb5 49 (by decide +kernel)) rfl, by decide +kernel, by decide⟩
theorem mi_X10_house : Cond.instanceMethod yX10_house ∈ xTB := x_tb (tb5 47 (by decide +kernel)) rfl
theorem me_X10_house : Cond.selects yX10_house.cls yX10_house yX10_house ∈ xTB := x_tb (tb5 48 (by decide +kernel)) rfl
theorem my_X10_deed : xMY mX10_deed 2 := ⟨x_tb (tb1 1 (by decide +kernel)) rfl, x_tb (tb5 129 (by decide +kernel)) rfl, by decide +kernel, by decide⟩
theorem mi_X10_deed : Cond.instanceMethod yX10_deed ∈ xTB := x_tb (tb5 127 (by decide +kernel)) rfl
theorem me_X10_deed : Cond.selects yX10_deed.cls yX10_deed yX10_deed ∈ xTB := x_tb (tb5 128 (by decide +kernel)) rfl
theorem my_X10_sheet : xMY mX10_sheet 4 := ⟨x_tb (tb1 1 (by decide +kernel)) rfl, x_tb (tb3 80 (by decide +kernel)) rfl, by decide +kernel, by decide⟩
theorem mi_X10_sheet : Cond.instanceMethod yX10_sheet ∈ xTB := x_tb (tb3 78 (by decide +kernel)) rfl
theorem me_X10_sheet : Cond.selects yX10_sheet.cls yX10_sheet yX10_sheet ∈ xTB := x_tb (tb3 79 (by decide +kernel)) rfl
theorem my_X10_days : xMY mX10_days 1 := ⟨x_tb (tb1 1 (by decide +kernel)) rfl, x_tb (tb3 91 (by decide +kernel)) rfl, by decide +kernel, by decide⟩
theorem mi_X10_days : Cond.instanceMethod yX10_days ∈ xTB := x_tb (tb3 89 (by decide +kernel)) rfl
theorem me_X10_days : Cond.selects yX10_days.cls yX10_days yX10_days ∈ xTB := x_tb (tb3 90 (by decide +kernel)) rfl
theorem my_X10_buys : xMY mX10_buys 1 := ⟨x_tb (tb1 1 (by decide +kernel)) rfl, x_tb (tb3 183 (by decide +kernel)) rfl, by decide +kernel, by decide⟩
theorem mi_X10_buys : Cond.instanceMethod yX10_buys ∈ xTB := x_tb (tb3 181 (by decide +kernel)) rfl
theorem me_X10_buys : Cond.selects yX10_buys.cls yX10_buys yX10_buys ∈ xTB := x_tb (tb3 182 (by decide +kernel)) rfl
theorem my_X10_hauls : xMY mX10_hauls 2 := ⟨x_tb (tb1 1 (by decide +kernel)) rfl, x_tb (tb3 191 (by decide +kernel)) rfl, by decide +kernel, by decide⟩
theorem mi_X10_hauls : Cond.instanceMethod yX10_hauls ∈ xTB := x_tb (tb3 189 (by decide +kernel)) rfl
theorem me_X10_hauls : Cond.selects yX10_hauls.cls yX10_hauls yX10_hauls ∈ xTB := x_tb (tb3 190 (by decide +kernel)) rfl
theorem my_X10_moves : xMY mX10_moves 3 := ⟨x_tb (tb1 1 (by decide +kernel)) rfl, x_tb (tb3 202 (by decide +kernel)) rfl, by decide +kernel, by decide⟩
theorem mi_X10_moves : Cond.instanceMethod yX10_moves ∈ xTB := x_tb (tb3 200 (by decide +kernel)) rfl
theorem me_X10_moves : Cond.selects yX10_moves.cls yX10_moves yX10_moves ∈ xTB := x_tb (tb3 201 (by decide +kernel)) rfl
theorem my_X10_takes : xMY mX10_takes 2 := ⟨x_tb (tb1 1 (by decide +kernel)) rfl, x_tb (tb3 210 (by decide +kernel)) rfl, by decide +kernel, by decide⟩
theorem mi_X10_takes : Cond.instanceMethod yX10_takes ∈ xTB := x_tb (tb3 208 (by decide +kernel)) rfl
theorem me_X10_takes : Cond.selects yX10_takes.cls yX10_takes yX10_takes ∈ xTB := x_tb (tb3 209 (by decide +kernel)) rfl
theorem my_X10_hill : xMY mX10_hill 2 := ⟨x_tb (tb1 1 (by decide +kernel)) rfl, x_tb (tb3 222 (by decide +kernel)) rfl, by decide +kernel, by decide⟩
theorem mi_X10_hill : Cond.instanceMethod yX10_hill ∈ xTB := x_tb (tb3 220 (by decide +kernel)) rfl
theorem me_X10_hill : Cond.selects yX10_hill.cls yX10_hill yX10_hill ∈ xTB := x_tb (tb3 221 (by decide +kernel)) rfl
theorem my_X10_week : xMY mX10_week 0 := ⟨x_tb (tb1 1 (by decide +kernel)) rfl, x_tb (tb3 230 (by decide +kernel)) rfl, by decide +kernel, by decide⟩
theorem mi_X10_week : Cond.instanceMethod yX10_week ∈ xTB := x_tb (tb3 228 (by decide +kernel)) rfl
theorem me_X10_week : Cond.selects yX10_week.cls yX10_week yX10_week ∈ xTB := x_tb (tb3 229 (by decide +kernel)) rfl
theorem my_X10_undo : xMY mX10_undo 0 := ⟨x_tb (tb1 1 (by decide +kernel)) rfl, x_tb (tb4 5 (by decide +kernel)) rfl, by decide +kernel, by decide⟩
theorem mi_X10_undo : Cond.instanceMethod yX10_undo ∈ xTB := x_tb (tb4 3 (by decide +kernel)) rfl
theorem me_X10_undo : Cond.selects yX10_undo.cls yX10_undo yX10_undo ∈ xTB := x_tb (tb4 4 (by decide +kernel)) rfl
theorem my_X10_order : xMY mX10_order 0 := ⟨x_tb (tb1 1 (by decide +kernel)) rfl, x_tb (tb4 17 (by decide +kernel)) rfl, by decide +kernel, by decide⟩
theorem mi_X10_order : Cond.instanceMethod yX10_order ∈ xTB := x_tb (tb4 15 (by decide +kernel)) rfl
theorem me_X10_order : Cond.selects yX10_order.cls yX10_order yX10_order ∈ xTB := x_tb (tb4 16 (by decide +kernel)) rfl
theorem my_X10_clashes : xMY mX10_clashes 0 := ⟨x_tb (tb1 1 (by decide +kernel)) rfl, x_tb (tb4 31 (by decide +kernel)) rfl, by decide +kernel, by decide⟩
theorem mi_X10_clashes : Cond.instanceMethod yX10_clashes ∈ xTB := x_tb (tb4 29 (by decide +kernel)) rfl
theorem me_X10_clashes : Cond.selects yX10_clashes.cls yX10_clashes yX10_clashes ∈ xTB := x_tb (tb4 30 (by decide +kernel)) rfl
theorem my_X10_span : xMY mX10_span 0 := ⟨x_tb (tb1 1 (by decide +kernel)) rfl, x_tb (tb4 36 (by decide +kernel)) rfl, by decide +kernel, by decide⟩
theorem mi_X10_span : Cond.instanceMethod yX10_span ∈ xTB := x_tb (tb4 34 (by decide +kernel)) rfl
theorem me_X10_span : Cond.selects yX10_span.cls yX10_span yX10_span ∈ xTB := x_tb (tb4 35 (by decide +kernel)) rfl
theorem my_X10_lane : xMY mX10_lane 1 := ⟨x_tb (tb1 1 (by decide +kernel)) rfl, x_tb (tb4 59 (by decide +kernel)) rfl, by decide +kernel, by decide⟩
theorem mi_X10_lane : Cond.instanceMethod yX10_lane ∈ xTB := x_tb (tb4 57 (by decide +kernel)) rfl
theorem me_X10_lane : Cond.selects yX10_lane.cls yX10_lane yX10_lane ∈ xTB := x_tb (tb4 58 (by decide +kernel)) rfl
theorem my_X10_ahead : xMY mX10_ahead 1 := ⟨x_tb (tb1 1 (by decide +kernel)) rfl, x_tb (tb4 63 (by decide +kernel)) rfl, by decide +kernel, by decide⟩
theorem mi_X10_ahead : Cond.instanceMethod yX10_ahead ∈ xTB := x_tb (tb4 61 (by decide +kernel)) rfl
theorem me_X10_ahead : Cond.selects yX10_ahead.cls yX10_ahead yX10_ahead ∈ xTB := x_tb (tb4 62 (by decide +kernel)) rfl
theorem my_X10_quiet : xMY mX10_quiet 0 := ⟨x_tb (tb1 1 (by decide +kernel)) rfl, x_tb (tb4 71 (by decide +kernel)) rfl, by decide +kernel, by decide⟩
theorem mi_X10_quiet : Cond.instanceMethod yX10_quiet ∈ xTB := x_tb (tb4 69 (by decide +kernel)) rfl
theorem me_X10_quiet : Cond.selects yX10_quiet.cls yX10_quiet yX10_quiet ∈ xTB := x_tb (tb4 70 (by decide +kernel)) rfl
theorem my_X10_lasts : xMY mX10_lasts 0 := ⟨x_tb (tb1 1 (by decide +kernel)) rfl, x_tb (tb4 76 (by decide +kernel)) rfl, by decide +kernel, by decide⟩
theorem mi_X10_lasts : Cond.instanceMethod yX10_lasts ∈ xTB := x_tb (tb4 74 (by decide +kernel)) rfl
theorem me_X10_lasts : Cond.selects yX10_lasts.cls yX10_lasts yX10_lasts ∈ xTB := x_tb (tb4 75 (by decide +kernel)) rfl
theorem my_X10_fewest : xMY mX10_fewest 0 := ⟨x_tb (tb1 1 (by decide +kernel)) rfl, x_tb (tb4 80 (by decide +kernel)) rfl, by decide +kernel, by decide⟩
theorem mi_X10_fewest : Cond.instanceMethod yX10_fewest ∈ xTB := x_tb (tb4 78 (by decide +kernel)) rfl
theorem me_X10_fewest : Cond.selects yX10_fewest.cls yX10_fewest yX10_fewest ∈ xTB := x_tb (tb4 79 (by decide +kernel)) rfl
theorem my_X10_longest : xMY mX10_longest 0 := ⟨x_tb (tb1 1 (by decide +kernel)) rfl, x_tb (tb4 102 (by decide +kernel)) rfl, by decide +kernel, by decide⟩
theorem mi_X10_longest : Cond.instanceMethod yX10_longest ∈ xTB := x_tb (tb4 100 (by decide +kernel)) rfl
theorem me_X10_longest : Cond.selects yX10_longest.cls yX10_longest yX10_longest ∈ xTB := x_tb (tb4 101 (by decide +kernel)) rfl
theorem my_X10_best : xMY mX10_best 0 := ⟨x_tb (tb1 1 (by decide +kernel)) rfl, x_tb (tb4 110 (by decide +kernel)) rfl, by decide +kernel, by decide⟩
theorem mi_X10_best : Cond.instanceMethod yX10_best ∈ xTB := x_tb (tb4 108 (by decide +kernel)) rfl
theorem me_X10_best : Cond.selects yX10_best.cls yX10_best yX10_best ∈ xTB := x_tb (tb4 109 (by decide +kernel)) rfl
theorem my_X10_middle : xMY mX10_middle 0 := ⟨x_tb (tb1 1 (by decide +kernel)) rfl, x_tb (tb4 114 (by decide +kernel)) rfl, by decide +kernel, by decide⟩
theorem mi_X10_middle : Cond.instanceMethod yX10_middle ∈ xTB := x_tb (tb4 112 (by decide +kernel)) rfl
theorem me_X10_middle : Cond.selects yX10_middle.cls yX10_middle yX10_middle ∈ xTB := x_tb (tb4 113 (by decide +kernel)) rfl
theorem my_X10_holds : xMY mX10_holds 1 := ⟨x_tb (tb1 1 (by decide +kernel)) rfl, x_tb (tb4 122 (by decide +kernel)) rfl, by decide +kernel, by decide⟩
theorem mi_X10_holds : Cond.instanceMethod yX10_holds ∈ xTB := x_tb (tb4 120 (by decide +kernel)) rfl
theorem me_X10_holds : Cond.selects yX10_holds.cls yX10_holds yX10_holds ∈ xTB := x_tb (tb4 121 (by decide +kernel)) rfl
theorem my_X10_hands : xMY mX10_hands 0 := ⟨x_tb (tb1 1 (by decide +kernel)) rfl, x_tb (tb4 130 (by decide +kernel)) rfl, by decide +kernel, by decide⟩
theorem mi_X10_hands : Cond.instanceMethod yX10_hands ∈ xTB := x_tb (tb4 128 (by decide +kernel)) rfl
theorem me_X10_hands : Cond.selects yX10_hands.cls yX10_hands yX10_hands ∈ xTB := x_tb (tb4 129 (by decide +kernel)) rfl
theorem my_X10_echo : xMY mX10_echo 1 := ⟨x_tb (tb1 1 (by decide +kernel)) rfl, x_tb (tb4 138 (by decide +kernel)) rfl, by decide +kernel, by decide⟩
theorem mi_X10_echo : Cond.instanceMethod yX10_echo ∈ xTB := x_tb (tb4 136 (by decide +kernel)) rfl
theorem me_X10_echo : Cond.selects yX10_echo.cls yX10_echo yX10_echo ∈ xTB := x_tb (tb4 137 (by decide +kernel)) rfl
theorem my_X10_together : xMY mX10_together 0 := ⟨x_tb (tb1 1 (by decide +kernel)) rfl, x_tb (tb4 146 (by decide +kernel)) rfl, by decide +kernel, by decide⟩
theorem mi_X10_together : Cond.instanceMethod yX10_together ∈ xTB := x_tb (tb4 144 (by decide +kernel)) rfl
theorem me_X10_together : Cond.selects yX10_together.cls yX10_together yX10_together ∈ xTB := x_tb (tb4 145 (by decide +kernel)) rfl
theorem my_X10_heard : xMY mX10_heard 2 := ⟨x_tb (tb1 1 (by decide +kernel)) rfl, x_tb (tb4 154 (by decide +kernel)) rfl, by decide +kernel, by decide⟩
theorem mi_X10_heard : Cond.instanceMethod yX10_heard ∈ xTB := x_tb (tb4 152 (by decide +kernel)) rfl
theorem me_X10_heard : Cond.selects yX10_heard.cls yX10_heard yX10_heard ∈ xTB := x_tb (tb4 153 (by decide +kernel)) rfl
theorem my_X10_forget : xMY mX10_forget 0 := ⟨x_tb (tb1 1 (by decide +kernel)) rfl, x_tb (tb4 162 (by decide +kernel)) rfl, by decide +kernel, by decide⟩
theorem mi_X10_forget : Cond.instanceMethod yX10_forget ∈ xTB := x_tb (tb4 160 (by decide +kernel)) rfl
theorem me_X10_forget : Cond.selects yX10_forget.cls yX10_forget yX10_forget ∈ xTB := x_tb (tb4 161 (by decide +kernel)) rfl
theorem my_X10_fits : xMY mX10_fits 0 := ⟨x_tb (tb1 1 (by decide +kernel)) rfl, x_tb (tb4 166 (by decide +kernel)) rfl, by decide +kernel, by decide⟩
theorem mi_X10_fits : Cond.instanceMethod yX10_fits ∈ xTB := x_tb (tb4 164 (by decide +kernel)) rfl
theorem me_X10_fits : Cond.selects yX10_fits.cls yX10_fits yX10_fits ∈ xTB := x_tb (tb4 165 (by decide +kernel)) rfl
theorem my_X10_asks : xMY mX10_asks 0 := ⟨x_tb (tb1 1 (by decide +kernel)) rfl, x_tb (tb4 182 (by decide +kernel)) rfl, by decide +kernel, by decide⟩
theorem mi_X10_asks : Cond.instanceMethod yX10_asks ∈ xTB := x_tb (tb4 180 (by decide +kernel)) rfl
theorem me_X10_asks : Cond.selects yX10_asks.cls yX10_asks yX10_asks ∈ xTB := x_tb (tb4 181 (by decide +kernel)) rfl
theorem my_X10_menders : xMY mX10_menders 1 := ⟨x_tb (tb1 1 (by decide +kernel)) rfl, x_tb (tb4 197 (by decide +kernel)) rfl, by decide +kernel, by decide⟩
theorem mi_X10_menders : Cond.instanceMethod yX10_menders ∈ xTB := x_tb (tb4 195 (by decide +kernel)) rfl
theorem me_X10_menders : Cond.selects yX10_menders.cls yX10_menders yX10_menders ∈ xTB := x_tb (tb4 196 (by decide +kernel)) rfl
theorem my_X10_apart : xMY mX10_apart 0 := ⟨x_tb (tb1 1 (by decide +kernel)) rfl, x_tb (tb4 209 (by decide +kernel)) rfl, by decide +kernel, by decide⟩
theorem mi_X10_apart : Cond.instanceMethod yX10_apart ∈ xTB := x_tb (tb4 207 (by decide +kernel)) rfl
theorem me_X10_apart : Cond.selects yX10_apart.cls yX10_apart yX10_apart ∈ xTB := x_tb (tb4 208 (by decide +kernel)) rfl
theorem my_X10_misfires : xMY mX10_misfires 3 := ⟨x_tb (tb1 1 (by decide +kernel)) rfl, x_tb (tb4 213 (by decide +kernel)) rfl, by decide +kernel, by decide⟩
theorem mi_X10_misfires : Cond.instanceMethod yX10_misfires ∈ xTB := x_tb (tb4 211 (by decide +kernel)) rfl
theorem me_X10_misfires : Cond.selects yX10_misfires.cls yX10_misfires yX10_misfires ∈ xTB := x_tb (tb4 212 (by decide +kernel)) rfl
theorem my_X10_forts : xMY mX10_forts 2 := ⟨x_tb (tb1 1 (by decide +kernel)) rfl, x_tb (tb4 233 (by decide +kernel)) rfl, by decide +kernel, by decide⟩
theorem mi_X10_forts : Cond.instanceMethod yX10_forts ∈ xTB := x_tb (tb4 231 (by decide +kernel)) rfl
theorem me_X10_forts : Cond.selects yX10_forts.cls yX10_forts yX10_forts ∈ xTB := x_tb (tb4 232 (by decide +kernel)) rfl
theorem my_X10_law : xMY mX10_law 0 := ⟨x_tb (tb1 1 (by decide +kernel)) rfl, x_tb (tb5 8 (by decide +kernel)) rfl, by decide +kernel, by decide⟩
theorem mi_X10_law : Cond.instanceMethod yX10_law ∈ xTB := x_tb (tb5 6 (by decide +kernel)) rfl
theorem me_X10_law : Cond.selects yX10_law.cls yX10_law yX10_law ∈ xTB := x_tb (tb5 7 (by decide +kernel)) rfl
theorem my_X10_rests : xMY mX10_rests 1 := ⟨x_tb (tb1 1 (by decide +kernel)) rfl, x_tb (tb5 12 (by decide +kernel)) rfl, by decide +kernel, by decide⟩
theorem mi_X10_rests : Cond.instanceMethod yX10_rests ∈ xTB := x_tb (tb5 10 (by decide +kernel)) rfl
theorem me_X10_rests : Cond.selects yX10_rests.cls yX10_rests yX10_rests ∈ xTB := x_tb (tb5 11 (by decide +kernel)) rfl
theorem my_X10_years : xMY mX10_years 2 := ⟨x_tb (tb1 1 (by decide +kernel)) rfl, x_tb (tb5 22 (by decide +kernel)) rfl, by decide +kernel, by decide⟩
theorem mi_X10_years : Cond.instanceMethod yX10_years ∈ xTB := x_tb (tb5 20 (by decide +kernel)) rfl
theorem me_X10_years : Cond.selects yX10_years.cls yX10_years yX10_years ∈ xTB := x_tb (tb5 21 (by decide +kernel)) rfl
theorem my_X10_keep : xMY mX10_keep 1 := ⟨x_tb (tb1 1 (by decide +kernel)) rfl, x_tb (tb5 32 (by decide +kernel)) rfl, by decide +kernel, by decide⟩
theorem mi_X10_keep : Cond.instanceMethod yX10_keep ∈ xTB := x_tb (tb5 30 (by decide +kernel)) rfl
theorem me_X10_keep : Cond.selects yX10_keep.cls yX10_keep yX10_keep ∈ xTB := x_tb (tb5 31 (by decide +kernel)) rfl
theorem my_X10_again : xMY mX10_again 1 := ⟨x_tb (tb1 1 (by decide +kernel)) rfl, x_tb (tb5 37 (by decide +kernel)) rfl, by decide +kernel, by decide⟩
theorem mi_X10_again : Cond.instanceMethod yX10_again ∈ xTB := x_tb (tb5 35 (by decide +kernel)) rfl
theorem me_X10_again : Cond.selects yX10_again.cls yX10_again yX10_again ∈ xTB := x_tb (tb5 36 (by decide +kernel)) rfl
theorem my_X10_count : xMY mX10_count 1 := ⟨x_tb (tb1 1 (by decide +kernel)) rfl, x_tb (tb5 41 (by decide +kernel)) rfl, by decide +kernel, by decide⟩
theorem mi_X10_count : Cond.instanceMethod yX10_count ∈ xTB := x_tb (tb5 39 (by decide +kernel)) rfl
theorem me_X10_count : Cond.selects yX10_count.cls yX10_count yX10_count ∈ xTB := x_tb (tb5 40 (by decide +kernel)) rfl
theorem my_X10_row : xMY mX10_row 1 := ⟨x_tb (tb1 1 (by decide +kernel)) rfl, x_tb (tb5 137 (by decide +kernel)) rfl, by decide +kernel, by decide⟩
theorem mi_X10_row : Cond.instanceMethod yX10_row ∈ xTB := x_tb (tb5 135 (by decide +kernel)) rfl
theorem me_X10_row : Cond.selects yX10_row.cls yX10_row yX10_row ∈ xTB := x_tb (tb5 136 (by decide +kernel)) rfl
theorem my_X10_isHouse : xMY mX10_isHouse 1 := ⟨x_tb (tb1 1 (by decide +kernel)) rfl, x_tb (tb2 174 (by decide +kernel)) rfl, by decide +kernel, by decide⟩
theorem mi_X10_isHouse : Cond.instanceMethod yX10_isHouse ∈ xTB := x_tb (tb2 173 (by decide +kernel)) rfl
theorem me_X10_isHouse : Cond.selects yX10_isHouse.cls yX10_isHouse yX10_isHouse ∈ xTB := x_sel 12 (q := (yX10_isHouse, 18)) (by decide +kernel) rfl
theorem my_X10_isDeed : xMY mX10_isDeed 1 := ⟨x_tb (tb1 1 (by decide +kernel)) rfl, x_tb (tb3 218 (by decide +kernel)) rfl, by decide +kernel, by decide⟩
theorem mi_X10_isDeed : Cond.instanceMethod yX10_isDeed ∈ xTB := x_tb (tb3 217 (by decide +kernel)) rfl
theorem me_X10_isDeed : Cond.selects yX10_isDeed.cls yX10_isDeed yX10_isDeed ∈ xTB := x_sel 47 (q := (yX10_isDeed, 18)) (by decide +kernel) rfl
theorem my_X10_forgetPast : xMY mX10_forgetPast 0 := ⟨x_tb (tb1 1 (by decide +kernel)) rfl, x_tb (tb2 147 (by decide +kernel)) rfl, by decide +kernel, by decide⟩
theorem mi_X10_forgetPast : Cond.instanceMethod yX10_forgetPast ∈ xTB := x_tb (tb2 146 (by decide +kernel)) rfl
theorem me_X10_forgetPast : Cond.selects yX10_forgetPast.cls yX10_forgetPast yX10_forgetPast ∈ xTB := x_sel 7 (q := (yX10_forgetPast, 18)) (by decide +kernel) rfl
theorem my_X10_readHouses : xMY mX10_readHouses 0 := ⟨x_tb (tb1 1 (by decide +kernel)) rfl, x_tb (tb2 130 (by decide +kernel)) rfl, by decide +kernel, by decide⟩
theorem mi_X10_readHouses : Cond.instanceMethod yX10_readHouses ∈ xTB := x_tb (tb2 129 (by decide +kernel)) rfl
theorem me_X10_readHouses : Cond.selects yX10_readHouses.cls yX10_readHouses yX10_readHouses ∈ xTB := x_sel 3 (q := (yX10_readHouses, 18)) (by decide +kernel) rfl
theorem my_X10_fitsHouse : xMY mX10_fitsHouse 1 := ⟨x_tb (tb1 1 (by decide +kernel)) rfl, x_tb (tb2 134 (by decide +kernel)) rfl, by decide +kernel, by decide⟩
theorem mi_X10_fitsHouse : Cond.instanceMethod yX10_fitsHouse ∈ xTB := x_tb (tb2 133 (by decide +kernel)) rfl
theorem me_X10_fitsHouse : Cond.selects yX10_fitsHouse.cls yX10_fitsHouse yX10_fitsHouse ∈ xTB := x_sel 4 (q := (yX10_fitsHouse, 18)) (by decide +kernel) rfl
theorem my_X10_readDeeds : xMY mX10_readDeeds 0 := ⟨x_tb (tb1 1 (by decide +kernel)) rfl, x_tb (tb2 163 (by decide +kernel)) rfl, by decide +kernel, by decide⟩
theorem mi_X10_readDeeds : Cond.instanceMethod yX10_readDeeds ∈ xTB := x_tb (tb2 162 (by decide +kernel)) rfl
theorem me_X10_readDeeds : Cond.selects yX10_readDeeds.cls yX10_readDeeds yX10_readDeeds ∈ xTB := x_sel 10 (q := (yX10_readDeeds, 18)) (by decide +kernel) rfl
theorem my_X10_fitsDeed : xMY mX10_fitsDeed 3 := ⟨x_tb (tb1 1 (by decide +kernel)) rfl, x_tb (tb2 167 (by decide +kernel)) rfl, by decide +kernel, by decide⟩
theorem mi_X10_fitsDeed : Cond.instanceMethod yX10_fitsDeed ∈ xTB := x_tb (tb2 166 (by decide +kernel)) rfl
theorem me_X10_fitsDeed : Cond.selects yX10_fitsDeed.cls yX10_fitsDeed yX10_fitsDeed ∈ xTB := x_sel 11 (q := (yX10_fitsDeed, 18)) (by decide +kernel) rfl
theorem my_X10_readDigits : xMY mX10_readDigits 1 := ⟨x_tb (tb1 1 (by decide +kernel)) rfl, x_tb (tb2 182 (by decide +kernel)) rfl, by decide +kernel, by decide⟩
theorem mi_X10_readDigits : Cond.instanceMethod yX10_readDigits ∈ xTB := x_tb (tb2 181 (by decide +kernel)) rfl
theorem me_X10_readDigits : Cond.selects yX10_readDigits.cls yX10_readDigits yX10_readDigits ∈ xTB := x_sel 13 (q := (yX10_readDigits, 18)) (by decide +kernel) rfl
theorem my_X10_entry : xMY mX10_entry 2 := ⟨x_tb (tb1 1 (by decide +kernel)) rfl, x_tb (tb3 83 (by decide +kernel)) rfl, by decide +kernel, by decide⟩
theorem ms_X10_entry : Cond.static yX10_entry ∈ xTB := x_tb (tb3 82 (by decide +kernel)) rfl
theorem my_X10_lengthOf : xMY mX10_lengthOf 1 := ⟨x_tb (tb1 1 (by decide +kernel)) rfl, x_tb (tb3 86 (by decide +kernel)) rfl, by decide +kernel, by decide⟩
theorem ms_X10_lengthOf : Cond.static yX10_lengthOf ∈ xTB := x_tb (tb3 85 (by decide +kernel)) rfl
theorem my_X10_noted : xMY mX10_noted 1 := ⟨x_tb (tb1 1 (by decide +kernel)) rfl, x_tb (tb3 174 (by decide +kernel)) rfl, by decide +kernel, by decide⟩
theorem mi_X10_noted : Cond.instanceMethod yX10_noted ∈ xTB := x_tb (tb3 173 (by decide +kernel)) rfl
theorem me_X10_noted : Cond.selects yX10_noted.cls yX10_noted yX10_noted ∈ xTB := x_sel 41 (q := (yX10_noted, 18)) (by decide +kernel) rfl
theorem my_X10_passDays : xMY mX10_passDays 1 := ⟨x_tb (tb1 1 (by decide +kernel)) rfl, x_tb (tb3 104 (by decide +kernel)) rfl, by decide +kernel, by decide⟩
theorem mi_X10_passDays : Cond.instanceMethod yX10_passDays ∈ xTB := x_tb (tb3 103 (by decide +kernel)) rfl
theorem me_X10_passDays : Cond.selects yX10_passDays.cls yX10_passDays yX10_passDays ∈ xTB := x_sel 27 (q := (yX10_passDays, 18)) (by decide +kernel) rfl
theorem my_X10_passDay : xMY mX10_passDay 0 := ⟨x_tb (tb1 1 (by decide +kernel)) rfl, x_tb (tb3 108 (by decide +kernel)) rfl, by decide +kernel, by decide⟩
theorem mi_X10_passDay : Cond.instanceMethod yX10_passDay ∈ xTB := x_tb (tb3 107 (by decide +kernel)) rfl
theorem me_X10_passDay : Cond.selects yX10_passDay.cls yX10_passDay yX10_passDay ∈ xTB := x_sel 28 (q := (yX10_passDay, 18)) (by decide +kernel) rfl
theorem my_X10_buy : xMY mX10_buy 1 := ⟨x_tb (tb1 1 (by decide +kernel)) rfl, x_tb (tb3 187 (by decide +kernel)) rfl, by decide +kernel, by decide⟩
theorem mi_X10_buy : Cond.instanceMethod yX10_buy ∈ xTB := x_tb (tb3 186 (by decide +kernel)) rfl
theorem me_X10_buy : Cond.selects yX10_buy.cls yX10_buy yX10_buy ∈ xTB := x_sel 43 (q := (yX10_buy, 18)) (by decide +kernel) rfl
theorem my_X10_haul : xMY mX10_haul 2 := ⟨x_tb (tb1 1 (by decide +kernel)) rfl, x_tb (tb3 195 (by decide +kernel)) rfl, by decide +kernel, by decide⟩
theorem mi_X10_haul : Cond.instanceMethod yX10_haul ∈ xTB := x_tb (tb3 194 (by decide +kernel)) rfl
theorem me_X10_haul : Cond.selects yX10_haul.cls yX10_haul yX10_haul ∈ xTB := x_sel 44 (q := (yX10_haul, 18)) (by decide +kernel) rfl
theorem my_X10_move : xMY mX10_move 3 := ⟨x_tb (tb1 1 (by decide +kernel)) rfl, x_tb (tb3 206 (by decide +kernel)) rfl, by decide +kernel, by decide⟩
theorem mi_X10_move : Cond.instanceMethod yX10_move ∈ xTB := x_tb (tb3 205 (by decide +kernel)) rfl
theorem me_X10_move : Cond.selects yX10_move.cls yX10_move yX10_move ∈ xTB := x_sel 45 (q := (yX10_move, 18)) (by decide +kernel) rfl
theorem my_X10_lengthen : xMY mX10_lengthen 2 := ⟨x_tb (tb1 1 (by decide +kernel)) rfl, x_tb (tb3 214 (by decide +kernel)) rfl, by decide +kernel, by decide⟩
theorem mi_X10_lengthen : Cond.instanceMethod yX10_lengthen ∈ xTB := x_tb (tb3 213 (by decide +kernel)) rfl
theorem me_X10_lengthen : Cond.selects yX10_lengthen.cls yX10_lengthen yX10_lengthen ∈ xTB := x_sel 46 (q := (yX10_lengthen, 18)) (by decide +kernel) rfl
theorem my_X10_setHill : xMY mX10_setHill 2 := ⟨x_tb (tb1 1 (by decide +kernel)) rfl, x_tb (tb3 226 (by decide +kernel)) rfl, by decide +kernel, by decide⟩
theorem mi_X10_setHill : Cond.instanceMethod yX10_setHill ∈ xTB := x_tb (tb3 225 (by decide +kernel)) rfl
theorem me_X10_setHill : Cond.selects yX10_setHill.cls yX10_setHill yX10_setHill ∈ xTB := x_sel 48 (q := (yX10_setHill, 18)) (by decide +kernel) rfl
theorem my_X10_weekMisfit : xMY mX10_weekMisfit 0 := ⟨x_tb (tb1 1 (by decide +kernel)) rfl, x_tb (tb3 234 (by decide +kernel)) rfl, by decide +kernel, by decide⟩
theorem mi_X10_weekMisfit : Cond.instanceMethod yX10_weekMisfit ∈ xTB := x_tb (tb3 233 (by decide +kernel)) rfl
theorem me_X10_weekMisfit : Cond.selects yX10_weekMisfit.cls yX10_weekMisfit yX10_weekMisfit ∈ xTB := x_sel 49 (q := (yX10_weekMisfit, 18)) (by decide +kernel) rfl
theorem my_X10_digitsOf : xMY mX10_digitsOf 1 := ⟨x_tb (tb1 1 (by decide +kernel)) rfl, x_tb (tb3 237 (by decide +kernel)) rfl, by decide +kernel, by decide⟩
theorem ms_X10_digitsOf : Cond.static yX10_digitsOf ∈ xTB := x_tb (tb3 236 (by decide +kernel)) rfl
theorem my_X10_doAct : xMY mX10_doAct 1 := ⟨x_tb (tb1 1 (by decide +kernel)) rfl, x_tb (tb4 1 (by decide +kernel)) rfl, by decide +kernel, by decide⟩
theorem mi_X10_doAct : Cond.instanceMethod yX10_doAct ∈ xTB := x_tb (tb4 0 (by decide +kernel)) rfl
theorem me_X10_doAct : Cond.selects yX10_doAct.cls yX10_doAct yX10_doAct ∈ xTB := x_sel 50 (q := (yX10_doAct, 18)) (by decide +kernel) rfl
theorem my_X10_draw : xMY mX10_draw 1 := ⟨x_tb (tb1 1 (by decide +kernel)) rfl, x_tb (tb5 26 (by decide +kernel)) rfl, by decide +kernel, by decide⟩
theorem mi_X10_draw : Cond.instanceMethod yX10_draw ∈ xTB := x_tb (tb5 25 (by decide +kernel)) rfl
theorem me_X10_draw : Cond.selects yX10_draw.cls yX10_draw yX10_draw ∈ xTB := x_sel 82 (q := (yX10_draw, 18)) (by decide +kernel) rfl
theorem my_X10_placeOf : xMY mX10_placeOf 2 := ⟨x_tb (tb1 1 (by decide +kernel)) rfl, x_tb (tb3 198 (by decide +kernel)) rfl, by decide +kernel, by decide⟩
theorem ms_X10_placeOf : Cond.static yX10_placeOf ∈ xTB := x_tb (tb3 197 (by decide +kernel)) rfl
theorem my_X10_far : xMY mX10_far 2 := ⟨x_tb (tb1 1 (by decide +kernel)) rfl, x_tb (tb3 123 (by decide +kernel)) rfl, by decide +kernel, by decide⟩
theorem ms_X10_far : Cond.static yX10_far ∈ xTB := x_tb (tb3 122 (by decide +kernel)) rfl
theorem my_X10_planFor : xMY mX10_planFor 3 := ⟨x_tb (tb1 1 (by decide +kernel)) rfl, x_tb (tb3 112 (by decide +kernel)) rfl, by decide +kernel, by decide⟩
theorem mi_X10_planFor : Cond.instanceMethod yX10_planFor ∈ xTB := x_tb (tb3 111 (by decide +kernel)) rfl
theorem me_X10_planFor : Cond.selects yX10_planFor.cls yX10_planFor yX10_planFor ∈ xTB := x_sel 29 (q := (yX10_planFor, 18)) (by decide +kernel) rfl
theorem my_X10_planToday : xMY mX10_planToday 0 := ⟨x_tb (tb1 1 (by decide +kernel)) rfl, x_tb (tb4 21 (by decide +kernel)) rfl, by decide +kernel, by decide⟩
theorem mi_X10_planToday : Cond.instanceMethod yX10_planToday ∈ xTB := x_tb (tb4 20 (by decide +kernel)) rfl
theorem me_X10_planToday : Cond.selects yX10_planToday.cls yX10_planToday yX10_planToday ∈ xTB := x_sel 53 (q := (yX10_planToday, 18)) (by decide +kernel) rfl
theorem my_X10_pairsOn : xMY mX10_pairsOn 1 := ⟨x_tb (tb1 1 (by decide +kernel)) rfl, x_tb (tb4 67 (by decide +kernel)) rfl, by decide +kernel, by decide⟩
theorem mi_X10_pairsOn : Cond.instanceMethod yX10_pairsOn ∈ xTB := x_tb (tb4 66 (by decide +kernel)) rfl
theorem me_X10_pairsOn : Cond.selects yX10_pairsOn.cls yX10_pairsOn yX10_pairsOn ∈ xTB := x_sel 59 (q := (yX10_pairsOn, 18)) (by decide +kernel) rfl
theorem my_X10_minuteOfGun : xMY mX10_minuteOfGun 1 := ⟨x_tb (tb1 1 (by decide +kernel)) rfl, x_tb (tb5 118 (by decide +kernel)) rfl, by decide +kernel, by decide⟩
theorem mi_X10_minuteOfGun : Cond.instanceMethod yX10_minuteOfGun ∈ xTB := x_tb (tb5 117 (by decide +kernel)) rfl
theorem me_X10_minuteOfGun : Cond.selects yX10_minuteOfGun.cls yX10_minuteOfGun yX10_minuteOfGun ∈ xTB := x_sel 84 (q := (yX10_minuteOfGun, 18)) (by decide +kernel) rfl
theorem my_X10_minuteOfEcho : xMY mX10_minuteOfEcho 1 := ⟨x_tb (tb1 1 (by decide +kernel)) rfl, x_tb (tb4 142 (by decide +kernel)) rfl, by decide +kernel, by decide⟩
theorem mi_X10_minuteOfEcho : Cond.instanceMethod yX10_minuteOfEcho ∈ xTB := x_tb (tb4 141 (by decide +kernel)) rfl
theorem me_X10_minuteOfEcho : Cond.selects yX10_minuteOfEcho.cls yX10_minuteOfEcho yX10_minuteOfEcho ∈ xTB := x_sel 67 (q := (yX10_minuteOfEcho, 18)) (by decide +kernel) rfl
theorem my_X10_lastMinute : xMY mX10_lastMinute 0 := ⟨x_tb (tb1 1 (by decide +kernel)) rfl, x_tb (tb4 118 (by decide +kernel)) rfl, by decide +kernel, by decide⟩
theorem mi_X10_lastMinute : Cond.instanceMethod yX10_lastMinute ∈ xTB := x_tb (tb4 117 (by decide +kernel)) rfl
theorem me_X10_lastMinute : Cond.selects yX10_lastMinute.cls yX10_lastMinute yX10_lastMinute ∈ xTB := x_sel 64 (q := (yX10_lastMinute, 18)) (by decide +kernel) rfl
theorem my_X10_housesAt : xMY mX10_housesAt 1 := ⟨x_tb (tb1 1 (by decide +kernel)) rfl, x_tb (tb4 150 (by decide +kernel)) rfl, by decide +kernel, by decide⟩
theorem mi_X10_housesAt : Cond.instanceMethod yX10_housesAt ∈ xTB := x_tb (tb4 149 (by decide +kernel)) rfl
theorem me_X10_housesAt : Cond.selects yX10_housesAt.cls yX10_housesAt yX10_housesAt ∈ xTB := x_sel 68 (q := (yX10_housesAt, 18)) (by decide +kernel) rfl
theorem my_X10_findFoes : xMY mX10_findFoes 0 := ⟨x_tb (tb1 1 (by decide +kernel)) rfl, x_tb (tb4 84 (by decide +kernel)) rfl, by decide +kernel, by decide⟩
theorem mi_X10_findFoes : Cond.instanceMethod yX10_findFoes ∈ xTB := x_tb (tb4 83 (by decide +kernel)) rfl
theorem me_X10_findFoes : Cond.selects yX10_findFoes.cls yX10_findFoes yX10_findFoes ∈ xTB := x_sel 60 (q := (yX10_findFoes, 18)) (by decide +kernel) rfl
theorem my_X10_isPeaceful : xMY mX10_isPeaceful 1 := ⟨x_tb (tb1 1 (by decide +kernel)) rfl, x_tb (tb4 98 (by decide +kernel)) rfl, by decide +kernel, by decide⟩
theorem mi_X10_isPeaceful : Cond.instanceMethod yX10_isPeaceful ∈ xTB := x_tb (tb4 97 (by decide +kernel)) rfl
theorem me_X10_isPeaceful : Cond.selects yX10_isPeaceful.cls yX10_isPeaceful yX10_isPeaceful ∈ xTB := x_sel 62 (q := (yX10_isPeaceful, 18)) (by decide +kernel) rfl
theorem my_X10_lengthsOf : xMY mX10_lengthsOf 1 := ⟨x_tb (tb1 1 (by decide +kernel)) rfl, x_tb (tb4 106 (by decide +kernel)) rfl, by decide +kernel, by decide⟩
theorem mi_X10_lengthsOf : Cond.instanceMethod yX10_lengthsOf ∈ xTB := x_tb (tb4 105 (by decide +kernel)) rfl
theorem me_X10_lengthsOf : Cond.selects yX10_lengthsOf.cls yX10_lengthsOf yX10_lengthsOf ∈ xTB := x_sel 63 (q := (yX10_lengthsOf, 18)) (by decide +kernel) rfl
theorem my_X10_findNear : xMY mX10_findNear 1 := ⟨x_tb (tb1 1 (by decide +kernel)) rfl, x_tb (tb4 201 (by decide +kernel)) rfl, by decide +kernel, by decide⟩
theorem mi_X10_findNear : Cond.instanceMethod yX10_findNear ∈ xTB := x_tb (tb4 200 (by decide +kernel)) rfl
theorem me_X10_findNear : Cond.selects yX10_findNear.cls yX10_findNear yX10_findNear ∈ xTB := x_sel 75 (q := (yX10_findNear, 18)) (by decide +kernel) rfl
theorem my_X10_nearOf : xMY mX10_nearOf 1 := ⟨x_tb (tb1 1 (by decide +kernel)) rfl, x_tb (tb4 205 (by decide +kernel)) rfl, by decide +kernel, by decide⟩
theorem mi_X10_nearOf : Cond.instanceMethod yX10_nearOf ∈ xTB := x_tb (tb4 204 (by decide +kernel)) rfl
theorem me_X10_nearOf : Cond.selects yX10_nearOf.cls yX10_nearOf yX10_nearOf ∈ xTB := x_sel 76 (q := (yX10_nearOf, 18)) (by decide +kernel) rfl
theorem my_X10_minuteBy : xMY mX10_minuteBy 2 := ⟨x_tb (tb1 1 (by decide +kernel)) rfl, x_tb (tb4 178 (by decide +kernel)) rfl, by decide +kernel, by decide⟩
theorem mi_X10_minuteBy : Cond.instanceMethod yX10_minuteBy ∈ xTB := x_tb (tb4 177 (by decide +kernel)) rfl
theorem me_X10_minuteBy : Cond.selects yX10_minuteBy.cls yX10_minuteBy yX10_minuteBy ∈ xTB := x_sel 72 (q := (yX10_minuteBy, 18)) (by decide +kernel) rfl
theorem my_X10_findWeathers : xMY mX10_findWeathers 0 := ⟨x_tb (tb1 1 (by decide +kernel)) rfl, x_tb (tb4 170 (by decide +kernel)) rfl, by decide +kernel, by decide⟩
theorem mi_X10_findWeathers : Cond.instanceMethod yX10_findWeathers ∈ xTB := x_tb (tb4 169 (by decide +kernel)) rfl
theorem me_X10_findWeathers : Cond.selects yX10_findWeathers.cls yX10_findWeathers yX10_findWeathers ∈ xTB := x_sel 70 (q := (yX10_findWeathers, 18)) (by decide +kernel) rfl
theorem my_X10_fitsReports : xMY mX10_fitsReports 1 := ⟨x_tb (tb1 1 (by decide +kernel)) rfl, x_tb (tb4 174 (by decide +kernel)) rfl, by decide +kernel, by decide⟩
theorem mi_X10_fitsReports : Cond.instanceMethod yX10_fitsReports ∈ xTB := x_tb (tb4 173 (by decide +kernel)) rfl
theorem me_X10_fitsReports : Cond.selects yX10_fitsReports.cls yX10_fitsReports yX10_fitsReports ∈ xTB := x_sel 71 (q := (yX10_fitsReports, 18)) (by decide +kernel) rfl
theorem my_X10_mostLeft : xMY mX10_mostLeft 1 := ⟨x_tb (tb1 1 (by decide +kernel)) rfl, x_tb (tb4 186 (by decide +kernel)) rfl, by decide +kernel, by decide⟩
theorem mi_X10_mostLeft : Cond.instanceMethod yX10_mostLeft ∈ xTB := x_tb (tb4 185 (by decide +kernel)) rfl
theorem me_X10_mostLeft : Cond.selects yX10_mostLeft.cls yX10_mostLeft yX10_mostLeft ∈ xTB := x_sel 73 (q := (yX10_mostLeft, 18)) (by decide +kernel) rfl
theorem my_X10_fireOnce : xMY mX10_fireOnce 2 := ⟨x_tb (tb1 1 (by decide +kernel)) rfl, x_tb (tb4 220 (by decide +kernel)) rfl, by decide +kernel, by decide⟩
theorem mi_X10_fireOnce : Cond.instanceMethod yX10_fireOnce ∈ xTB := x_tb (tb4 219 (by decide +kernel)) rfl
theorem me_X10_fireOnce : Cond.selects yX10_fireOnce.cls yX10_fireOnce yX10_fireOnce ∈ xTB := x_sel 77 (q := (yX10_fireOnce, 18)) (by decide +kernel) rfl
theorem my_X10_sumOfChances : xMY mX10_sumOfChances 1 := ⟨x_tb (tb1 1 (by decide +kernel)) rfl, x_tb (tb4 224 (by decide +kernel)) rfl, by decide +kernel, by decide⟩
theorem mi_X10_sumOfChances : Cond.instanceMethod yX10_sumOfChances ∈ xTB := x_tb (tb4 223 (by decide +kernel)) rfl
theorem me_X10_sumOfChances : Cond.selects yX10_sumOfChances.cls yX10_sumOfChances yX10_sumOfChances ∈ xTB := x_sel 78 (q := (yX10_sumOfChances, 18)) (by decide +kernel) rfl
theorem my_X10_tellFraction : xMY mX10_tellFraction 2 := ⟨x_tb (tb1 1 (by decide +kernel)) rfl, x_tb (tb4 229 (by decide +kernel)) rfl, by decide +kernel, by decide⟩
theorem mi_X10_tellFraction : Cond.instanceMethod yX10_tellFraction ∈ xTB := x_tb (tb4 228 (by decide +kernel)) rfl
theorem me_X10_tellFraction : Cond.selects yX10_tellFraction.cls yX10_tellFraction yX10_tellFraction ∈ xTB := x_sel 79 (q := (yX10_tellFraction, 18)) (by decide +kernel) rfl
theorem my_X10_salute : xMY mX10_salute 3 := ⟨x_tb (tb1 1 (by decide +kernel)) rfl, x_tb (tb5 18 (by decide +kernel)) rfl, by decide +kernel, by decide⟩
theorem ms_X10_salute : Cond.static yX10_salute ∈ xTB := x_tb (tb5 17 (by decide +kernel)) rfl
theorem my_X10_isContent : xMY mX10_isContent 3 := ⟨x_tb (tb1 1 (by decide +kernel)) rfl, x_tb (tb5 15 (by decide +kernel)) rfl, by decide +kernel, by decide⟩
theorem ms_X10_isContent : Cond.static yX10_isContent ∈ xTB := x_tb (tb5 14 (by decide +kernel)) rfl
theorem my_X11_thrown : xMY mX11_thrown 0 := ⟨x_tb (tb1 14 (by decide +kernel)) rfl, x_tb (tb5 142 (by decide +kernel)) rfl, by decide +kernel, by decide⟩
theorem mi_X11_thrown : Cond.instanceMethod yX11_thrown ∈ xTB := x_tb (tb5 140 (by decide +kernel)) rfl
theorem me_X11_thrown : Cond.selects yX11_thrown.cls yX11_thrown yX11_thrown ∈ xTB := x_tb (tb5 141 (by decide +kernel)) rfl
theorem my_X11_refuse : xMY mX11_refuse 0 := ⟨x_tb (tb1 14 (by decide +kernel)) rfl, x_tb (tb7 47 (by decide +kernel)) rfl, by decide +kernel, by decide⟩
theorem mi_X11_refuse : Cond.instanceMethod yX11_refuse ∈ xTB := x_tb (tb7 46 (by decide +kernel)) rfl
theorem me_X11_refuse : Cond.selects yX11_refuse.cls yX11_refuse yX11_refuse ∈ xTB := x_sel 104 (q := (yX11_refuse, 52)) (by decide +kernel) rfl
theorem my_X11_in : xMY mX11_in 3 := ⟨x_tb (tb1 14 (by decide +kernel)) rfl, x_tb (tb6 76 (by decide +kernel)) rfl, by decide +kernel, by decide⟩
theorem ms_X11_in : Cond.static yX11_in ∈ xTB := x_tb (tb6 75 (by decide +kernel)) rfl
theorem my_X11_has : xMY mX11_has 2 := ⟨x_tb (tb1 14 (by decide +kernel)) rfl, x_tb (tb8 21 (by decide +kernel)) rfl, by decide +kernel, by decide⟩
theorem ms_X11_has : Cond.static yX11_has ∈ xTB := x_tb (tb8 20 (by decide +kernel)) rfl
theorem my_X11_flag : xMY mX11_flag 1 := ⟨x_tb (tb1 14 (by decide +kernel)) rfl, x_tb (tb6 222 (by decide +kernel)) rfl, by decide +kernel, by decide⟩
theorem ms_X11_flag : Cond.static yX11_flag ∈ xTB := x_tb (tb6 221 (by decide +kernel)) rfl
theorem my_X11_common : xMY mX11_common 2 := ⟨x_tb (tb1 14 (by decide +kernel)) rfl, x_tb (tb8 101 (by decide +kernel)) rfl, by decide +kernel, by decide⟩
theorem ms_X11_common : Cond.static yX11_common ∈ xTB := x_tb (tb8 100 (by decide +kernel)) rfl
theorem my_X11_enters : xMY mX11_enters 1 := ⟨x_tb (tb1 14 (by decide +kernel)) rfl, x_tb (tb7 139 (by decide +kernel)) rfl, by decide +kernel, by decide⟩
theorem mi_X11_enters : Cond.instanceMethod yX11_enters ∈ xTB := x_tb (tb7 138 (by decide +kernel)) rfl
theorem me_X11_enters : Cond.selects yX11_enters.cls yX11_enters yX11_enters ∈ xTB := x_sel 120 (q := (yX11_enters, 52)) (by decide +kernel) rfl
theorem my_X11_tellsFraction : xMY mX11_tellsFraction 2 := ⟨x_tb (tb1 14 (by decide +kernel)) rfl, x_tb (tb8 98 (by decide +kernel)) rfl, by decide +kernel, by decide⟩
theorem mi_X11_tellsFraction : Cond.instanceMethod yX11_tellsFraction ∈ xTB := x_tb (tb8 97 (by decide +kernel)) rfl
theorem me_X11_tellsFraction : Cond.selects yX11_tellsFraction.cls yX11_tellsFraction yX11_tellsFraction ∈ xTB := x_sel 136 (q := (yX11_tellsFraction, 52)) (by decide +kernel) rfl
theorem my_X11_init : xMY mX11_init 0 := ⟨x_tb (tb1 14 (by decide +kernel)) rfl, x_tb (tb5 147 (by decide +kernel)) rfl, by decide +kernel, by decide⟩
theorem mi_X11_init : Cond.instanceMethod yX11_init ∈ xTB := x_tb (tb5 146 (by decide +kernel)) rfl
theorem my_X11_isHouse : xMY mX11_isHouse 1 := ⟨x_tb (tb1 14 (by decide +kernel)) rfl, x_tb (tb7 42 (by decide +kernel)) rfl, by decide +kernel, by decide⟩
theorem mi_X11_isHouse : Cond.instanceMethod yX11_isHouse ∈ xTB := x_tb (tb7 41 (by decide +kernel)) rfl
theorem me_X11_isHouse : Cond.selects yX11_isHouse.cls yX11_isHouse yX11_isHouse ∈ xTB := x_sel 103 (q := (yX11_isHouse, 52)) (by decide +kernel) rfl
theorem my_X11_isDeed : xMY mX11_isDeed 1 := ⟨x_tb (tb1 14 (by decide +kernel)) rfl, x_tb (tb7 87 (by decide +kernel)) rfl, by decide +kernel, by decide⟩
theorem mi_X11_isDeed : Cond.instanceMethod yX11_isDeed ∈ xTB := x_tb (tb7 86 (by decide +kernel)) rfl
theorem me_X11_isDeed : Cond.selects yX11_isDeed.cls yX11_isDeed yX11_isDeed ∈ xTB := x_sel 111 (q := (yX11_isDeed, 52)) (by decide +kernel) rfl
theorem my_X11_isPlace : xMY mX11_isPlace 2 := ⟨x_tb (tb1 14 (by decide +kernel)) rfl, x_tb (tb7 166 (by decide +kernel)) rfl, by decide +kernel, by decide⟩
theorem ms_X11_isPlace : Cond.static yX11_isPlace ∈ xTB := x_tb (tb7 165 (by decide +kernel)) rfl
theorem my_X11_sign : xMY mX11_sign 1 := ⟨x_tb (tb1 14 (by decide +kernel)) rfl, x_tb (tb6 69 (by decide +kernel)) rfl, by decide +kernel, by decide⟩
theorem mi_X11_sign : Cond.instanceMethod yX11_sign ∈ xTB := x_tb (tb6 67 (by decide +kernel)) rfl
theorem me_X11_sign : Cond.selects yX11_sign.cls yX11_sign yX11_sign ∈ xTB := x_tb (tb6 68 (by decide +kernel)) rfl
theorem my_X11_end : xMY mX11_end 1 := ⟨x_tb (tb1 14 (by decide +kernel)) rfl, x_tb (tb6 73 (by decide +kernel)) rfl, by decide +kernel, by decide⟩
theorem mi_X11_end : Cond.instanceMethod yX11_end ∈ xTB := x_tb (tb6 71 (by decide +kernel)) rfl
theorem me_X11_end : Cond.selects yX11_end.cls yX11_end yX11_end ∈ xTB := x_tb (tb6 72 (by decide +kernel)) rfl
theorem my_X11_begins : xMY mX11_begins 1 := ⟨x_tb (tb1 14 (by decide +kernel)) rfl, x_tb (tb6 88 (by decide +kernel)) rfl, by decide +kernel, by decide⟩
theorem mi_X11_begins : Cond.instanceMethod yX11_begins ∈ xTB := x_tb (tb6 87 (by decide +kernel)) rfl
theorem me_X11_begins : Cond.selects yX11_begins.cls yX11_begins yX11_begins ∈ xTB := x_sel 87 (q := (yX11_begins, 52)) (by decide +kernel) rfl
theorem my_X11_takesSign : xMY mX11_takesSign 1 := ⟨x_tb (tb1 14 (by decide +kernel)) rfl, x_tb (tb6 219 (by decide +kernel)) rfl, by decide +kernel, by decide⟩
theorem mi_X11_takesSign : Cond.instanceMethod yX11_takesSign ∈ xTB := x_tb (tb6 218 (by decide +kernel)) rfl
theorem me_X11_takesSign : Cond.selects yX11_takesSign.cls yX11_takesSign yX11_takesSign ∈ xTB := x_sel 94 (q := (yX11_takesSign, 52)) (by decide +kernel) rfl
theorem my_X11_isDigit : xMY mX11_isDigit 0 := ⟨x_tb (tb1 14 (by decide +kernel)) rfl, x_tb (tb6 101 (by decide +kernel)) rfl, by decide +kernel, by decide⟩
theorem mi_X11_isDigit : Cond.instanceMethod yX11_isDigit ∈ xTB := x_tb (tb6 100 (by decide +kernel)) rfl
theorem me_X11_isDigit : Cond.selects yX11_isDigit.cls yX11_isDigit yX11_isDigit ∈ xTB := x_sel 90 (q := (yX11_isDigit, 52)) (by decide +kernel) rfl
theorem my_X11_takesOf : xMY mX11_takesOf 1 := ⟨x_tb (tb1 14 (by decide +kernel)) rfl, x_tb (tb6 194 (by decide +kernel)) rfl, by decide +kernel, by decide⟩
theorem mi_X11_takesOf : Cond.instanceMethod yX11_takesOf ∈ xTB := x_tb (tb6 193 (by decide +kernel)) rfl
theorem me_X11_takesOf : Cond.selects yX11_takesOf.cls yX11_takesOf yX11_takesOf ∈ xTB := x_sel 93 (q := (yX11_takesOf, 52)) (by decide +kernel) rfl
theorem my_X11_number : xMY mX11_number 1 := ⟨x_tb (tb1 14 (by decide +kernel)) rfl, x_tb (tb6 97 (by decide +kernel)) rfl, by decide +kernel, by decide⟩
theorem mi_X11_number : Cond.instanceMethod yX11_number ∈ xTB := x_tb (tb6 96 (by decide +kernel)) rfl
theorem me_X11_number : Cond.selects yX11_number.cls yX11_number yX11_number ∈ xTB := x_sel 89 (q := (yX11_number, 52)) (by decide +kernel) rfl
theorem my_X11_digitIn : xMY mX11_digitIn 2 := ⟨x_tb (tb1 14 (by decide +kernel)) rfl, x_tb (tb6 111 (by decide +kernel)) rfl, by decide +kernel, by decide⟩
theorem mi_X11_digitIn : Cond.instanceMethod yX11_digitIn ∈ xTB := x_tb (tb6 110 (by decide +kernel)) rfl
theorem me_X11_digitIn : Cond.selects yX11_digitIn.cls yX11_digitIn yX11_digitIn ∈ xTB := x_sel 92 (q := (yX11_digitIn, 52)) (by decide +kernel) rfl
theorem my_X11_faultOf : xMY mX11_faultOf 3 := ⟨x_tb (tb1 14 (by decide +kernel)) rfl, x_tb (tb6 226 (by decide +kernel)) rfl, by decide +kernel, by decide⟩
theorem mi_X11_faultOf : Cond.instanceMethod yX11_faultOf ∈ xTB := x_tb (tb6 225 (by decide +kernel)) rfl
theorem me_X11_faultOf : Cond.selects yX11_faultOf.cls yX11_faultOf yX11_faultOf ∈ xTB := x_sel 95 (q := (yX11_faultOf, 52)) (by decide +kernel) rfl
theorem my_X11_readsHouse : xMY mX11_readsHouse 0 := ⟨x_tb (tb1 14 (by decide +kernel)) rfl, x_tb (tb6 93 (by decide +kernel)) rfl, by decide +kernel, by decide⟩
theorem mi_X11_readsHouse : Cond.instanceMethod yX11_readsHouse ∈ xTB := x_tb (tb6 92 (by decide +kernel)) rfl
theorem me_X11_readsHouse : Cond.selects yX11_readsHouse.cls yX11_readsHouse yX11_readsHouse ∈ xTB := x_sel 88 (q := (yX11_readsHouse, 52)) (by decide +kernel) rfl
theorem my_X11_readsDeed : xMY mX11_readsDeed 0 := ⟨x_tb (tb1 14 (by decide +kernel)) rfl, x_tb (tb6 107 (by decide +kernel)) rfl, by decide +kernel, by decide⟩
theorem mi_X11_readsDeed : Cond.instanceMethod yX11_readsDeed ∈ xTB := x_tb (tb6 106 (by decide +kernel)) rfl
theorem me_X11_readsDeed : Cond.selects yX11_readsDeed.cls yX11_readsDeed yX11_readsDeed ∈ xTB := x_sel 91 (q := (yX11_readsDeed, 52)) (by decide +kernel) rfl
theorem my_X11_readsLines : xMY mX11_readsLines 2 := ⟨x_tb (tb1 14 (by decide +kernel)) rfl, x_tb (tb6 84 (by decide +kernel)) rfl, by decide +kernel, by decide⟩
theorem mi_X11_readsLines : Cond.instanceMethod yX11_readsLines ∈ xTB := x_tb (tb6 83 (by decide +kernel)) rfl
theorem me_X11_readsLines : Cond.selects yX11_readsLines.cls yX11_readsLines yX11_readsLines ∈ xTB := x_sel 86 (q := (yX11_readsLines, 52)) (by decide +kernel) rfl
theorem my_X11_isNew : xMY mX11_isNew 0 := ⟨x_tb (tb1 14 (by decide +kernel)) rfl, x_tb (tb6 230 (by decide +kernel)) rfl, by decide +kernel, by decide⟩
theorem mi_X11_isNew : Cond.instanceMethod yX11_isNew ∈ xTB := x_tb (tb6 229 (by decide +kernel)) rfl
theorem me_X11_isNew : Cond.selects yX11_isNew.cls yX11_isNew yX11_isNew ∈ xTB := x_sel 96 (q := (yX11_isNew, 52)) (by decide +kernel) rfl
theorem my_X11_houses : xMY mX11_houses 0 := ⟨x_tb (tb1 14 (by decide +kernel)) rfl, x_tb (tb6 80 (by decide +kernel)) rfl, by decide +kernel, by decide⟩
theorem mi_X11_houses : Cond.instanceMethod yX11_houses ∈ xTB := x_tb (tb6 78 (by decide +kernel)) rfl
theorem me_X11_houses : Cond.selects yX11_houses.cls yX11_houses yX11_houses ∈ xTB := x_tb (tb6 79 (by decide +kernel)) rfl
theorem my_X11_deeds : xMY mX11_deeds 0 := ⟨x_tb (tb1 14 (by decide +kernel)) rfl, x_tb (tb6 234 (by decide +kernel)) rfl, by decide +kernel, by decide⟩
theorem mi_X11_deeds : Cond.instanceMethod yX11_deeds ∈ xTB := x_tb (tb6 232 (by decide +kernel)) rfl
theorem me_X11_deeds : Cond.selects yX11_deeds.cls yX11_deeds yX11_deeds ∈ xTB := x_tb (tb6 233 (by decide +kernel)) rfl
theorem my_X11_readsDigits : xMY mX11_readsDigits 0 := ⟨x_tb (tb1 14 (by decide +kernel)) rfl, x_tb (tb7 2 (by decide +kernel)) rfl, by decide +kernel, by decide⟩
theorem mi_X11_readsDigits : Cond.instanceMethod yX11_readsDigits ∈ xTB := x_tb (tb7 1 (by decide +kernel)) rfl
theorem me_X11_readsDigits : Cond.selects yX11_readsDigits.cls yX11_readsDigits yX11_readsDigits ∈ xTB := x_sel 97 (q := (yX11_readsDigits, 52)) (by decide +kernel) rfl
theorem my_X11_winds : xMY mX11_winds 0 := ⟨x_tb (tb1 14 (by decide +kernel)) rfl, x_tb (tb6 238 (by decide +kernel)) rfl, by decide +kernel, by decide⟩
theorem mi_X11_winds : Cond.instanceMethod yX11_winds ∈ xTB := x_tb (tb6 236 (by decide +kernel)) rfl
theorem me_X11_winds : Cond.selects yX11_winds.cls yX11_winds yX11_winds ∈ xTB := x_tb (tb6 237 (by decide +kernel)) rfl
theorem my_X11_damps : xMY mX11_damps 0 := ⟨x_tb (tb1 14 (by decide +kernel)) rfl, x_tb (tb7 6 (by decide +kernel)) rfl, by decide +kernel, by decide⟩
theorem mi_X11_damps : Cond.instanceMethod yX11_damps ∈ xTB := x_tb (tb7 4 (by decide +kernel)) rfl
theorem me_X11_damps : Cond.selects yX11_damps.cls yX11_damps yX11_damps ∈ xTB := x_tb (tb7 5 (by decide +kernel)) rfl
theorem my_X11_windOn : xMY mX11_windOn 1 := ⟨x_tb (tb1 14 (by decide +kernel)) rfl, x_tb (tb7 59 (by decide +kernel)) rfl, by decide +kernel, by decide⟩
theorem mi_X11_windOn : Cond.instanceMethod yX11_windOn ∈ xTB := x_tb (tb7 58 (by decide +kernel)) rfl
theorem me_X11_windOn : Cond.selects yX11_windOn.cls yX11_windOn yX11_windOn ∈ xTB := x_sel 107 (q := (yX11_windOn, 52)) (by decide +kernel) rfl
theorem my_X11_dampOn : xMY mX11_dampOn 1 := ⟨x_tb (tb1 14 (by decide +kernel)) rfl, x_tb (tb7 55 (by decide +kernel)) rfl, by decide +kernel, by decide⟩
theorem mi_X11_dampOn : Cond.instanceMethod yX11_dampOn ∈ xTB := x_tb (tb7 54 (by decide +kernel)) rfl
theorem me_X11_dampOn : Cond.selects yX11_dampOn.cls yX11_dampOn yX11_dampOn ∈ xTB := x_sel 106 (q := (yX11_dampOn, 52)) (by decide +kernel) rfl
theorem my_X11_codes : xMY mX11_codes 1 := ⟨x_tb (tb1 14 (by decide +kernel)) rfl, x_tb (tb7 26 (by decide +kernel)) rfl, by decide +kernel, by decide⟩
theorem mi_X11_codes : Cond.instanceMethod yX11_codes ∈ xTB := x_tb (tb7 25 (by decide +kernel)) rfl
theorem me_X11_codes : Cond.selects yX11_codes.cls yX11_codes yX11_codes ∈ xTB := x_sel 101 (q := (yX11_codes, 52)) (by decide +kernel) rfl
theorem my_X11_readsThing : xMY mX11_readsThing 0 := ⟨x_tb (tb1 14 (by decide +kernel)) rfl, x_tb (tb7 22 (by decide +kernel)) rfl, by decide +kernel, by decide⟩
theorem mi_X11_readsThing : Cond.instanceMethod yX11_readsThing ∈ xTB := x_tb (tb7 21 (by decide +kernel)) rfl
theorem me_X11_readsThing : Cond.selects yX11_readsThing.cls yX11_readsThing yX11_readsThing ∈ xTB := x_sel 100 (q := (yX11_readsThing, 52)) (by decide +kernel) rfl
theorem my_X11_readsRank : xMY mX11_readsRank 1 := ⟨x_tb (tb1 14 (by decide +kernel)) rfl, x_tb (tb7 18 (by decide +kernel)) rfl, by decide +kernel, by decide⟩
theorem mi_X11_readsRank : Cond.instanceMethod yX11_readsRank ∈ xTB := x_tb (tb7 17 (by decide +kernel)) rfl
theorem me_X11_readsRank : Cond.selects yX11_readsRank.cls yX11_readsRank yX11_readsRank ∈ xTB := x_sel 99 (q := (yX11_readsRank, 52)) (by decide +kernel) rfl
theorem my_X11_readsRule : xMY mX11_readsRule 0 := ⟨x_tb (tb1 14 (by decide +kernel)) rfl, x_tb (tb7 14 (by decide +kernel)) rfl, by decide +kernel, by decide⟩
theorem mi_X11_readsRule : Cond.instanceMethod yX11_readsRule ∈ xTB := x_tb (tb7 13 (by decide +kernel)) rfl
theorem me_X11_readsRule : Cond.selects yX11_readsRule.cls yX11_readsRule yX11_readsRule ∈ xTB := x_sel 98 (q := (yX11_readsRule, 52)) (by decide +kernel) rfl
theorem my_X11_laysCode : xMY mX11_laysCode 2 := ⟨x_tb (tb1 14 (by decide +kernel)) rfl, x_tb (tb7 34 (by decide +kernel)) rfl, by decide +kernel, by decide⟩
theorem mi_X11_laysCode : Cond.instanceMethod yX11_laysCode ∈ xTB := x_tb (tb7 33 (by decide +kernel)) rfl
theorem me_X11_laysCode : Cond.selects yX11_laysCode.cls yX11_laysCode yX11_laysCode ∈ xTB := x_sel 102 (q := (yX11_laysCode, 52)) (by decide +kernel) rfl
theorem my_X11_rule : xMY mX11_rule 0 := ⟨x_tb (tb1 14 (by decide +kernel)) rfl, x_tb (tb7 10 (by decide +kernel)) rfl, by decide +kernel, by decide⟩
theorem mi_X11_rule : Cond.instanceMethod yX11_rule ∈ xTB := x_tb (tb7 8 (by decide +kernel)) rfl
theorem me_X11_rule : Cond.selects yX11_rule.cls yX11_rule yX11_rule ∈ xTB := x_tb (tb7 9 (by decide +kernel)) rfl
theorem my_X11_worked : xMY mX11_worked 3 := ⟨x_tb (tb1 14 (by decide +kernel)) rfl, x_tb (tb7 74 (by decide +kernel)) rfl, by decide +kernel, by decide⟩
theorem ms_X11_worked : Cond.static yX11_worked ∈ xTB := x_tb (tb7 73 (by decide +kernel)) rfl
theorem my_X11_ruled : xMY mX11_ruled 0 := ⟨x_tb (tb1 14 (by decide +kernel)) rfl, x_tb (tb7 71 (by decide +kernel)) rfl, by decide +kernel, by decide⟩
theorem mi_X11_ruled : Cond.instanceMethod yX11_ruled ∈ xTB := x_tb (tb7 70 (by decide +kernel)) rfl
theorem me_X11_ruled : Cond.selects yX11_ruled.cls yX11_ruled yX11_ruled ∈ xTB := x_sel 109 (q := (yX11_ruled, 52)) (by decide +kernel) rfl
theorem my_X11_far : xMY mX11_far 4 := ⟨x_tb (tb1 14 (by decide +kernel)) rfl, x_tb (tb7 66 (by decide +kernel)) rfl, by decide +kernel, by decide⟩
theorem ms_X11_far : Cond.static yX11_far ∈ xTB := x_tb (tb7 65 (by decide +kernel)) rfl
theorem my_X11_hearsBy : xMY mX11_hearsBy 5 := ⟨x_tb (tb1 14 (by decide +kernel)) rfl, x_tb (tb7 63 (by decide +kernel)) rfl, by decide +kernel, by decide⟩
theorem mi_X11_hearsBy : Cond.instanceMethod yX11_hearsBy ∈ xTB := x_tb (tb7 62 (by decide +kernel)) rfl
theorem me_X11_hearsBy : Cond.selects yX11_hearsBy.cls yX11_hearsBy yX11_hearsBy ∈ xTB := x_sel 108 (q := (yX11_hearsBy, 52)) (by decide +kernel) rfl
theorem my_X11_hears : xMY mX11_hears 2 := ⟨x_tb (tb1 14 (by decide +kernel)) rfl, x_tb (tb7 51 (by decide +kernel)) rfl, by decide +kernel, by decide⟩
theorem mi_X11_hears : Cond.instanceMethod yX11_hears ∈ xTB := x_tb (tb7 50 (by decide +kernel)) rfl
theorem me_X11_hears : Cond.selects yX11_hears.cls yX11_hears yX11_hears ∈ xTB := x_sel 105 (q := (yX11_hears, 52)) (by decide +kernel) rfl
theorem my_X11_echoes : xMY mX11_echoes 2 := ⟨x_tb (tb1 14 (by decide +kernel)) rfl, x_tb (tb7 79 (by decide +kernel)) rfl, by decide +kernel, by decide⟩
theorem mi_X11_echoes : Cond.instanceMethod yX11_echoes ∈ xTB := x_tb (tb7 78 (by decide +kernel)) rfl
theorem me_X11_echoes : Cond.selects yX11_echoes.cls yX11_echoes yX11_echoes ∈ xTB := x_sel 110 (q := (yX11_echoes, 52)) (by decide +kernel) rfl
theorem my_X11_laysBegins : xMY mX11_laysBegins 1 := ⟨x_tb (tb1 14 (by decide +kernel)) rfl, x_tb (tb7 92 (by decide +kernel)) rfl, by decide +kernel, by decide⟩
theorem mi_X11_laysBegins : Cond.instanceMethod yX11_laysBegins ∈ xTB := x_tb (tb7 91 (by decide +kernel)) rfl
theorem me_X11_laysBegins : Cond.selects yX11_laysBegins.cls yX11_laysBegins yX11_laysBegins ∈ xTB := x_sel 112 (q := (yX11_laysBegins, 52)) (by decide +kernel) rfl
theorem my_X11_meet : xMY mX11_meet 3 := ⟨x_tb (tb1 14 (by decide +kernel)) rfl, x_tb (tb7 104 (by decide +kernel)) rfl, by decide +kernel, by decide⟩
theorem mi_X11_meet : Cond.instanceMethod yX11_meet ∈ xTB := x_tb (tb7 103 (by decide +kernel)) rfl
theorem me_X11_meet : Cond.selects yX11_meet.cls yX11_meet yX11_meet ∈ xTB := x_sel 115 (q := (yX11_meet, 52)) (by decide +kernel) rfl
theorem my_X11_clash : xMY mX11_clash 3 := ⟨x_tb (tb1 14 (by decide +kernel)) rfl, x_tb (tb7 100 (by decide +kernel)) rfl, by decide +kernel, by decide⟩
theorem mi_X11_clash : Cond.instanceMethod yX11_clash ∈ xTB := x_tb (tb7 99 (by decide +kernel)) rfl
theorem me_X11_clash : Cond.selects yX11_clash.cls yX11_clash yX11_clash ∈ xTB := x_sel 114 (q := (yX11_clash, 52)) (by decide +kernel) rfl
theorem my_X11_clashing : xMY mX11_clashing 2 := ⟨x_tb (tb1 14 (by decide +kernel)) rfl, x_tb (tb7 96 (by decide +kernel)) rfl, by decide +kernel, by decide⟩
theorem mi_X11_clashing : Cond.instanceMethod yX11_clashing ∈ xTB := x_tb (tb7 95 (by decide +kernel)) rfl
theorem me_X11_clashing : Cond.selects yX11_clashing.cls yX11_clashing yX11_clashing ∈ xTB := x_sel 113 (q := (yX11_clashing, 52)) (by decide +kernel) rfl
theorem my_X11_clashesOn : xMY mX11_clashesOn 1 := ⟨x_tb (tb1 14 (by decide +kernel)) rfl, x_tb (tb7 134 (by decide +kernel)) rfl, by decide +kernel, by decide⟩
theorem mi_X11_clashesOn : Cond.instanceMethod yX11_clashesOn ∈ xTB := x_tb (tb7 133 (by decide +kernel)) rfl
theorem me_X11_clashesOn : Cond.selects yX11_clashesOn.cls yX11_clashesOn yX11_clashesOn ∈ xTB := x_sel 119 (q := (yX11_clashesOn, 52)) (by decide +kernel) rfl
theorem my_X11_house : xMY mX11_house 2 := ⟨x_tb (tb1 14 (by decide +kernel)) rfl, x_tb (tb7 38 (by decide +kernel)) rfl, by decide +kernel, by decide⟩
theorem mi_X11_house : Cond.instanceMethod yX11_house ∈ xTB := x_tb (tb7 36 (by decide +kernel)) rfl
theorem me_X11_house : Cond.selects yX11_house.cls yX11_house yX11_house ∈ xTB := x_tb (tb7 37 (by decide +kernel)) rfl
theorem my_X11_deed : xMY mX11_deed 2 := ⟨x_tb (tb1 14 (by decide +kernel)) rfl, x_tb (tb7 83 (by decide +kernel)) rfl, by decide +kernel, by decide⟩
theorem mi_X11_deed : Cond.instanceMethod yX11_deed ∈ xTB := x_tb (tb7 81 (by decide +kernel)) rfl
theorem me_X11_deed : Cond.selects yX11_deed.cls yX11_deed yX11_deed ∈ xTB := x_tb (tb7 82 (by decide +kernel)) rfl
theorem my_X11_sheet : xMY mX11_sheet 4 := ⟨x_tb (tb1 14 (by decide +kernel)) rfl, x_tb (tb7 108 (by decide +kernel)) rfl, by decide +kernel, by decide⟩
theorem mi_X11_sheet : Cond.instanceMethod yX11_sheet ∈ xTB := x_tb (tb7 106 (by decide +kernel)) rfl
theorem me_X11_sheet : Cond.selects yX11_sheet.cls yX11_sheet yX11_sheet ∈ xTB := x_tb (tb7 107 (by decide +kernel)) rfl
theorem my_X11_putsBy : xMY mX11_putsBy 0 := ⟨x_tb (tb1 14 (by decide +kernel)) rfl, x_tb (tb7 122 (by decide +kernel)) rfl, by decide +kernel, by decide⟩
theorem mi_X11_putsBy : Cond.instanceMethod yX11_putsBy ∈ xTB := x_tb (tb7 121 (by decide +kernel)) rfl
theorem me_X11_putsBy : Cond.selects yX11_putsBy.cls yX11_putsBy yX11_putsBy ∈ xTB := x_sel 116 (q := (yX11_putsBy, 52)) (by decide +kernel) rfl
theorem my_X11_adds : xMY mX11_adds 1 := ⟨x_tb (tb1 14 (by decide +kernel)) rfl, x_tb (tb7 143 (by decide +kernel)) rfl, by decide +kernel, by decide⟩
theorem mi_X11_adds : Cond.instanceMethod yX11_adds ∈ xTB := x_tb (tb7 142 (by decide +kernel)) rfl
theorem me_X11_adds : Cond.selects yX11_adds.cls yX11_adds yX11_adds ∈ xTB := x_sel 121 (q := (yX11_adds, 52)) (by decide +kernel) rfl
theorem my_X11_counted : xMY mX11_counted 1 := ⟨x_tb (tb1 14 (by decide +kernel)) rfl, x_tb (tb7 156 (by decide +kernel)) rfl, by decide +kernel, by decide⟩
theorem mi_X11_counted : Cond.instanceMethod yX11_counted ∈ xTB := x_tb (tb7 155 (by decide +kernel)) rfl
theorem me_X11_counted : Cond.selects yX11_counted.cls yX11_counted yX11_counted ∈ xTB := x_sel 123 (q := (yX11_counted, 52)) (by decide +kernel) rfl
theorem my_X11_undo : xMY mX11_undo 0 := ⟨x_tb (tb1 14 (by decide +kernel)) rfl, x_tb (tb7 113 (by decide +kernel)) rfl, by decide +kernel, by decide⟩
theorem mi_X11_undo : Cond.instanceMethod yX11_undo ∈ xTB := x_tb (tb7 111 (by decide +kernel)) rfl
theorem me_X11_undo : Cond.selects yX11_undo.cls yX11_undo yX11_undo ∈ xTB := x_tb (tb7 112 (by decide +kernel)) rfl
theorem my_X11_dayGoes : xMY mX11_dayGoes 1 := ⟨x_tb (tb1 14 (by decide +kernel)) rfl, x_tb (tb7 130 (by decide +kernel)) rfl, by decide +kernel, by decide⟩
theorem mi_X11_dayGoes : Cond.instanceMethod yX11_dayGoes ∈ xTB := x_tb (tb7 129 (by decide +kernel)) rfl
theorem me_X11_dayGoes : Cond.selects yX11_dayGoes.cls yX11_dayGoes yX11_dayGoes ∈ xTB := x_sel 118 (q := (yX11_dayGoes, 52)) (by decide +kernel) rfl
theorem my_X11_goesOn : xMY mX11_goesOn 2 := ⟨x_tb (tb1 14 (by decide +kernel)) rfl, x_tb (tb7 126 (by decide +kernel)) rfl, by decide +kernel, by decide⟩
theorem mi_X11_goesOn : Cond.instanceMethod yX11_goesOn ∈ xTB := x_tb (tb7 125 (by decide +kernel)) rfl
theorem me_X11_goesOn : Cond.selects yX11_goesOn.cls yX11_goesOn yX11_goesOn ∈ xTB := x_sel 117 (q := (yX11_goesOn, 52)) (by decide +kernel) rfl
theorem my_X11_buysSome : xMY mX11_buysSome 1 := ⟨x_tb (tb1 14 (by decide +kernel)) rfl, x_tb (tb7 151 (by decide +kernel)) rfl, by decide +kernel, by decide⟩
theorem mi_X11_buysSome : Cond.instanceMethod yX11_buysSome ∈ xTB := x_tb (tb7 150 (by decide +kernel)) rfl
theorem me_X11_buysSome : Cond.selects yX11_buysSome.cls yX11_buysSome yX11_buysSome ∈ xTB := x_sel 122 (q := (yX11_buysSome, 52)) (by decide +kernel) rfl
theorem my_X11_puts : xMY mX11_puts 5 := ⟨x_tb (tb1 14 (by decide +kernel)) rfl, x_tb (tb7 170 (by decide +kernel)) rfl, by decide +kernel, by decide⟩
theorem ms_X11_puts : Cond.static yX11_puts ∈ xTB := x_tb (tb7 169 (by decide +kernel)) rfl
theorem my_X11_haulsTo : xMY mX11_haulsTo 3 := ⟨x_tb (tb1 14 (by decide +kernel)) rfl, x_tb (tb7 163 (by decide +kernel)) rfl, by decide +kernel, by decide⟩
theorem ms_X11_haulsTo : Cond.static yX11_haulsTo ∈ xTB := x_tb (tb7 162 (by decide +kernel)) rfl
theorem my_X11_movesTo : xMY mX11_movesTo 4 := ⟨x_tb (tb1 14 (by decide +kernel)) rfl, x_tb (tb7 178 (by decide +kernel)) rfl, by decide +kernel, by decide⟩
theorem mi_X11_movesTo : Cond.instanceMethod yX11_movesTo ∈ xTB := x_tb (tb7 177 (by decide +kernel)) rfl
theorem me_X11_movesTo : Cond.selects yX11_movesTo.cls yX11_movesTo yX11_movesTo ∈ xTB := x_sel 124 (q := (yX11_movesTo, 52)) (by decide +kernel) rfl
theorem my_X11_takesSome : xMY mX11_takesSome 2 := ⟨x_tb (tb1 14 (by decide +kernel)) rfl, x_tb (tb7 186 (by decide +kernel)) rfl, by decide +kernel, by decide⟩
theorem mi_X11_takesSome : Cond.instanceMethod yX11_takesSome ∈ xTB := x_tb (tb7 185 (by decide +kernel)) rfl
theorem me_X11_takesSome : Cond.selects yX11_takesSome.cls yX11_takesSome yX11_takesSome ∈ xTB := x_sel 125 (q := (yX11_takesSome, 52)) (by decide +kernel) rfl
theorem my_X11_days : xMY mX11_days 1 := ⟨x_tb (tb1 14 (by decide +kernel)) rfl, x_tb (tb7 117 (by decide +kernel)) rfl, by decide +kernel, by decide⟩
theorem mi_X11_days : Cond.instanceMethod yX11_days ∈ xTB := x_tb (tb7 115 (by decide +kernel)) rfl
theorem me_X11_days : Cond.selects yX11_days.cls yX11_days yX11_days ∈ xTB := x_tb (tb7 116 (by decide +kernel)) rfl
theorem my_X11_buys : xMY mX11_buys 1 := ⟨x_tb (tb1 14 (by decide +kernel)) rfl, x_tb (tb7 147 (by decide +kernel)) rfl, by decide +kernel, by decide⟩
theorem mi_X11_buys : Cond.instanceMethod yX11_buys ∈ xTB := x_tb (tb7 145 (by decide +kernel)) rfl
theorem me_X11_buys : Cond.selects yX11_buys.cls yX11_buys yX11_buys ∈ xTB := x_tb (tb7 146 (by decide +kernel)) rfl
theorem my_X11_hauls : xMY mX11_hauls 2 := ⟨x_tb (tb1 14 (by decide +kernel)) rfl, x_tb (tb7 160 (by decide +kernel)) rfl, by decide +kernel, by decide⟩
theorem mi_X11_hauls : Cond.instanceMethod yX11_hauls ∈ xTB := x_tb (tb7 158 (by decide +kernel)) rfl
theorem me_X11_hauls : Cond.selects yX11_hauls.cls yX11_hauls yX11_hauls ∈ xTB := x_tb (tb7 159 (by decide +kernel)) rfl
theorem my_X11_moves : xMY mX11_moves 3 := ⟨x_tb (tb1 14 (by decide +kernel)) rfl, x_tb (tb7 174 (by decide +kernel)) rfl, by decide +kernel, by decide⟩
theorem mi_X11_moves : Cond.instanceMethod yX11_moves ∈ xTB := x_tb (tb7 172 (by decide +kernel)) rfl
theorem me_X11_moves : Cond.selects yX11_moves.cls yX11_moves yX11_moves ∈ xTB := x_tb (tb7 173 (by decide +kernel)) rfl
theorem my_X11_takes : xMY mX11_takes 2 := ⟨x_tb (tb1 14 (by decide +kernel)) rfl, x_tb (tb7 182 (by decide +kernel)) rfl, by decide +kernel, by decide⟩
theorem mi_X11_takes : Cond.instanceMethod yX11_takes ∈ xTB := x_tb (tb7 180 (by decide +kernel)) rfl
theorem me_X11_takes : Cond.selects yX11_takes.cls yX11_takes yX11_takes ∈ xTB := x_tb (tb7 181 (by decide +kernel)) rfl
theorem my_X11_hill : xMY mX11_hill 2 := ⟨x_tb (tb1 14 (by decide +kernel)) rfl, x_tb (tb7 190 (by decide +kernel)) rfl, by decide +kernel, by decide⟩
theorem mi_X11_hill : Cond.instanceMethod yX11_hill ∈ xTB := x_tb (tb7 188 (by decide +kernel)) rfl
theorem me_X11_hill : Cond.selects yX11_hill.cls yX11_hill yX11_hill ∈ xTB := x_tb (tb7 189 (by decide +kernel)) rfl
theorem my_X11_readsAct : xMY mX11_readsAct 0 := ⟨x_tb (tb1 14 (by decide +kernel)) rfl, x_tb (tb7 198 (by decide +kernel)) rfl, by decide +kernel, by decide⟩
theorem mi_X11_readsAct : Cond.instanceMethod yX11_readsAct ∈ xTB := x_tb (tb7 197 (by decide +kernel)) rfl
theorem me_X11_readsAct : Cond.selects yX11_readsAct.cls yX11_readsAct yX11_readsAct ∈ xTB := x_sel 126 (q := (yX11_readsAct, 52)) (by decide +kernel) rfl
theorem my_X11_does : xMY mX11_does 1 := ⟨x_tb (tb1 14 (by decide +kernel)) rfl, x_tb (tb7 203 (by decide +kernel)) rfl, by decide +kernel, by decide⟩
theorem mi_X11_does : Cond.instanceMethod yX11_does ∈ xTB := x_tb (tb7 202 (by decide +kernel)) rfl
theorem me_X11_does : Cond.selects yX11_does.cls yX11_does yX11_does ∈ xTB := x_sel 127 (q := (yX11_does, 52)) (by decide +kernel) rfl
theorem my_X11_week : xMY mX11_week 0 := ⟨x_tb (tb1 14 (by decide +kernel)) rfl, x_tb (tb7 194 (by decide +kernel)) rfl, by decide +kernel, by decide⟩
theorem mi_X11_week : Cond.instanceMethod yX11_week ∈ xTB := x_tb (tb7 192 (by decide +kernel)) rfl
theorem me_X11_week : Cond.selects yX11_week.cls yX11_week yX11_week ∈ xTB := x_tb (tb7 193 (by decide +kernel)) rfl
theorem my_X11_copies : xMY mX11_copies 0 := ⟨x_tb (tb1 14 (by decide +kernel)) rfl, x_tb (tb7 235 (by decide +kernel)) rfl, by decide +kernel, by decide⟩
theorem mi_X11_copies : Cond.instanceMethod yX11_copies ∈ xTB := x_tb (tb7 234 (by decide +kernel)) rfl
theorem me_X11_copies : Cond.selects yX11_copies.cls yX11_copies yX11_copies ∈ xTB := x_sel 130 (q := (yX11_copies, 52)) (by decide +kernel) rfl
theorem my_X11_laysLine : xMY mX11_laysLine 0 := ⟨x_tb (tb1 14 (by decide +kernel)) rfl, x_tb (tb7 211 (by decide +kernel)) rfl, by decide +kernel, by decide⟩
theorem mi_X11_laysLine : Cond.instanceMethod yX11_laysLine ∈ xTB := x_tb (tb7 210 (by decide +kernel)) rfl
theorem me_X11_laysLine : Cond.selects yX11_laysLine.cls yX11_laysLine yX11_laysLine ∈ xTB := x_sel 128 (q := (yX11_laysLine, 52)) (by decide +kernel) rfl
theorem my_X11_order : xMY mX11_order 0 := ⟨x_tb (tb1 14 (by decide +kernel)) rfl, x_tb (tb7 207 (by decide +kernel)) rfl, by decide +kernel, by decide⟩
theorem mi_X11_order : Cond.instanceMethod yX11_order ∈ xTB := x_tb (tb7 205 (by decide +kernel)) rfl
theorem me_X11_order : Cond.selects yX11_order.cls yX11_order yX11_order ∈ xTB := x_tb (tb7 206 (by decide +kernel)) rfl
theorem my_X11_clashes : xMY mX11_clashes 0 := ⟨x_tb (tb1 14 (by decide +kernel)) rfl, x_tb (tb7 215 (by decide +kernel)) rfl, by decide +kernel, by decide⟩
theorem mi_X11_clashes : Cond.instanceMethod yX11_clashes ∈ xTB := x_tb (tb7 213 (by decide +kernel)) rfl
theorem me_X11_clashes : Cond.selects yX11_clashes.cls yX11_clashes yX11_clashes ∈ xTB := x_tb (tb7 214 (by decide +kernel)) rfl
theorem my_X11_laysBusy : xMY mX11_laysBusy 1 := ⟨x_tb (tb1 14 (by decide +kernel)) rfl, x_tb (tb7 223 (by decide +kernel)) rfl, by decide +kernel, by decide⟩
theorem mi_X11_laysBusy : Cond.instanceMethod yX11_laysBusy ∈ xTB := x_tb (tb7 222 (by decide +kernel)) rfl
theorem me_X11_laysBusy : Cond.selects yX11_laysBusy.cls yX11_laysBusy yX11_laysBusy ∈ xTB := x_sel 129 (q := (yX11_laysBusy, 52)) (by decide +kernel) rfl
theorem my_X11_span : xMY mX11_span 0 := ⟨x_tb (tb1 14 (by decide +kernel)) rfl, x_tb (tb7 219 (by decide +kernel)) rfl, by decide +kernel, by decide⟩
theorem mi_X11_span : Cond.instanceMethod yX11_span ∈ xTB := x_tb (tb7 217 (by decide +kernel)) rfl
theorem me_X11_span : Cond.selects yX11_span.cls yX11_span yX11_span ∈ xTB := x_tb (tb7 218 (by decide +kernel)) rfl
theorem my_X11_lane : xMY mX11_lane 1 := ⟨x_tb (tb1 14 (by decide +kernel)) rfl, x_tb (tb7 227 (by decide +kernel)) rfl, by decide +kernel, by decide⟩
theorem mi_X11_lane : Cond.instanceMethod yX11_lane ∈ xTB := x_tb (tb7 225 (by decide +kernel)) rfl
theorem me_X11_lane : Cond.selects yX11_lane.cls yX11_lane yX11_lane ∈ xTB := x_tb (tb7 226 (by decide +kernel)) rfl
theorem my_X11_ahead : xMY mX11_ahead 1 := ⟨x_tb (tb1 14 (by decide +kernel)) rfl, x_tb (tb7 231 (by decide +kernel)) rfl, by decide +kernel, by decide⟩
theorem mi_X11_ahead : Cond.instanceMethod yX11_ahead ∈ xTB := x_tb (tb7 229 (by decide +kernel)) rfl
theorem me_X11_ahead : Cond.selects yX11_ahead.cls yX11_ahead yX11_ahead ∈ xTB := x_tb (tb7 230 (by decide +kernel)) rfl
theorem my_X11_quiet : xMY mX11_quiet 0 := ⟨x_tb (tb1 14 (by decide +kernel)) rfl, x_tb (tb7 239 (by decide +kernel)) rfl, by decide +kernel, by decide⟩
theorem mi_X11_quiet : Cond.instanceMethod yX11_quiet ∈ xTB := x_tb (tb7 237 (by decide +kernel)) rfl
theorem me_X11_quiet : Cond.selects yX11_quiet.cls yX11_quiet yX11_quiet ∈ xTB := x_tb (tb7 238 (by decide +kernel)) rfl
theorem my_X11_lasts : xMY mX11_lasts 0 := ⟨x_tb (tb1 14 (by decide +kernel)) rfl, x_tb (tb8 3 (by decide +kernel)) rfl, by decide +kernel, by decide⟩
theorem mi_X11_lasts : Cond.instanceMethod yX11_lasts ∈ xTB := x_tb (tb8 1 (by decide +kernel)) rfl
theorem me_X11_lasts : Cond.selects yX11_lasts.cls yX11_lasts yX11_lasts ∈ xTB := x_tb (tb8 2 (by decide +kernel)) rfl
theorem my_X11_laysFoes : xMY mX11_laysFoes 0 := ⟨x_tb (tb1 14 (by decide +kernel)) rfl, x_tb (tb8 11 (by decide +kernel)) rfl, by decide +kernel, by decide⟩
theorem mi_X11_laysFoes : Cond.instanceMethod yX11_laysFoes ∈ xTB := x_tb (tb8 10 (by decide +kernel)) rfl
theorem me_X11_laysFoes : Cond.selects yX11_laysFoes.cls yX11_laysFoes yX11_laysFoes ∈ xTB := x_sel 131 (q := (yX11_laysFoes, 52)) (by decide +kernel) rfl
theorem my_X11_isPeace : xMY mX11_isPeace 1 := ⟨x_tb (tb1 14 (by decide +kernel)) rfl, x_tb (tb8 18 (by decide +kernel)) rfl, by decide +kernel, by decide⟩
theorem mi_X11_isPeace : Cond.instanceMethod yX11_isPeace ∈ xTB := x_tb (tb8 17 (by decide +kernel)) rfl
theorem me_X11_isPeace : Cond.selects yX11_isPeace.cls yX11_isPeace yX11_isPeace ∈ xTB := x_sel 132 (q := (yX11_isPeace, 52)) (by decide +kernel) rfl
theorem my_X11_isFewer : xMY mX11_isFewer 2 := ⟨x_tb (tb1 14 (by decide +kernel)) rfl, x_tb (tb8 14 (by decide +kernel)) rfl, by decide +kernel, by decide⟩
theorem ms_X11_isFewer : Cond.static yX11_isFewer ∈ xTB := x_tb (tb8 13 (by decide +kernel)) rfl
theorem my_X11_fewest : xMY mX11_fewest 0 := ⟨x_tb (tb1 14 (by decide +kernel)) rfl, x_tb (tb8 7 (by decide +kernel)) rfl, by decide +kernel, by decide⟩
theorem mi_X11_fewest : Cond.instanceMethod yX11_fewest ∈ xTB := x_tb (tb8 5 (by decide +kernel)) rfl
theorem me_X11_fewest : Cond.selects yX11_fewest.cls yX11_fewest yX11_fewest ∈ xTB := x_tb (tb8 6 (by decide +kernel)) rfl
theorem my_X11_lengthOf : xMY mX11_lengthOf 1 := ⟨x_tb (tb1 14 (by decide +kernel)) rfl, x_tb (tb8 29 (by decide +kernel)) rfl, by decide +kernel, by decide⟩
theorem mi_X11_lengthOf : Cond.instanceMethod yX11_lengthOf ∈ xTB := x_tb (tb8 28 (by decide +kernel)) rfl
theorem me_X11_lengthOf : Cond.selects yX11_lengthOf.cls yX11_lengthOf yX11_lengthOf ∈ xTB := x_sel 133 (q := (yX11_lengthOf, 52)) (by decide +kernel) rfl
theorem my_X11_longest : xMY mX11_longest 0 := ⟨x_tb (tb1 14 (by decide +kernel)) rfl, x_tb (tb8 25 (by decide +kernel)) rfl, by decide +kernel, by decide⟩
theorem mi_X11_longest : Cond.instanceMethod yX11_longest ∈ xTB := x_tb (tb8 23 (by decide +kernel)) rfl
theorem me_X11_longest : Cond.selects yX11_longest.cls yX11_longest yX11_longest ∈ xTB := x_tb (tb8 24 (by decide +kernel)) rfl
theorem my_X11_best : xMY mX11_best 0 := ⟨x_tb (tb1 14 (by decide +kernel)) rfl, x_tb (tb8 33 (by decide +kernel)) rfl, by decide +kernel, by decide⟩
theorem mi_X11_best : Cond.instanceMethod yX11_best ∈ xTB := x_tb (tb8 31 (by decide +kernel)) rfl
theorem me_X11_best : Cond.selects yX11_best.cls yX11_best yX11_best ∈ xTB := x_tb (tb8 32 (by decide +kernel)) rfl
theorem my_X11_middle : xMY mX11_middle 0 := ⟨x_tb (tb1 14 (by decide +kernel)) rfl, x_tb (tb8 38 (by decide +kernel)) rfl, by decide +kernel, by decide⟩
theorem mi_X11_middle : Cond.instanceMethod yX11_middle ∈ xTB := x_tb (tb8 36 (by decide +kernel)) rfl
theorem me_X11_middle : Cond.selects yX11_middle.cls yX11_middle yX11_middle ∈ xTB := x_tb (tb8 37 (by decide +kernel)) rfl
theorem my_X11_holds : xMY mX11_holds 1 := ⟨x_tb (tb1 14 (by decide +kernel)) rfl, x_tb (tb8 42 (by decide +kernel)) rfl, by decide +kernel, by decide⟩
theorem mi_X11_holds : Cond.instanceMethod yX11_holds ∈ xTB := x_tb (tb8 40 (by decide +kernel)) rfl
theorem me_X11_holds : Cond.selects yX11_holds.cls yX11_holds yX11_holds ∈ xTB := x_tb (tb8 41 (by decide +kernel)) rfl
theorem my_X11_isFree : xMY mX11_isFree 2 := ⟨x_tb (tb1 14 (by decide +kernel)) rfl, x_tb (tb8 50 (by decide +kernel)) rfl, by decide +kernel, by decide⟩
theorem mi_X11_isFree : Cond.instanceMethod yX11_isFree ∈ xTB := x_tb (tb8 49 (by decide +kernel)) rfl
theorem me_X11_isFree : Cond.selects yX11_isFree.cls yX11_isFree yX11_isFree ∈ xTB := x_sel 134 (q := (yX11_isFree, 52)) (by decide +kernel) rfl
theorem my_X11_hands : xMY mX11_hands 0 := ⟨x_tb (tb1 14 (by decide +kernel)) rfl, x_tb (tb8 46 (by decide +kernel)) rfl, by decide +kernel, by decide⟩
theorem mi_X11_hands : Cond.instanceMethod yX11_hands ∈ xTB := x_tb (tb8 44 (by decide +kernel)) rfl
theorem me_X11_hands : Cond.selects yX11_hands.cls yX11_hands yX11_hands ∈ xTB := x_tb (tb8 45 (by decide +kernel)) rfl
theorem my_X11_echo : xMY mX11_echo 1 := ⟨x_tb (tb1 14 (by decide +kernel)) rfl, x_tb (tb8 54 (by decide +kernel)) rfl, by decide +kernel, by decide⟩
theorem mi_X11_echo : Cond.instanceMethod yX11_echo ∈ xTB := x_tb (tb8 52 (by decide +kernel)) rfl
theorem me_X11_echo : Cond.selects yX11_echo.cls yX11_echo yX11_echo ∈ xTB := x_tb (tb8 53 (by decide +kernel)) rfl
theorem my_X11_together : xMY mX11_together 0 := ⟨x_tb (tb1 14 (by decide +kernel)) rfl, x_tb (tb8 58 (by decide +kernel)) rfl, by decide +kernel, by decide⟩
theorem mi_X11_together : Cond.instanceMethod yX11_together ∈ xTB := x_tb (tb8 56 (by decide +kernel)) rfl
theorem me_X11_together : Cond.selects yX11_together.cls yX11_together yX11_together ∈ xTB := x_tb (tb8 57 (by decide +kernel)) rfl
theorem my_X11_heard : xMY mX11_heard 2 := ⟨x_tb (tb1 14 (by decide +kernel)) rfl, x_tb (tb8 62 (by decide +kernel)) rfl, by decide +kernel, by decide⟩
theorem mi_X11_heard : Cond.instanceMethod yX11_heard ∈ xTB := x_tb (tb8 60 (by decide +kernel)) rfl
theorem me_X11_heard : Cond.selects yX11_heard.cls yX11_heard yX11_heard ∈ xTB := x_tb (tb8 61 (by decide +kernel)) rfl
theorem my_X11_forget : xMY mX11_forget 0 := ⟨x_tb (tb1 14 (by decide +kernel)) rfl, x_tb (tb8 67 (by decide +kernel)) rfl, by decide +kernel, by decide⟩
theorem mi_X11_forget : Cond.instanceMethod yX11_forget ∈ xTB := x_tb (tb8 65 (by decide +kernel)) rfl
theorem me_X11_forget : Cond.selects yX11_forget.cls yX11_forget yX11_forget ∈ xTB := x_tb (tb8 66 (by decide +kernel)) rfl
theorem my_X11_isSo : xMY mX11_isSo 1 := ⟨x_tb (tb1 14 (by decide +kernel)) rfl, x_tb (tb8 75 (by decide +kernel)) rfl, by decide +kernel, by decide⟩
theorem mi_X11_isSo : Cond.instanceMethod yX11_isSo ∈ xTB := x_tb (tb8 74 (by decide +kernel)) rfl
theorem me_X11_isSo : Cond.selects yX11_isSo.cls yX11_isSo yX11_isSo ∈ xTB := x_sel 135 (q := (yX11_isSo, 52)) (by decide +kernel) rfl
theorem my_X11_fits : xMY mX11_fits 0 := ⟨x_tb (tb1 14 (by decide +kernel)) rfl, x_tb (tb8 71 (by decide +kernel)) rfl, by decide +kernel, by decide⟩
theorem mi_X11_fits : Cond.instanceMethod yX11_fits ∈ xTB := x_tb (tb8 69 (by decide +kernel)) rfl
theorem me_X11_fits : Cond.selects yX11_fits.cls yX11_fits yX11_fits ∈ xTB := x_tb (tb8 70 (by decide +kernel)) rfl
theorem my_X11_asks : xMY mX11_asks 0 := ⟨x_tb (tb1 14 (by decide +kernel)) rfl, x_tb (tb8 79 (by decide +kernel)) rfl, by decide +kernel, by decide⟩
theorem mi_X11_asks : Cond.instanceMethod yX11_asks ∈ xTB := x_tb (tb8 77 (by decide +kernel)) rfl
theorem me_X11_asks : Cond.selects yX11_asks.cls yX11_asks yX11_asks ∈ xTB := x_tb (tb8 78 (by decide +kernel)) rfl
theorem my_X11_menders : xMY mX11_menders 1 := ⟨x_tb (tb1 14 (by decide +kernel)) rfl, x_tb (tb8 83 (by decide +kernel)) rfl, by decide +kernel, by decide⟩
theorem mi_X11_menders : Cond.instanceMethod yX11_menders ∈ xTB := x_tb (tb8 81 (by decide +kernel)) rfl
theorem me_X11_menders : Cond.selects yX11_menders.cls yX11_menders yX11_menders ∈ xTB := x_tb (tb8 82 (by decide +kernel)) rfl
theorem my_X11_apart : xMY mX11_apart 0 := ⟨x_tb (tb1 14 (by decide +kernel)) rfl, x_tb (tb8 88 (by decide +kernel)) rfl, by decide +kernel, by decide⟩
theorem mi_X11_apart : Cond.instanceMethod yX11_apart ∈ xTB := x_tb (tb8 86 (by decide +kernel)) rfl
theorem me_X11_apart : Cond.selects yX11_apart.cls yX11_apart yX11_apart ∈ xTB := x_tb (tb8 87 (by decide +kernel)) rfl
theorem my_X11_misfires : xMY mX11_misfires 3 := ⟨x_tb (tb1 14 (by decide +kernel)) rfl, x_tb (tb8 92 (by decide +kernel)) rfl, by decide +kernel, by decide⟩
theorem mi_X11_misfires : Cond.instanceMethod yX11_misfires ∈ xTB := x_tb (tb8 90 (by decide +kernel)) rfl
theorem me_X11_misfires : Cond.selects yX11_misfires.cls yX11_misfires yX11_misfires ∈ xTB := x_tb (tb8 91 (by decide +kernel)) rfl
theorem my_X11_place : xMY mX11_place 2 := ⟨x_tb (tb1 14 (by decide +kernel)) rfl, x_tb (tb8 113 (by decide +kernel)) rfl, by decide +kernel, by decide⟩
theorem ms_X11_place : Cond.static yX11_place ∈ xTB := x_tb (tb8 112 (by decide +kernel)) rfl
theorem my_X11_isGood : xMY mX11_isGood 4 := ⟨x_tb (tb1 14 (by decide +kernel)) rfl, x_tb (tb8 110 (by decide +kernel)) rfl, by decide +kernel, by decide⟩
theorem mi_X11_isGood : Cond.instanceMethod yX11_isGood ∈ xTB := x_tb (tb8 109 (by decide +kernel)) rfl
theorem me_X11_isGood : Cond.selects yX11_isGood.cls yX11_isGood yX11_isGood ∈ xTB := x_sel 137 (q := (yX11_isGood, 52)) (by decide +kernel) rfl
theorem my_X11_forts : xMY mX11_forts 2 := ⟨x_tb (tb1 14 (by decide +kernel)) rfl, x_tb (tb8 105 (by decide +kernel)) rfl, by decide +kernel, by decide⟩
theorem mi_X11_forts : Cond.instanceMethod yX11_forts ∈ xTB := x_tb (tb8 103 (by decide +kernel)) rfl
theorem me_X11_forts : Cond.selects yX11_forts.cls yX11_forts yX11_forts ∈ xTB := x_tb (tb8 104 (by decide +kernel)) rfl
theorem my_X11_law : xMY mX11_law 0 := ⟨x_tb (tb1 14 (by decide +kernel)) rfl, x_tb (tb8 117 (by decide +kernel)) rfl, by decide +kernel, by decide⟩
theorem mi_X11_law : Cond.instanceMethod yX11_law ∈ xTB := x_tb (tb8 115 (by decide +kernel)) rfl
theorem me_X11_law : Cond.selects yX11_law.cls yX11_law yX11_law ∈ xTB := x_tb (tb8 116 (by decide +kernel)) rfl
theorem my_X11_gets : xMY mX11_gets 3 := ⟨x_tb (tb1 14 (by decide +kernel)) rfl, x_tb (tb8 127 (by decide +kernel)) rfl, by decide +kernel, by decide⟩
theorem ms_X11_gets : Cond.static yX11_gets ∈ xTB := x_tb (tb8 126 (by decide +kernel)) rfl
theorem my_X11_isRest : xMY mX11_isRest 3 := ⟨x_tb (tb1 14 (by decide +kernel)) rfl, x_tb (tb8 124 (by decide +kernel)) rfl, by decide +kernel, by decide⟩
theorem ms_X11_isRest : Cond.static yX11_isRest ∈ xTB := x_tb (tb8 123 (by decide +kernel)) rfl
theorem my_X11_rests : xMY mX11_rests 1 := ⟨x_tb (tb1 14 (by decide +kernel)) rfl, x_tb (tb8 121 (by decide +kernel)) rfl, by decide +kernel, by decide⟩
theorem mi_X11_rests : Cond.instanceMethod yX11_rests ∈ xTB := x_tb (tb8 119 (by decide +kernel)) rfl
theorem me_X11_rests : Cond.selects yX11_rests.cls yX11_rests yX11_rests ∈ xTB := x_tb (tb8 120 (by decide +kernel)) rfl
theorem my_X11_draws : xMY mX11_draws 1 := ⟨x_tb (tb1 14 (by decide +kernel)) rfl, x_tb (tb8 135 (by decide +kernel)) rfl, by decide +kernel, by decide⟩
theorem mi_X11_draws : Cond.instanceMethod yX11_draws ∈ xTB := x_tb (tb8 134 (by decide +kernel)) rfl
theorem me_X11_draws : Cond.selects yX11_draws.cls yX11_draws yX11_draws ∈ xTB := x_sel 138 (q := (yX11_draws, 52)) (by decide +kernel) rfl
theorem my_X11_years : xMY mX11_years 2 := ⟨x_tb (tb1 14 (by decide +kernel)) rfl, x_tb (tb8 131 (by decide +kernel)) rfl, by decide +kernel, by decide⟩
theorem mi_X11_years : Cond.instanceMethod yX11_years ∈ xTB := x_tb (tb8 129 (by decide +kernel)) rfl
theorem me_X11_years : Cond.selects yX11_years.cls yX11_years yX11_years ∈ xTB := x_tb (tb8 130 (by decide +kernel)) rfl
theorem my_X11_keep : xMY mX11_keep 1 := ⟨x_tb (tb1 14 (by decide +kernel)) rfl, x_tb (tb8 140 (by decide +kernel)) rfl, by decide +kernel, by decide⟩
theorem mi_X11_keep : Cond.instanceMethod yX11_keep ∈ xTB := x_tb (tb8 138 (by decide +kernel)) rfl
theorem me_X11_keep : Cond.selects yX11_keep.cls yX11_keep yX11_keep ∈ xTB := x_tb (tb8 139 (by decide +kernel)) rfl
theorem my_X11_again : xMY mX11_again 1 := ⟨x_tb (tb1 14 (by decide +kernel)) rfl, x_tb (tb8 145 (by decide +kernel)) rfl, by decide +kernel, by decide⟩
theorem mi_X11_again : Cond.instanceMethod yX11_again ∈ xTB := x_tb (tb8 143 (by decide +kernel)) rfl
theorem me_X11_again : Cond.selects yX11_again.cls yX11_again yX11_again ∈ xTB := x_tb (tb8 144 (by decide +kernel)) rfl
theorem my_X11_count : xMY mX11_count 1 := ⟨x_tb (tb1 14 (by decide +kernel)) rfl, x_tb (tb8 149 (by decide +kernel)) rfl, by decide +kernel, by decide⟩
theorem mi_X11_count : Cond.instanceMethod yX11_count ∈ xTB := x_tb (tb8 147 (by decide +kernel)) rfl
theorem me_X11_count : Cond.selects yX11_count.cls yX11_count yX11_count ∈ xTB := x_tb (tb8 148 (by decide +kernel)) rfl
theorem my_X11_row : xMY mX11_row 1 := ⟨x_tb (tb1 14 (by decide +kernel)) rfl, x_tb (tb8 153 (by decide +kernel)) rfl, by decide +kernel, by decide⟩
theorem mi_X11_row : Cond.instanceMethod yX11_row ∈ xTB := x_tb (tb8 151 (by decide +kernel)) rfl
theorem me_X11_row : Cond.selects yX11_row.cls yX11_row yX11_row ∈ xTB := x_tb (tb8 152 (by decide +kernel)) rfl
theorem ml_X7_39 : xMV RX7 39 7 0 mX7_takeFirst := ⟨Or.inl (x_tb (tb1 87 (by decide +kernel)) rfl), my_X7_takeFirst, mi_X7_takeFirst, me_X7_takeFirst, rfl⟩
theorem ml_L_26 : xMV RL 26 10 1 mX10_sign := ⟨Or.inl (x_tb (tb2 107 (by decide +kernel)) rfl), my_X10_sign, mi_X10_sign, me_X10_sign, rfl⟩
theorem ml_X10_108 : xMV RX10 108 8 1 mX8_add := ⟨Or.inr ⟨"NoonGun", x_nw (tb2 111 (by decide +kernel)) rfl⟩, my_X8_add, mi_X8_add, me_X8_add, rfl⟩
theorem ml_L_31 : xMV RL 31 10 1 mX10_end := ⟨Or.inl (x_tb (tb2 115 (by decide +kernel)) rfl), my_X10_end, mi_X10_end, me_X10_end, rfl⟩
theorem ml_X10_115 : xMV RX10 115 8 1 mX8_cut := ⟨Or.inr ⟨"NoonGun", x_nw (tb2 119 (by decide +kernel)) rfl⟩, my_X8_cut, mi_X8_cut, me_X8_cut, rfl⟩
theorem ml_L_36 : xMV RL 36 10 0 mX10_houses := ⟨Or.inl (x_tb (tb2 123 (by decide +kernel)) rfl), my_X10_houses, mi_X10_houses, me_X10_houses, rfl⟩
theorem ml_X10_118 : xMV RX10 118 10 0 mX10_readHouses := ⟨Or.inl (x_tb (tb2 127 (by decide +kernel)) rfl), my_X10_readHouses, mi_X10_readHouses, me_X10_readHouses, rfl⟩
theorem ml_X10_413 : xMV RX10 413 10 1 mX10_fitsHouse := ⟨Or.inl (x_tb (tb2 131 (by decide +kernel)) rfl), my_X10_fitsHouse, mi_X10_fitsHouse, me_X10_fitsHouse, rfl⟩
theorem ml_X10_416 : xMV RX10 416 8 1 mX8_digit := ⟨Or.inr ⟨"NoonGun", x_nw (tb2 135 (by decide +kernel)) rfl⟩, my_X8_digit, mi_X8_digit, me_X8_digit, rfl⟩
theorem ml_X8_19 : xMV RX8 19 8 1 mX8_at := ⟨Or.inl (x_tb (tb2 139 (by decide +kernel)) rfl), my_X8_at, mi_X8_at, me_X8_at, rfl⟩
theorem ml_X10_230 : xMV RX10 230 8 1 mX8_at := ⟨Or.inr ⟨"NoonGun", x_nw (tb2 143 (by decide +kernel)) rfl⟩, my_X8_at, mi_X8_at, me_X8_at, rfl⟩
theorem ml_X10_122 : xMV RX10 122 10 0 mX10_forgetPast := ⟨Or.inl (x_tb (tb2 144 (by decide +kernel)) rfl), my_X10_forgetPast, mi_X10_forgetPast, me_X10_forgetPast, rfl⟩
theorem ml_X10_401 : xMV RX10 401 3 0 mX3_drop := ⟨Or.inr ⟨"NoonGun", x_nw (tb2 148 (by decide +kernel)) rfl⟩, my_X3_drop, mi_X3_drop, me_X3_drop, rfl⟩
theorem ml_X10_125 : xMV RX10 125 8 0 mX8_clear := ⟨Or.inr ⟨"NoonGun", x_nw (tb2 152 (by decide +kernel)) rfl⟩, my_X8_clear, mi_X8_clear, me_X8_clear, rfl⟩
theorem ml_L_41 : xMV RL 41 10 0 mX10_deeds := ⟨Or.inl (x_tb (tb2 156 (by decide +kernel)) rfl), my_X10_deeds, mi_X10_deeds, me_X10_deeds, rfl⟩
theorem ml_X10_128 : xMV RX10 128 10 0 mX10_readDeeds := ⟨Or.inl (x_tb (tb2 160 (by decide +kernel)) rfl), my_X10_readDeeds, mi_X10_readDeeds, me_X10_readDeeds, rfl⟩
theorem ml_X10_419 : xMV RX10 419 10 3 mX10_fitsDeed := ⟨Or.inl (x_tb (tb2 164 (by decide +kernel)) rfl), my_X10_fitsDeed, mi_X10_fitsDeed, me_X10_fitsDeed, rfl⟩
theorem ml_X10_142 : xMV RX10 142 10 1 mX10_isHouse := ⟨Or.inl (x_tb (tb2 171 (by decide +kernel)) rfl), my_X10_isHouse, mi_X10_isHouse, me_X10_isHouse, rfl⟩
theorem ml_L_45 : xMV RL 45 10 0 mX10_winds := ⟨Or.inl (x_tb (tb2 175 (by decide +kernel)) rfl), my_X10_winds, mi_X10_winds, me_X10_winds, rfl⟩
theorem ml_X10_134 : xMV RX10 134 10 1 mX10_readDigits := ⟨Or.inl (x_tb (tb2 179 (by decide +kernel)) rfl), my_X10_readDigits, mi_X10_readDigits, me_X10_readDigits, rfl⟩
theorem ml_X10_422 : xMV RX10 422 1 1 mX1_read := ⟨Or.inr ⟨"NoonGun", x_nw (tb2 183 (by decide +kernel)) rfl⟩, my_X1_read, mi_X1_read, me_X1_read, rfl⟩
theorem ml_X1_24 : xMV RX1 24 8 1 mX8_digit := ⟨Or.inr ⟨"NoonGun", x_nw (tb2 187 (by decide +kernel)) rfl⟩, my_X8_digit, mi_X8_digit, me_X8_digit, rfl⟩
theorem ml_L_49 : xMV RL 49 10 0 mX10_damps := ⟨Or.inl (x_tb (tb2 188 (by decide +kernel)) rfl), my_X10_damps, mi_X10_damps, me_X10_damps, rfl⟩
theorem ml_L_53 : xMV RL 53 10 0 mX10_rule := ⟨Or.inl (x_tb (tb2 192 (by decide +kernel)) rfl), my_X10_rule, mi_X10_rule, me_X10_rule, rfl⟩
theorem ml_X10_138 : xMV RX10 138 7 1 mX7_read := ⟨Or.inr ⟨"NoonGun", x_nw (tb2 196 (by decide +kernel)) rfl⟩, my_X7_read, mi_X7_read, me_X7_read, rfl⟩
theorem ml_X7_56 : xMV RX7 56 8 1 mX8_at := ⟨Or.inr ⟨"NoonGun", x_nw (tb2 200 (by decide +kernel)) rfl⟩, my_X8_at, mi_X8_at, me_X8_at, rfl⟩
theorem ml_X7_60 : xMV RX7 60 7 1 mX7_accepts := ⟨Or.inl (x_tb (tb2 201 (by decide +kernel)) rfl), my_X7_accepts, mi_X7_accepts, me_X7_accepts, rfl⟩
theorem ml_X7_68 : xMV RX7 68 7 1 mX7_beginsThing := ⟨Or.inl (x_tb (tb2 205 (by decide +kernel)) rfl), my_X7_beginsThing, mi_X7_beginsThing, me_X7_beginsThing, rfl⟩
theorem ml_X7_81 : xMV RX7 81 7 1 mX7_await := ⟨Or.inl (x_tb (tb2 209 (by decide +kernel)) rfl), my_X7_await, mi_X7_await, me_X7_await, rfl⟩
theorem ml_X7_93 : xMV RX7 93 7 1 mX7_step := ⟨Or.inl (x_tb (tb3 49 (by decide +kernel)) rfl), my_X7_step, mi_X7_step, me_X7_step, rfl⟩
theorem ml_X7_71 : xMV RX7 71 7 1 mX7_goesOnNumber := ⟨Or.inl (x_tb (tb3 53 (by decide +kernel)) rfl), my_X7_goesOnNumber, mi_X7_goesOnNumber, me_X7_goesOnNumber, rfl⟩
theorem ml_X7_74 : xMV RX7 74 7 0 mX7_closes := ⟨Or.inl (x_tb (tb3 57 (by decide +kernel)) rfl), my_X7_closes, mi_X7_closes, me_X7_closes, rfl⟩
theorem ml_X7_64 : xMV RX7 64 7 1 mX7_settle := ⟨Or.inl (x_tb (tb3 61 (by decide +kernel)) rfl), my_X7_settle, mi_X7_settle, me_X7_settle, rfl⟩
theorem ml_X7_106 : xMV RX7 106 7 0 mX7_lastWaiting := ⟨Or.inl (x_tb (tb3 65 (by decide +kernel)) rfl), my_X7_lastWaiting, mi_X7_lastWaiting, me_X7_lastWaiting, rfl⟩
theorem ml_X7_96 : xMS RX7 96 1 mX7_binding := ⟨Or.inl (x_tb (tb3 69 (by decide +kernel)) rfl), my_X7_binding, ms_X7_binding⟩
theorem ml_X7_78 : xMV RX7 78 7 1 mX7_joins := ⟨Or.inl (x_tb (tb3 72 (by decide +kernel)) rfl), my_X7_joins, mi_X7_joins, me_X7_joins, rfl⟩
theorem ml_L_69 : xMV RL 69 10 4 mX10_sheet := ⟨Or.inl (x_tb (tb3 77 (by decide +kernel)) rfl), my_X10_sheet, mi_X10_sheet, me_X10_sheet, rfl⟩
theorem ml_X10_191 : xMS RX10 191 2 mX10_entry := ⟨Or.inl (x_tb (tb3 81 (by decide +kernel)) rfl), my_X10_entry, ms_X10_entry⟩
theorem ml_X10_195 : xMS RX10 195 1 mX10_lengthOf := ⟨Or.inl (x_tb (tb3 84 (by decide +kernel)) rfl), my_X10_lengthOf, ms_X10_lengthOf⟩
theorem ml_L_74 : xMV RL 74 10 1 mX10_days := ⟨Or.inl (x_tb (tb3 88 (by decide +kernel)) rfl), my_X10_days, mi_X10_days, me_X10_days, rfl⟩
theorem ml_X10_198 : xMV RX10 198 3 1 mX3_note := ⟨Or.inr ⟨"NoonGun", x_nw (tb3 92 (by decide +kernel)) rfl⟩, my_X3_note, mi_X3_note, me_X3_note, rfl⟩
theorem ml_X3_23 : xMV RX3 23 9 1 mX9_copy := ⟨Or.inr ⟨"NoonGun", x_nw (tb3 96 (by decide +kernel)) rfl⟩, my_X9_copy, mi_X9_copy, me_X9_copy, rfl⟩
theorem ml_X10_202 : xMV RX10 202 10 1 mX10_passDays := ⟨Or.inl (x_tb (tb3 101 (by decide +kernel)) rfl), my_X10_passDays, mi_X10_passDays, me_X10_passDays, rfl⟩
theorem ml_X10_389 : xMV RX10 389 10 0 mX10_passDay := ⟨Or.inl (x_tb (tb3 105 (by decide +kernel)) rfl), my_X10_passDay, mi_X10_passDay, me_X10_passDay, rfl⟩
theorem ml_X10_305 : xMV RX10 305 10 3 mX10_planFor := ⟨Or.inl (x_tb (tb3 109 (by decide +kernel)) rfl), my_X10_planFor, mi_X10_planFor, me_X10_planFor, rfl⟩
theorem ml_X10_280 : xMV RX10 280 1 1 mX1_of := ⟨Or.inr ⟨"NoonGun", x_nw (tb3 113 (by decide +kernel)) rfl⟩, my_X1_of, mi_X1_of, me_X1_of, rfl⟩
theorem ml_X10_442 : xMV RX10 442 0 3 mX0_on := ⟨Or.inr ⟨"NoonGun", x_nw (tb3 117 (by decide +kernel)) rfl⟩, my_X0_on, mi_X0_on, me_X0_on, rfl⟩
theorem ml_X10_435 : xMS RX10 435 2 mX10_far := ⟨Or.inl (x_tb (tb3 121 (by decide +kernel)) rfl), my_X10_far, ms_X10_far⟩
theorem ml_X10_446 : xMV RX10 446 0 4 mX0_minute := ⟨Or.inr ⟨"NoonGun", x_nw (tb3 127 (by decide +kernel)) rfl⟩, my_X0_minute, mi_X0_minute, me_X0_minute, rfl⟩
theorem ml_X0_28 : xMV RX0 28 7 1 mX7_delay := ⟨Or.inr ⟨"NoonGun", x_nw (tb3 131 (by decide +kernel)) rfl⟩, my_X7_delay, mi_X7_delay, me_X7_delay, rfl⟩
theorem ml_X7_110 : xMS RX7 110 2 mX7_valueOf := ⟨Or.inl (x_tb (tb3 135 (by decide +kernel)) rfl), my_X7_valueOf, ms_X7_valueOf⟩
theorem ml_X7_114 : xMS RX7 114 3 mX7_reckon := ⟨Or.inl (x_tb (tb3 138 (by decide +kernel)) rfl), my_X7_reckon, ms_X7_reckon⟩
theorem ml_X10_450 : xMV RX10 450 4 2 mX4_begin := ⟨Or.inr ⟨"NoonGun", x_nw (tb3 142 (by decide +kernel)) rfl⟩, my_X4_begin, mi_X4_begin, me_X4_begin, rfl⟩
theorem ml_X10_309 : xMV RX10 309 4 0 mX4_pairs := ⟨Or.inr ⟨"NoonGun", x_nw (tb3 146 (by decide +kernel)) rfl⟩, my_X4_pairs, mi_X4_pairs, me_X4_pairs, rfl⟩
theorem ml_X4_37 : xMV RX4 37 4 2 mX4_collide := ⟨Or.inl (x_tb (tb3 150 (by decide +kernel)) rfl), my_X4_collide, mi_X4_collide, me_X4_collide, rfl⟩
theorem ml_X10_242 : xMV RX10 242 6 2 mX6_tell_ := ⟨Or.inr ⟨"NoonGun", x_nw (tb3 155 (by decide +kernel)) rfl⟩, my_X6_tell_, mi_X6_tell_, me_X6_tell_, rfl⟩
theorem ml_X6_24 : xMV RX6 24 6 1 mX6_tell := ⟨Or.inl (x_tb (tb3 159 (by decide +kernel)) rfl), my_X6_tell, mi_X6_tell, me_X6_tell, rfl⟩
theorem ml_X6_17 : xMV RX6 17 6 0 mX6_clear := ⟨Or.inl (x_tb (tb3 163 (by decide +kernel)) rfl), my_X6_clear, mi_X6_clear, me_X6_clear, rfl⟩
theorem ml_X6_20 : xMV RX6 20 6 1 mX6_add := ⟨Or.inl (x_tb (tb3 167 (by decide +kernel)) rfl), my_X6_add, mi_X6_add, me_X6_add, rfl⟩
theorem ml_X10_205 : xMV RX10 205 10 1 mX10_noted := ⟨Or.inl (x_tb (tb3 171 (by decide +kernel)) rfl), my_X10_noted, mi_X10_noted, me_X10_noted, rfl⟩
theorem ml_X10_237 : xMV RX10 237 3 0 mX3_add := ⟨Or.inr ⟨"NoonGun", x_nw (tb3 175 (by decide +kernel)) rfl⟩, my_X3_add, mi_X3_add, me_X3_add, rfl⟩
theorem ml_L_78 : xMV RL 78 10 1 mX10_buys := ⟨Or.inl (x_tb (tb3 180 (by decide +kernel)) rfl), my_X10_buys, mi_X10_buys, me_X10_buys, rfl⟩
theorem ml_X10_208 : xMV RX10 208 10 1 mX10_buy := ⟨Or.inl (x_tb (tb3 184 (by decide +kernel)) rfl), my_X10_buy, mi_X10_buy, me_X10_buy, rfl⟩
theorem ml_L_82 : xMV RL 82 10 2 mX10_hauls := ⟨Or.inl (x_tb (tb3 188 (by decide +kernel)) rfl), my_X10_hauls, mi_X10_hauls, me_X10_hauls, rfl⟩
theorem ml_X10_211 : xMV RX10 211 10 2 mX10_haul := ⟨Or.inl (x_tb (tb3 192 (by decide +kernel)) rfl), my_X10_haul, mi_X10_haul, me_X10_haul, rfl⟩
theorem ml_X10_432 : xMS RX10 432 2 mX10_placeOf := ⟨Or.inl (x_tb (tb3 196 (by decide +kernel)) rfl), my_X10_placeOf, ms_X10_placeOf⟩
theorem ml_L_86 : xMV RL 86 10 3 mX10_moves := ⟨Or.inl (x_tb (tb3 199 (by decide +kernel)) rfl), my_X10_moves, mi_X10_moves, me_X10_moves, rfl⟩
theorem ml_X10_214 : xMV RX10 214 10 3 mX10_move := ⟨Or.inl (x_tb (tb3 203 (by decide +kernel)) rfl), my_X10_move, mi_X10_move, me_X10_move, rfl⟩
theorem ml_L_91 : xMV RL 91 10 2 mX10_takes := ⟨Or.inl (x_tb (tb3 207 (by decide +kernel)) rfl), my_X10_takes, mi_X10_takes, me_X10_takes, rfl⟩
theorem ml_X10_218 : xMV RX10 218 10 2 mX10_lengthen := ⟨Or.inl (x_tb (tb3 211 (by decide +kernel)) rfl), my_X10_lengthen, mi_X10_lengthen, me_X10_lengthen, rfl⟩
theorem ml_X10_168 : xMV RX10 168 10 1 mX10_isDeed := ⟨Or.inl (x_tb (tb3 215 (by decide +kernel)) rfl), my_X10_isDeed, mi_X10_isDeed, me_X10_isDeed, rfl⟩
theorem ml_L_95 : xMV RL 95 10 2 mX10_hill := ⟨Or.inl (x_tb (tb3 219 (by decide +kernel)) rfl), my_X10_hill, mi_X10_hill, me_X10_hill, rfl⟩
theorem ml_X10_221 : xMV RX10 221 10 2 mX10_setHill := ⟨Or.inl (x_tb (tb3 223 (by decide +kernel)) rfl), my_X10_setHill, mi_X10_setHill, me_X10_setHill, rfl⟩
theorem ml_L_99 : xMV RL 99 10 0 mX10_week := ⟨Or.inl (x_tb (tb3 227 (by decide +kernel)) rfl), my_X10_week, mi_X10_week, me_X10_week, rfl⟩
theorem ml_X10_224 : xMV RX10 224 10 0 mX10_weekMisfit := ⟨Or.inl (x_tb (tb3 231 (by decide +kernel)) rfl), my_X10_weekMisfit, mi_X10_weekMisfit, me_X10_weekMisfit, rfl⟩
theorem ml_X10_233 : xMS RX10 233 1 mX10_digitsOf := ⟨Or.inl (x_tb (tb3 235 (by decide +kernel)) rfl), my_X10_digitsOf, ms_X10_digitsOf⟩
theorem ml_X10_227 : xMV RX10 227 10 1 mX10_doAct := ⟨Or.inl (x_tb (tb3 238 (by decide +kernel)) rfl), my_X10_doAct, mi_X10_doAct, me_X10_doAct, rfl⟩
theorem ml_L_103 : xMV RL 103 10 0 mX10_undo := ⟨Or.inl (x_tb (tb4 2 (by decide +kernel)) rfl), my_X10_undo, mi_X10_undo, me_X10_undo, rfl⟩
theorem ml_X10_246 : xMV RX10 246 3 1 mX3_bringBack := ⟨Or.inr ⟨"NoonGun", x_nw (tb4 6 (by decide +kernel)) rfl⟩, my_X3_bringBack, mi_X3_bringBack, me_X3_bringBack, rfl⟩
theorem ml_X3_33 : xMV RX3 33 3 1 mX3_takeBack := ⟨Or.inl (x_tb (tb4 10 (by decide +kernel)) rfl), my_X3_takeBack, mi_X3_takeBack, me_X3_takeBack, rfl⟩
theorem ml_L_107 : xMV RL 107 10 0 mX10_order := ⟨Or.inl (x_tb (tb4 14 (by decide +kernel)) rfl), my_X10_order, mi_X10_order, me_X10_order, rfl⟩
theorem ml_X10_173 : xMV RX10 173 10 0 mX10_planToday := ⟨Or.inl (x_tb (tb4 18 (by decide +kernel)) rfl), my_X10_planToday, mi_X10_planToday, me_X10_planToday, rfl⟩
theorem ml_X10_251 : xMV RX10 251 4 0 mX4_sort := ⟨Or.inr ⟨"NoonGun", x_nw (tb4 22 (by decide +kernel)) rfl⟩, my_X4_sort, mi_X4_sort, me_X4_sort, rfl⟩
theorem ml_X10_254 : xMV RX10 254 6 0 mX6_clear := ⟨Or.inr ⟨"NoonGun", x_nw (tb4 26 (by decide +kernel)) rfl⟩, my_X6_clear, mi_X6_clear, me_X6_clear, rfl⟩
theorem ml_X10_258 : xMV RX10 258 6 1 mX6_add := ⟨Or.inr ⟨"NoonGun", x_nw (tb4 27 (by decide +kernel)) rfl⟩, my_X6_add, mi_X6_add, me_X6_add, rfl⟩
theorem ml_L_111 : xMV RL 111 10 0 mX10_clashes := ⟨Or.inl (x_tb (tb4 28 (by decide +kernel)) rfl), my_X10_clashes, mi_X10_clashes, me_X10_clashes, rfl⟩
theorem ml_X10_261 : xMV RX10 261 4 2 mX4_collide := ⟨Or.inr ⟨"NoonGun", x_nw (tb4 32 (by decide +kernel)) rfl⟩, my_X4_collide, mi_X4_collide, me_X4_collide, rfl⟩
theorem ml_L_115 : xMV RL 115 10 0 mX10_span := ⟨Or.inl (x_tb (tb4 33 (by decide +kernel)) rfl), my_X10_span, mi_X10_span, me_X10_span, rfl⟩
theorem ml_X10_265 : xMV RX10 265 4 0 mX4_firstMinute := ⟨Or.inr ⟨"NoonGun", x_nw (tb4 37 (by decide +kernel)) rfl⟩, my_X4_firstMinute, mi_X4_firstMinute, me_X4_firstMinute, rfl⟩
theorem ml_X10_268 : xMV RX10 268 4 0 mX4_minuteBehind := ⟨Or.inr ⟨"NoonGun", x_nw (tb4 42 (by decide +kernel)) rfl⟩, my_X4_minuteBehind, mi_X4_minuteBehind, me_X4_minuteBehind, rfl⟩
theorem ml_X10_271 : xMV RX10 271 4 2 mX4_howMany := ⟨Or.inr ⟨"NoonGun", x_nw (tb4 47 (by decide +kernel)) rfl⟩, my_X4_howMany, mi_X4_howMany, me_X4_howMany, rfl⟩
theorem ml_X10_274 : xMV RX10 274 6 3 mX6_tell__ := ⟨Or.inr ⟨"NoonGun", x_nw (tb4 51 (by decide +kernel)) rfl⟩, my_X6_tell__, mi_X6_tell__, me_X6_tell__, rfl⟩
theorem ml_X6_27 : xMV RX6 27 6 2 mX6_tell_ := ⟨Or.inl (x_tb (tb4 55 (by decide +kernel)) rfl), my_X6_tell_, mi_X6_tell_, me_X6_tell_, rfl⟩
theorem ml_L_119 : xMV RL 119 10 1 mX10_lane := ⟨Or.inl (x_tb (tb4 56 (by decide +kernel)) rfl), my_X10_lane, mi_X10_lane, me_X10_lane, rfl⟩
theorem ml_L_123 : xMV RL 123 10 1 mX10_ahead := ⟨Or.inl (x_tb (tb4 60 (by decide +kernel)) rfl), my_X10_ahead, mi_X10_ahead, me_X10_ahead, rfl⟩
theorem ml_X10_283 : xMV RX10 283 10 1 mX10_pairsOn := ⟨Or.inl (x_tb (tb4 64 (by decide +kernel)) rfl), my_X10_pairsOn, mi_X10_pairsOn, me_X10_pairsOn, rfl⟩
theorem ml_L_127 : xMV RL 127 10 0 mX10_quiet := ⟨Or.inl (x_tb (tb4 68 (by decide +kernel)) rfl), my_X10_quiet, mi_X10_quiet, me_X10_quiet, rfl⟩
theorem ml_X10_286 : xMV RX10 286 6 1 mX6_tell := ⟨Or.inr ⟨"NoonGun", x_nw (tb4 72 (by decide +kernel)) rfl⟩, my_X6_tell, mi_X6_tell, me_X6_tell, rfl⟩
theorem ml_L_131 : xMV RL 131 10 0 mX10_lasts := ⟨Or.inl (x_tb (tb4 73 (by decide +kernel)) rfl), my_X10_lasts, mi_X10_lasts, me_X10_lasts, rfl⟩
theorem ml_L_135 : xMV RL 135 10 0 mX10_fewest := ⟨Or.inl (x_tb (tb4 77 (by decide +kernel)) rfl), my_X10_fewest, mi_X10_fewest, me_X10_fewest, rfl⟩
theorem ml_X10_291 : xMV RX10 291 10 0 mX10_findFoes := ⟨Or.inl (x_tb (tb4 81 (by decide +kernel)) rfl), my_X10_findFoes, mi_X10_findFoes, me_X10_findFoes, rfl⟩
theorem ml_X10_188 : xMV RX10 188 4 1 mX4_foes := ⟨Or.inr ⟨"NoonGun", x_nw (tb4 85 (by decide +kernel)) rfl⟩, my_X4_foes, mi_X4_foes, me_X4_foes, rfl⟩
theorem ml_X10_299 : xMV RX10 299 10 1 mX10_isPeaceful := ⟨Or.inl (x_tb (tb4 95 (by decide +kernel)) rfl), my_X10_isPeaceful, mi_X10_isPeaceful, me_X10_isPeaceful, rfl⟩
theorem ml_L_139 : xMV RL 139 10 0 mX10_longest := ⟨Or.inl (x_tb (tb4 99 (by decide +kernel)) rfl), my_X10_longest, mi_X10_longest, me_X10_longest, rfl⟩
theorem ml_X10_302 : xMV RX10 302 10 1 mX10_lengthsOf := ⟨Or.inl (x_tb (tb4 103 (by decide +kernel)) rfl), my_X10_lengthsOf, mi_X10_lengthsOf, me_X10_lengthsOf, rfl⟩
theorem ml_L_143 : xMV RL 143 10 0 mX10_best := ⟨Or.inl (x_tb (tb4 107 (by decide +kernel)) rfl), my_X10_best, mi_X10_best, me_X10_best, rfl⟩
theorem ml_L_147 : xMV RL 147 10 0 mX10_middle := ⟨Or.inl (x_tb (tb4 111 (by decide +kernel)) rfl), my_X10_middle, mi_X10_middle, me_X10_middle, rfl⟩
theorem ml_X10_312 : xMV RX10 312 10 0 mX10_lastMinute := ⟨Or.inl (x_tb (tb4 115 (by decide +kernel)) rfl), my_X10_lastMinute, mi_X10_lastMinute, me_X10_lastMinute, rfl⟩
theorem ml_L_151 : xMV RL 151 10 1 mX10_holds := ⟨Or.inl (x_tb (tb4 119 (by decide +kernel)) rfl), my_X10_holds, mi_X10_holds, me_X10_holds, rfl⟩
theorem ml_X10_315 : xMV RX10 315 4 1 mX4_holdBack := ⟨Or.inr ⟨"NoonGun", x_nw (tb4 123 (by decide +kernel)) rfl⟩, my_X4_holdBack, mi_X4_holdBack, me_X4_holdBack, rfl⟩
theorem ml_L_155 : xMV RL 155 10 0 mX10_hands := ⟨Or.inl (x_tb (tb4 127 (by decide +kernel)) rfl), my_X10_hands, mi_X10_hands, me_X10_hands, rfl⟩
theorem ml_X10_319 : xMV RX10 319 4 0 mX4_shareOut := ⟨Or.inr ⟨"NoonGun", x_nw (tb4 131 (by decide +kernel)) rfl⟩, my_X4_shareOut, mi_X4_shareOut, me_X4_shareOut, rfl⟩
theorem ml_L_159 : xMV RL 159 10 1 mX10_echo := ⟨Or.inl (x_tb (tb4 135 (by decide +kernel)) rfl), my_X10_echo, mi_X10_echo, me_X10_echo, rfl⟩
theorem ml_X10_162 : xMV RX10 162 10 1 mX10_minuteOfEcho := ⟨Or.inl (x_tb (tb4 139 (by decide +kernel)) rfl), my_X10_minuteOfEcho, mi_X10_minuteOfEcho, me_X10_minuteOfEcho, rfl⟩
theorem ml_L_163 : xMV RL 163 10 0 mX10_together := ⟨Or.inl (x_tb (tb4 143 (by decide +kernel)) rfl), my_X10_together, mi_X10_together, me_X10_together, rfl⟩
theorem ml_X10_328 : xMV RX10 328 10 1 mX10_housesAt := ⟨Or.inl (x_tb (tb4 147 (by decide +kernel)) rfl), my_X10_housesAt, mi_X10_housesAt, me_X10_housesAt, rfl⟩
theorem ml_L_167 : xMV RL 167 10 2 mX10_heard := ⟨Or.inl (x_tb (tb4 151 (by decide +kernel)) rfl), my_X10_heard, mi_X10_heard, me_X10_heard, rfl⟩
theorem ml_X10_331 : xMV RX10 331 5 2 mX5_add := ⟨Or.inr ⟨"NoonGun", x_nw (tb4 155 (by decide +kernel)) rfl⟩, my_X5_add, mi_X5_add, me_X5_add, rfl⟩
theorem ml_L_171 : xMV RL 171 10 0 mX10_forget := ⟨Or.inl (x_tb (tb4 159 (by decide +kernel)) rfl), my_X10_forget, mi_X10_forget, me_X10_forget, rfl⟩
theorem ml_L_175 : xMV RL 175 10 0 mX10_fits := ⟨Or.inl (x_tb (tb4 163 (by decide +kernel)) rfl), my_X10_fits, mi_X10_fits, me_X10_fits, rfl⟩
theorem ml_X10_334 : xMV RX10 334 10 0 mX10_findWeathers := ⟨Or.inl (x_tb (tb4 167 (by decide +kernel)) rfl), my_X10_findWeathers, mi_X10_findWeathers, me_X10_findWeathers, rfl⟩
theorem ml_X10_454 : xMV RX10 454 10 1 mX10_fitsReports := ⟨Or.inl (x_tb (tb4 171 (by decide +kernel)) rfl), my_X10_fitsReports, mi_X10_fitsReports, me_X10_fitsReports, rfl⟩
theorem ml_X10_463 : xMV RX10 463 10 2 mX10_minuteBy := ⟨Or.inl (x_tb (tb4 175 (by decide +kernel)) rfl), my_X10_minuteBy, mi_X10_minuteBy, me_X10_minuteBy, rfl⟩
theorem ml_L_179 : xMV RL 179 10 0 mX10_asks := ⟨Or.inl (x_tb (tb4 179 (by decide +kernel)) rfl), my_X10_asks, mi_X10_asks, me_X10_asks, rfl⟩
theorem ml_X10_340 : xMV RX10 340 10 1 mX10_mostLeft := ⟨Or.inl (x_tb (tb4 183 (by decide +kernel)) rfl), my_X10_mostLeft, mi_X10_mostLeft, me_X10_mostLeft, rfl⟩
theorem ml_X10_473 : xMV RX10 473 5 1 mX5_countMinute := ⟨Or.inr ⟨"NoonGun", x_nw (tb4 190 (by decide +kernel)) rfl⟩, my_X5_countMinute, mi_X5_countMinute, me_X5_countMinute, rfl⟩
theorem ml_L_183 : xMV RL 183 10 1 mX10_menders := ⟨Or.inl (x_tb (tb4 194 (by decide +kernel)) rfl), my_X10_menders, mi_X10_menders, me_X10_menders, rfl⟩
theorem ml_X10_343 : xMV RX10 343 10 1 mX10_findNear := ⟨Or.inl (x_tb (tb4 198 (by decide +kernel)) rfl), my_X10_findNear, mi_X10_findNear, me_X10_findNear, rfl⟩
theorem ml_X10_346 : xMV RX10 346 10 1 mX10_nearOf := ⟨Or.inl (x_tb (tb4 202 (by decide +kernel)) rfl), my_X10_nearOf, mi_X10_nearOf, me_X10_nearOf, rfl⟩
theorem ml_L_187 : xMV RL 187 10 0 mX10_apart := ⟨Or.inl (x_tb (tb4 206 (by decide +kernel)) rfl), my_X10_apart, mi_X10_apart, me_X10_apart, rfl⟩
theorem ml_L_191 : xMV RL 191 10 3 mX10_misfires := ⟨Or.inl (x_tb (tb4 210 (by decide +kernel)) rfl), my_X10_misfires, mi_X10_misfires, me_X10_misfires, rfl⟩
theorem ml_X10_360 : xMV RX10 360 10 2 mX10_fireOnce := ⟨Or.inl (x_tb (tb4 217 (by decide +kernel)) rfl), my_X10_fireOnce, mi_X10_fireOnce, me_X10_fireOnce, rfl⟩
theorem ml_X10_366 : xMV RX10 366 10 1 mX10_sumOfChances := ⟨Or.inl (x_tb (tb4 221 (by decide +kernel)) rfl), my_X10_sumOfChances, mi_X10_sumOfChances, me_X10_sumOfChances, rfl⟩
theorem ml_X10_370 : xMV RX10 370 10 2 mX10_tellFraction := ⟨Or.inl (x_tb (tb4 226 (by decide +kernel)) rfl), my_X10_tellFraction, mi_X10_tellFraction, me_X10_tellFraction, rfl⟩
theorem ml_L_195 : xMV RL 195 10 2 mX10_forts := ⟨Or.inl (x_tb (tb4 230 (by decide +kernel)) rfl), my_X10_forts, mi_X10_forts, me_X10_forts, rfl⟩
theorem ml_X10_373 : xMS RX10 373 2 mX2_isMove := ⟨Or.inr ⟨"NoonGun", x_nw (tb4 234 (by decide +kernel)) rfl⟩, my_X2_isMove, ms_X2_isMove⟩
theorem ml_X10_376 : xMV RX10 376 2 2 mX2_loses := ⟨Or.inr ⟨"NoonGun", x_nw (tb4 237 (by decide +kernel)) rfl⟩, my_X2_loses, mi_X2_loses, me_X2_loses, rfl⟩
theorem ml_X2_17 : xMV RX2 17 2 0 mX2_findLosing := ⟨Or.inl (x_tb (tb5 1 (by decide +kernel)) rfl), my_X2_findLosing, mi_X2_findLosing, me_X2_findLosing, rfl⟩
theorem ml_L_199 : xMV RL 199 10 0 mX10_law := ⟨Or.inl (x_tb (tb5 5 (by decide +kernel)) rfl), my_X10_law, mi_X10_law, me_X10_law, rfl⟩
theorem ml_L_203 : xMV RL 203 10 1 mX10_rests := ⟨Or.inl (x_tb (tb5 9 (by decide +kernel)) rfl), my_X10_rests, mi_X10_rests, me_X10_rests, rfl⟩
theorem ml_X10_382 : xMS RX10 382 3 mX10_isContent := ⟨Or.inl (x_tb (tb5 13 (by decide +kernel)) rfl), my_X10_isContent, ms_X10_isContent⟩
theorem ml_X10_476 : xMS RX10 476 3 mX10_salute := ⟨Or.inl (x_tb (tb5 16 (by decide +kernel)) rfl), my_X10_salute, ms_X10_salute⟩
theorem ml_L_207 : xMV RL 207 10 2 mX10_years := ⟨Or.inl (x_tb (tb5 19 (by decide +kernel)) rfl), my_X10_years, mi_X10_years, me_X10_years, rfl⟩
theorem ml_X10_386 : xMV RX10 386 10 1 mX10_draw := ⟨Or.inl (x_tb (tb5 23 (by decide +kernel)) rfl), my_X10_draw, mi_X10_draw, me_X10_draw, rfl⟩
theorem ml_X10_395 : xMV RX10 395 3 1 mX3_takeBack := ⟨Or.inr ⟨"NoonGun", x_nw (tb5 28 (by decide +kernel)) rfl⟩, my_X3_takeBack, mi_X3_takeBack, me_X3_takeBack, rfl⟩
theorem ml_L_211 : xMV RL 211 10 1 mX10_keep := ⟨Or.inl (x_tb (tb5 29 (by decide +kernel)) rfl), my_X10_keep, mi_X10_keep, me_X10_keep, rfl⟩
theorem ml_X10_398 : xMV RX10 398 9 1 mX9_copy := ⟨Or.inr ⟨"NoonGun", x_nw (tb5 33 (by decide +kernel)) rfl⟩, my_X9_copy, mi_X9_copy, me_X9_copy, rfl⟩
theorem ml_L_215 : xMV RL 215 10 1 mX10_again := ⟨Or.inl (x_tb (tb5 34 (by decide +kernel)) rfl), my_X10_again, mi_X10_again, me_X10_again, rfl⟩
theorem ml_L_219 : xMV RL 219 10 1 mX10_count := ⟨Or.inl (x_tb (tb5 38 (by decide +kernel)) rfl), my_X10_count, mi_X10_count, me_X10_count, rfl⟩
theorem ml_L_7 : xMV RL 7 10 2 mX10_house := ⟨Or.inl (x_tb (tb5 46 (by decide +kernel)) rfl), my_X10_house, mi_X10_house, me_X10_house, rfl⟩
theorem ml_X10_158 : xMV RX10 158 10 1 mX10_minuteOfGun := ⟨Or.inl (x_tb (tb5 115 (by decide +kernel)) rfl), my_X10_minuteOfGun, mi_X10_minuteOfGun, me_X10_minuteOfGun, rfl⟩
theorem ml_X10_165 : xMV RX10 165 4 1 mX4_at := ⟨Or.inr ⟨"NoonGun", x_nw (tb5 119 (by decide +kernel)) rfl⟩, my_X4_at, mi_X4_at, me_X4_at, rfl⟩
theorem ml_L_15 : xMV RL 15 10 2 mX10_deed := ⟨Or.inl (x_tb (tb5 126 (by decide +kernel)) rfl), my_X10_deed, mi_X10_deed, me_X10_deed, rfl⟩
theorem ml_L_18 : xMV RL 18 10 1 mX10_row := ⟨Or.inl (x_tb (tb5 134 (by decide +kernel)) rfl), my_X10_row, mi_X10_row, me_X10_row, rfl⟩
theorem ml_L_63 : xMV RL 63 11 0 mX11_thrown := ⟨Or.inl (x_tb (tb5 139 (by decide +kernel)) rfl), my_X11_thrown, mi_X11_thrown, me_X11_thrown, rfl⟩
theorem ml_L_30 : xMV RL 30 11 1 mX11_sign := ⟨Or.inl (x_tb (tb6 66 (by decide +kernel)) rfl), my_X11_sign, mi_X11_sign, me_X11_sign, rfl⟩
theorem ml_L_35 : xMV RL 35 11 1 mX11_end := ⟨Or.inl (x_tb (tb6 70 (by decide +kernel)) rfl), my_X11_end, mi_X11_end, me_X11_end, rfl⟩
theorem ml_X11_132 : xMS RX11 132 3 mX11_in := ⟨Or.inl (x_tb (tb6 74 (by decide +kernel)) rfl), my_X11_in, ms_X11_in⟩
theorem ml_L_40 : xMV RL 40 11 0 mX11_houses := ⟨Or.inl (x_tb (tb6 77 (by decide +kernel)) rfl), my_X11_houses, mi_X11_houses, me_X11_houses, rfl⟩
theorem ml_X11_224 : xMV RX11 224 11 2 mX11_readsLines := ⟨Or.inl (x_tb (tb6 81 (by decide +kernel)) rfl), my_X11_readsLines, mi_X11_readsLines, me_X11_readsLines, rfl⟩
theorem ml_X11_201 : xMV RX11 201 11 1 mX11_begins := ⟨Or.inl (x_tb (tb6 85 (by decide +kernel)) rfl), my_X11_begins, mi_X11_begins, me_X11_begins, rfl⟩
theorem ml_X11_204 : xMV RX11 204 11 0 mX11_readsHouse := ⟨Or.inl (x_tb (tb6 90 (by decide +kernel)) rfl), my_X11_readsHouse, mi_X11_readsHouse, me_X11_readsHouse, rfl⟩
theorem ml_X11_184 : xMV RX11 184 11 1 mX11_number := ⟨Or.inl (x_tb (tb6 94 (by decide +kernel)) rfl), my_X11_number, mi_X11_number, me_X11_number, rfl⟩
theorem ml_X11_177 : xMV RX11 177 11 0 mX11_isDigit := ⟨Or.inl (x_tb (tb6 98 (by decide +kernel)) rfl), my_X11_isDigit, mi_X11_isDigit, me_X11_isDigit, rfl⟩
theorem ml_X11_207 : xMV RX11 207 11 0 mX11_readsDeed := ⟨Or.inl (x_tb (tb6 104 (by decide +kernel)) rfl), my_X11_readsDeed, mi_X11_readsDeed, me_X11_readsDeed, rfl⟩
theorem ml_X11_188 : xMV RX11 188 11 2 mX11_digitIn := ⟨Or.inl (x_tb (tb6 108 (by decide +kernel)) rfl), my_X11_digitIn, mi_X11_digitIn, me_X11_digitIn, rfl⟩
theorem ml_X11_197 : xMV RX11 197 11 1 mX11_takesOf := ⟨Or.inl (x_tb (tb6 191 (by decide +kernel)) rfl), my_X11_takesOf, mi_X11_takesOf, me_X11_takesOf, rfl⟩
theorem ml_X11_210 : xMV RX11 210 11 1 mX11_takesSign := ⟨Or.inl (x_tb (tb6 216 (by decide +kernel)) rfl), my_X11_takesSign, mi_X11_takesSign, me_X11_takesSign, rfl⟩
theorem ml_X11_159 : xMS RX11 159 1 mX11_flag := ⟨Or.inl (x_tb (tb6 220 (by decide +kernel)) rfl), my_X11_flag, ms_X11_flag⟩
theorem ml_X11_214 : xMV RX11 214 11 3 mX11_faultOf := ⟨Or.inl (x_tb (tb6 223 (by decide +kernel)) rfl), my_X11_faultOf, mi_X11_faultOf, me_X11_faultOf, rfl⟩
theorem ml_X11_228 : xMV RX11 228 11 0 mX11_isNew := ⟨Or.inl (x_tb (tb6 227 (by decide +kernel)) rfl), my_X11_isNew, mi_X11_isNew, me_X11_isNew, rfl⟩
theorem ml_L_44 : xMV RL 44 11 0 mX11_deeds := ⟨Or.inl (x_tb (tb6 231 (by decide +kernel)) rfl), my_X11_deeds, mi_X11_deeds, me_X11_deeds, rfl⟩
theorem ml_L_48 : xMV RL 48 11 0 mX11_winds := ⟨Or.inl (x_tb (tb6 235 (by decide +kernel)) rfl), my_X11_winds, mi_X11_winds, me_X11_winds, rfl⟩
theorem ml_X11_231 : xMV RX11 231 11 0 mX11_readsDigits := ⟨Or.inl (x_tb (tb6 239 (by decide +kernel)) rfl), my_X11_readsDigits, mi_X11_readsDigits, me_X11_readsDigits, rfl⟩
theorem ml_L_52 : xMV RL 52 11 0 mX11_damps := ⟨Or.inl (x_tb (tb7 3 (by decide +kernel)) rfl), my_X11_damps, mi_X11_damps, me_X11_damps, rfl⟩
theorem ml_L_56 : xMV RL 56 11 0 mX11_rule := ⟨Or.inl (x_tb (tb7 7 (by decide +kernel)) rfl), my_X11_rule, mi_X11_rule, me_X11_rule, rfl⟩
theorem ml_X11_258 : xMV RX11 258 11 0 mX11_readsRule := ⟨Or.inl (x_tb (tb7 11 (by decide +kernel)) rfl), my_X11_readsRule, mi_X11_readsRule, me_X11_readsRule, rfl⟩
theorem ml_X11_246 : xMV RX11 246 11 1 mX11_readsRank := ⟨Or.inl (x_tb (tb7 15 (by decide +kernel)) rfl), my_X11_readsRank, mi_X11_readsRank, me_X11_readsRank, rfl⟩
theorem ml_X11_237 : xMV RX11 237 11 0 mX11_readsThing := ⟨Or.inl (x_tb (tb7 19 (by decide +kernel)) rfl), my_X11_readsThing, mi_X11_readsThing, me_X11_readsThing, rfl⟩
theorem ml_X11_240 : xMV RX11 240 11 1 mX11_codes := ⟨Or.inl (x_tb (tb7 23 (by decide +kernel)) rfl), my_X11_codes, mi_X11_codes, me_X11_codes, rfl⟩
theorem ml_X11_261 : xMV RX11 261 11 2 mX11_laysCode := ⟨Or.inl (x_tb (tb7 31 (by decide +kernel)) rfl), my_X11_laysCode, mi_X11_laysCode, me_X11_laysCode, rfl⟩
theorem ml_L_62 : xMV RL 62 11 2 mX11_house := ⟨Or.inl (x_tb (tb7 35 (by decide +kernel)) rfl), my_X11_house, mi_X11_house, me_X11_house, rfl⟩
theorem ml_X11_315 : xMV RX11 315 11 1 mX11_isHouse := ⟨Or.inl (x_tb (tb7 39 (by decide +kernel)) rfl), my_X11_isHouse, mi_X11_isHouse, me_X11_isHouse, rfl⟩
theorem ml_X11_320 : xMV RX11 320 11 0 mX11_refuse := ⟨Or.inl (x_tb (tb7 44 (by decide +kernel)) rfl), my_X11_refuse, mi_X11_refuse, me_X11_refuse, rfl⟩
theorem ml_X11_292 : xMV RX11 292 11 2 mX11_hears := ⟨Or.inl (x_tb (tb7 48 (by decide +kernel)) rfl), my_X11_hears, mi_X11_hears, me_X11_hears, rfl⟩
theorem ml_X11_282 : xMV RX11 282 11 1 mX11_dampOn := ⟨Or.inl (x_tb (tb7 52 (by decide +kernel)) rfl), my_X11_dampOn, mi_X11_dampOn, me_X11_dampOn, rfl⟩
theorem ml_X11_285 : xMV RX11 285 11 1 mX11_windOn := ⟨Or.inl (x_tb (tb7 56 (by decide +kernel)) rfl), my_X11_windOn, mi_X11_windOn, me_X11_windOn, rfl⟩
theorem ml_X11_288 : xMV RX11 288 11 5 mX11_hearsBy := ⟨Or.inl (x_tb (tb7 60 (by decide +kernel)) rfl), my_X11_hearsBy, mi_X11_hearsBy, me_X11_hearsBy, rfl⟩
theorem ml_X11_272 : xMS RX11 272 4 mX11_far := ⟨Or.inl (x_tb (tb7 64 (by decide +kernel)) rfl), my_X11_far, ms_X11_far⟩
theorem ml_X11_276 : xMV RX11 276 11 0 mX11_ruled := ⟨Or.inl (x_tb (tb7 68 (by decide +kernel)) rfl), my_X11_ruled, mi_X11_ruled, me_X11_ruled, rfl⟩
theorem ml_X11_265 : xMS RX11 265 3 mX11_worked := ⟨Or.inl (x_tb (tb7 72 (by decide +kernel)) rfl), my_X11_worked, ms_X11_worked⟩
theorem ml_X11_323 : xMV RX11 323 11 2 mX11_echoes := ⟨Or.inl (x_tb (tb7 76 (by decide +kernel)) rfl), my_X11_echoes, mi_X11_echoes, me_X11_echoes, rfl⟩
theorem ml_L_68 : xMV RL 68 11 2 mX11_deed := ⟨Or.inl (x_tb (tb7 80 (by decide +kernel)) rfl), my_X11_deed, mi_X11_deed, me_X11_deed, rfl⟩
theorem ml_X11_326 : xMV RX11 326 11 1 mX11_isDeed := ⟨Or.inl (x_tb (tb7 84 (by decide +kernel)) rfl), my_X11_isDeed, mi_X11_isDeed, me_X11_isDeed, rfl⟩
theorem ml_X11_303 : xMV RX11 303 11 1 mX11_laysBegins := ⟨Or.inl (x_tb (tb7 89 (by decide +kernel)) rfl), my_X11_laysBegins, mi_X11_laysBegins, me_X11_laysBegins, rfl⟩
theorem ml_X11_307 : xMV RX11 307 11 2 mX11_clashing := ⟨Or.inl (x_tb (tb7 93 (by decide +kernel)) rfl), my_X11_clashing, mi_X11_clashing, me_X11_clashing, rfl⟩
theorem ml_X11_300 : xMV RX11 300 11 3 mX11_clash := ⟨Or.inl (x_tb (tb7 97 (by decide +kernel)) rfl), my_X11_clash, mi_X11_clash, me_X11_clash, rfl⟩
theorem ml_X11_296 : xMV RX11 296 11 3 mX11_meet := ⟨Or.inl (x_tb (tb7 101 (by decide +kernel)) rfl), my_X11_meet, mi_X11_meet, me_X11_meet, rfl⟩
theorem ml_L_73 : xMV RL 73 11 4 mX11_sheet := ⟨Or.inl (x_tb (tb7 105 (by decide +kernel)) rfl), my_X11_sheet, mi_X11_sheet, me_X11_sheet, rfl⟩
theorem ml_L_106 : xMV RL 106 11 0 mX11_undo := ⟨Or.inl (x_tb (tb7 110 (by decide +kernel)) rfl), my_X11_undo, mi_X11_undo, me_X11_undo, rfl⟩
theorem ml_L_77 : xMV RL 77 11 1 mX11_days := ⟨Or.inl (x_tb (tb7 114 (by decide +kernel)) rfl), my_X11_days, mi_X11_days, me_X11_days, rfl⟩
theorem ml_X11_361 : xMV RX11 361 11 0 mX11_putsBy := ⟨Or.inl (x_tb (tb7 119 (by decide +kernel)) rfl), my_X11_putsBy, mi_X11_putsBy, me_X11_putsBy, rfl⟩
theorem ml_X11_364 : xMV RX11 364 11 2 mX11_goesOn := ⟨Or.inl (x_tb (tb7 123 (by decide +kernel)) rfl), my_X11_goesOn, mi_X11_goesOn, me_X11_goesOn, rfl⟩
theorem ml_X11_346 : xMV RX11 346 11 1 mX11_dayGoes := ⟨Or.inl (x_tb (tb7 127 (by decide +kernel)) rfl), my_X11_dayGoes, mi_X11_dayGoes, me_X11_dayGoes, rfl⟩
theorem ml_X11_336 : xMV RX11 336 11 1 mX11_clashesOn := ⟨Or.inl (x_tb (tb7 131 (by decide +kernel)) rfl), my_X11_clashesOn, mi_X11_clashesOn, me_X11_clashesOn, rfl⟩
theorem ml_X11_18 : xMV RX11 18 11 1 mX11_enters := ⟨Or.inl (x_tb (tb7 136 (by decide +kernel)) rfl), my_X11_enters, mi_X11_enters, me_X11_enters, rfl⟩
theorem ml_X11_333 : xMV RX11 333 11 1 mX11_adds := ⟨Or.inl (x_tb (tb7 140 (by decide +kernel)) rfl), my_X11_adds, mi_X11_adds, me_X11_adds, rfl⟩
theorem ml_L_81 : xMV RL 81 11 1 mX11_buys := ⟨Or.inl (x_tb (tb7 144 (by decide +kernel)) rfl), my_X11_buys, mi_X11_buys, me_X11_buys, rfl⟩
theorem ml_X11_367 : xMV RX11 367 11 1 mX11_buysSome := ⟨Or.inl (x_tb (tb7 148 (by decide +kernel)) rfl), my_X11_buysSome, mi_X11_buysSome, me_X11_buysSome, rfl⟩
theorem ml_X11_370 : xMV RX11 370 11 1 mX11_counted := ⟨Or.inl (x_tb (tb7 153 (by decide +kernel)) rfl), my_X11_counted, mi_X11_counted, me_X11_counted, rfl⟩
theorem ml_L_85 : xMV RL 85 11 2 mX11_hauls := ⟨Or.inl (x_tb (tb7 157 (by decide +kernel)) rfl), my_X11_hauls, mi_X11_hauls, me_X11_hauls, rfl⟩
theorem ml_X11_373 : xMS RX11 373 3 mX11_haulsTo := ⟨Or.inl (x_tb (tb7 161 (by decide +kernel)) rfl), my_X11_haulsTo, ms_X11_haulsTo⟩
theorem ml_X11_351 : xMS RX11 351 2 mX11_isPlace := ⟨Or.inl (x_tb (tb7 164 (by decide +kernel)) rfl), my_X11_isPlace, ms_X11_isPlace⟩
theorem ml_X11_355 : xMS RX11 355 5 mX11_puts := ⟨Or.inl (x_tb (tb7 168 (by decide +kernel)) rfl), my_X11_puts, ms_X11_puts⟩
theorem ml_L_90 : xMV RL 90 11 3 mX11_moves := ⟨Or.inl (x_tb (tb7 171 (by decide +kernel)) rfl), my_X11_moves, mi_X11_moves, me_X11_moves, rfl⟩
theorem ml_X11_377 : xMV RX11 377 11 4 mX11_movesTo := ⟨Or.inl (x_tb (tb7 175 (by decide +kernel)) rfl), my_X11_movesTo, mi_X11_movesTo, me_X11_movesTo, rfl⟩
theorem ml_L_94 : xMV RL 94 11 2 mX11_takes := ⟨Or.inl (x_tb (tb7 179 (by decide +kernel)) rfl), my_X11_takes, mi_X11_takes, me_X11_takes, rfl⟩
theorem ml_X11_381 : xMV RX11 381 11 2 mX11_takesSome := ⟨Or.inl (x_tb (tb7 183 (by decide +kernel)) rfl), my_X11_takesSome, mi_X11_takesSome, me_X11_takesSome, rfl⟩
theorem ml_L_98 : xMV RL 98 11 2 mX11_hill := ⟨Or.inl (x_tb (tb7 187 (by decide +kernel)) rfl), my_X11_hill, mi_X11_hill, me_X11_hill, rfl⟩
theorem ml_L_102 : xMV RL 102 11 0 mX11_week := ⟨Or.inl (x_tb (tb7 191 (by decide +kernel)) rfl), my_X11_week, mi_X11_week, me_X11_week, rfl⟩
theorem ml_X11_389 : xMV RX11 389 11 0 mX11_readsAct := ⟨Or.inl (x_tb (tb7 195 (by decide +kernel)) rfl), my_X11_readsAct, mi_X11_readsAct, me_X11_readsAct, rfl⟩
theorem ml_X11_392 : xMV RX11 392 11 1 mX11_does := ⟨Or.inl (x_tb (tb7 200 (by decide +kernel)) rfl), my_X11_does, mi_X11_does, me_X11_does, rfl⟩
theorem ml_L_110 : xMV RL 110 11 0 mX11_order := ⟨Or.inl (x_tb (tb7 204 (by decide +kernel)) rfl), my_X11_order, mi_X11_order, me_X11_order, rfl⟩
theorem ml_X11_394 : xMV RX11 394 11 0 mX11_laysLine := ⟨Or.inl (x_tb (tb7 208 (by decide +kernel)) rfl), my_X11_laysLine, mi_X11_laysLine, me_X11_laysLine, rfl⟩
theorem ml_L_114 : xMV RL 114 11 0 mX11_clashes := ⟨Or.inl (x_tb (tb7 212 (by decide +kernel)) rfl), my_X11_clashes, mi_X11_clashes, me_X11_clashes, rfl⟩
theorem ml_L_118 : xMV RL 118 11 0 mX11_span := ⟨Or.inl (x_tb (tb7 216 (by decide +kernel)) rfl), my_X11_span, mi_X11_span, me_X11_span, rfl⟩
theorem ml_X11_397 : xMV RX11 397 11 1 mX11_laysBusy := ⟨Or.inl (x_tb (tb7 220 (by decide +kernel)) rfl), my_X11_laysBusy, mi_X11_laysBusy, me_X11_laysBusy, rfl⟩
theorem ml_L_122 : xMV RL 122 11 1 mX11_lane := ⟨Or.inl (x_tb (tb7 224 (by decide +kernel)) rfl), my_X11_lane, mi_X11_lane, me_X11_lane, rfl⟩
theorem ml_L_126 : xMV RL 126 11 1 mX11_ahead := ⟨Or.inl (x_tb (tb7 228 (by decide +kernel)) rfl), my_X11_ahead, mi_X11_ahead, me_X11_ahead, rfl⟩
theorem ml_X11_400 : xMV RX11 400 11 0 mX11_copies := ⟨Or.inl (x_tb (tb7 232 (by decide +kernel)) rfl), my_X11_copies, mi_X11_copies, me_X11_copies, rfl⟩
theorem ml_L_130 : xMV RL 130 11 0 mX11_quiet := ⟨Or.inl (x_tb (tb7 236 (by decide +kernel)) rfl), my_X11_quiet, mi_X11_quiet, me_X11_quiet, rfl⟩
theorem ml_L_134 : xMV RL 134 11 0 mX11_lasts := ⟨Or.inl (x_tb (tb8 0 (by decide +kernel)) rfl), my_X11_lasts, mi_X11_lasts, me_X11_lasts, rfl⟩
theorem ml_L_138 : xMV RL 138 11 0 mX11_fewest := ⟨Or.inl (x_tb (tb8 4 (by decide +kernel)) rfl), my_X11_fewest, mi_X11_fewest, me_X11_fewest, rfl⟩
theorem ml_X11_407 : xMV RX11 407 11 0 mX11_laysFoes := ⟨Or.inl (x_tb (tb8 8 (by decide +kernel)) rfl), my_X11_laysFoes, mi_X11_laysFoes, me_X11_laysFoes, rfl⟩
theorem ml_X11_410 : xMS RX11 410 2 mX11_isFewer := ⟨Or.inl (x_tb (tb8 12 (by decide +kernel)) rfl), my_X11_isFewer, ms_X11_isFewer⟩
theorem ml_X11_413 : xMV RX11 413 11 1 mX11_isPeace := ⟨Or.inl (x_tb (tb8 15 (by decide +kernel)) rfl), my_X11_isPeace, mi_X11_isPeace, me_X11_isPeace, rfl⟩
theorem ml_X11_403 : xMS RX11 403 2 mX11_has := ⟨Or.inl (x_tb (tb8 19 (by decide +kernel)) rfl), my_X11_has, ms_X11_has⟩
theorem ml_L_142 : xMV RL 142 11 0 mX11_longest := ⟨Or.inl (x_tb (tb8 22 (by decide +kernel)) rfl), my_X11_longest, mi_X11_longest, me_X11_longest, rfl⟩
theorem ml_X11_416 : xMV RX11 416 11 1 mX11_lengthOf := ⟨Or.inl (x_tb (tb8 26 (by decide +kernel)) rfl), my_X11_lengthOf, mi_X11_lengthOf, me_X11_lengthOf, rfl⟩
theorem ml_L_146 : xMV RL 146 11 0 mX11_best := ⟨Or.inl (x_tb (tb8 30 (by decide +kernel)) rfl), my_X11_best, mi_X11_best, me_X11_best, rfl⟩
theorem ml_L_150 : xMV RL 150 11 0 mX11_middle := ⟨Or.inl (x_tb (tb8 35 (by decide +kernel)) rfl), my_X11_middle, mi_X11_middle, me_X11_middle, rfl⟩
theorem ml_L_154 : xMV RL 154 11 1 mX11_holds := ⟨Or.inl (x_tb (tb8 39 (by decide +kernel)) rfl), my_X11_holds, mi_X11_holds, me_X11_holds, rfl⟩
theorem ml_L_158 : xMV RL 158 11 0 mX11_hands := ⟨Or.inl (x_tb (tb8 43 (by decide +kernel)) rfl), my_X11_hands, mi_X11_hands, me_X11_hands, rfl⟩
theorem ml_X11_420 : xMV RX11 420 11 2 mX11_isFree := ⟨Or.inl (x_tb (tb8 47 (by decide +kernel)) rfl), my_X11_isFree, mi_X11_isFree, me_X11_isFree, rfl⟩
theorem ml_L_162 : xMV RL 162 11 1 mX11_echo := ⟨Or.inl (x_tb (tb8 51 (by decide +kernel)) rfl), my_X11_echo, mi_X11_echo, me_X11_echo, rfl⟩
theorem ml_L_166 : xMV RL 166 11 0 mX11_together := ⟨Or.inl (x_tb (tb8 55 (by decide +kernel)) rfl), my_X11_together, mi_X11_together, me_X11_together, rfl⟩
theorem ml_L_170 : xMV RL 170 11 2 mX11_heard := ⟨Or.inl (x_tb (tb8 59 (by decide +kernel)) rfl), my_X11_heard, mi_X11_heard, me_X11_heard, rfl⟩
theorem ml_L_174 : xMV RL 174 11 0 mX11_forget := ⟨Or.inl (x_tb (tb8 64 (by decide +kernel)) rfl), my_X11_forget, mi_X11_forget, me_X11_forget, rfl⟩
theorem ml_L_178 : xMV RL 178 11 0 mX11_fits := ⟨Or.inl (x_tb (tb8 68 (by decide +kernel)) rfl), my_X11_fits, mi_X11_fits, me_X11_fits, rfl⟩
theorem ml_X11_428 : xMV RX11 428 11 1 mX11_isSo := ⟨Or.inl (x_tb (tb8 72 (by decide +kernel)) rfl), my_X11_isSo, mi_X11_isSo, me_X11_isSo, rfl⟩
theorem ml_L_182 : xMV RL 182 11 0 mX11_asks := ⟨Or.inl (x_tb (tb8 76 (by decide +kernel)) rfl), my_X11_asks, mi_X11_asks, me_X11_asks, rfl⟩
theorem ml_L_186 : xMV RL 186 11 1 mX11_menders := ⟨Or.inl (x_tb (tb8 80 (by decide +kernel)) rfl), my_X11_menders, mi_X11_menders, me_X11_menders, rfl⟩
theorem ml_L_190 : xMV RL 190 11 0 mX11_apart := ⟨Or.inl (x_tb (tb8 85 (by decide +kernel)) rfl), my_X11_apart, mi_X11_apart, me_X11_apart, rfl⟩
theorem ml_L_194 : xMV RL 194 11 3 mX11_misfires := ⟨Or.inl (x_tb (tb8 89 (by decide +kernel)) rfl), my_X11_misfires, mi_X11_misfires, me_X11_misfires, rfl⟩
theorem ml_X11_437 : xMV RX11 437 11 2 mX11_tellsFraction := ⟨Or.inl (x_tb (tb8 95 (by decide +kernel)) rfl), my_X11_tellsFraction, mi_X11_tellsFraction, me_X11_tellsFraction, rfl⟩
theorem ml_X11_7 : xMS RX11 7 2 mX11_common := ⟨Or.inl (x_tb (tb8 99 (by decide +kernel)) rfl), my_X11_common, ms_X11_common⟩
theorem ml_L_198 : xMV RL 198 11 2 mX11_forts := ⟨Or.inl (x_tb (tb8 102 (by decide +kernel)) rfl), my_X11_forts, mi_X11_forts, me_X11_forts, rfl⟩
theorem ml_X11_446 : xMV RX11 446 11 4 mX11_isGood := ⟨Or.inl (x_tb (tb8 107 (by decide +kernel)) rfl), my_X11_isGood, mi_X11_isGood, me_X11_isGood, rfl⟩
theorem ml_X11_441 : xMS RX11 441 2 mX11_place := ⟨Or.inl (x_tb (tb8 111 (by decide +kernel)) rfl), my_X11_place, ms_X11_place⟩
theorem ml_L_202 : xMV RL 202 11 0 mX11_law := ⟨Or.inl (x_tb (tb8 114 (by decide +kernel)) rfl), my_X11_law, mi_X11_law, me_X11_law, rfl⟩
theorem ml_L_206 : xMV RL 206 11 1 mX11_rests := ⟨Or.inl (x_tb (tb8 118 (by decide +kernel)) rfl), my_X11_rests, mi_X11_rests, me_X11_rests, rfl⟩
theorem ml_X11_453 : xMS RX11 453 3 mX11_isRest := ⟨Or.inl (x_tb (tb8 122 (by decide +kernel)) rfl), my_X11_isRest, ms_X11_isRest⟩
theorem ml_X11_450 : xMS RX11 450 3 mX11_gets := ⟨Or.inl (x_tb (tb8 125 (by decide +kernel)) rfl), my_X11_gets, ms_X11_gets⟩
theorem ml_L_210 : xMV RL 210 11 2 mX11_years := ⟨Or.inl (x_tb (tb8 128 (by decide +kernel)) rfl), my_X11_years, mi_X11_years, me_X11_years, rfl⟩
theorem ml_X11_461 : xMV RX11 461 11 1 mX11_draws := ⟨Or.inl (x_tb (tb8 132 (by decide +kernel)) rfl), my_X11_draws, mi_X11_draws, me_X11_draws, rfl⟩
theorem ml_L_214 : xMV RL 214 11 1 mX11_keep := ⟨Or.inl (x_tb (tb8 137 (by decide +kernel)) rfl), my_X11_keep, mi_X11_keep, me_X11_keep, rfl⟩
theorem ml_L_218 : xMV RL 218 11 1 mX11_again := ⟨Or.inl (x_tb (tb8 142 (by decide +kernel)) rfl), my_X11_again, mi_X11_again, me_X11_again, rfl⟩
theorem ml_L_222 : xMV RL 222 11 1 mX11_count := ⟨Or.inl (x_tb (tb8 146 (by decide +kernel)) rfl), my_X11_count, mi_X11_count, me_X11_count, rfl⟩
theorem ml_L_226 : xMV RL 226 11 1 mX11_row := ⟨Or.inl (x_tb (tb8 150 (by decide +kernel)) rfl), my_X11_row, mi_X11_row, me_X11_row, rfl⟩
theorem ct_X10_364 : Cond.constantLong RX10 364 (10) ∈ xTB := x_tb (tb4 225 (by decide +kernel)) rfl
theorem ct_X10_441 : Cond.constant RX10 441 (1103515245) ∈ xTB := x_tb (tb5 27 (by decide +kernel)) rfl
theorem ct_X11_163 : Cond.constantLong RX11 163 (48) ∈ xTB := x_tb (tb6 102 (by decide +kernel)) rfl
theorem ct_X11_165 : Cond.constantLong RX11 165 (57) ∈ xTB := x_tb (tb6 103 (by decide +kernel)) rfl
theorem ct_X11_318 : Cond.constantLong RX11 318 (5) ∈ xTB := x_tb (tb7 43 (by decide +kernel)) rfl
theorem ct_X11_329 : Cond.constantLong RX11 329 (4) ∈ xTB := x_tb (tb7 88 (by decide +kernel)) rfl
theorem ct_X11_331 : Cond.constantLong RX11 331 (3) ∈ xTB := x_tb (tb7 109 (by decide +kernel)) rfl
theorem ct_X11_359 : Cond.constantLong RX11 359 (60) ∈ xTB := x_tb (tb7 118 (by decide +kernel)) rfl
theorem ct_X11_349 : Cond.constantLong RX11 349 (99) ∈ xTB := x_tb (tb7 152 (by decide +kernel)) rfl
theorem ct_X11_139 : Cond.constantLong RX11 139 (9) ∈ xTB := x_tb (tb7 167 (by decide +kernel)) rfl
theorem ct_X11_419 : Cond.constant RX11 419 (1000000) ∈ xTB := x_tb (tb8 34 (by decide +kernel)) rfl
theorem ct_X11_423 : Cond.constantLong RX11 423 (199) ∈ xTB := x_tb (tb8 63 (by decide +kernel)) rfl
theorem ct_X11_431 : Cond.constantLong RX11 431 (18) ∈ xTB := x_tb (tb8 84 (by decide +kernel)) rfl
theorem ct_X11_433 : Cond.constantLong RX11 433 (15) ∈ xTB := x_tb (tb8 93 (by decide +kernel)) rfl
theorem ct_X11_435 : Cond.constantLong RX11 435 (10) ∈ xTB := x_tb (tb8 94 (by decide +kernel)) rfl
theorem ct_X11_444 : Cond.constantLong RX11 444 (20) ∈ xTB := x_tb (tb8 106 (by decide +kernel)) rfl
theorem ct_X11_460 : Cond.constant RX11 460 (1103515245) ∈ xTB := x_tb (tb8 136 (by decide +kernel)) rfl
theorem ct_X11_464 : Cond.constantLong RX11 464 (2) ∈ xTB := x_tb (tb8 141 (by decide +kernel)) rfl
