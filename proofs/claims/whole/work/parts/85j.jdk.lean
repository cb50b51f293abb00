def nJ_len : MethodName := ⟨"java/lang/String", "length", "()I"⟩
abbrev yJ_len : xMD := (nJ_len, prog_23_method_54_code, 1, (some .int))
theorem e_len_0 : decode prog_23_method_54_code 0 = .ok (.aload_n 0, 1) := by decide +kernel
theorem e_len_1 : decode prog_23_method_54_code 1 = .ok (.getfield 9, 3) := by decide +kernel
theorem e_len_4 : decode prog_23_method_54_code 4 = .ok (.arraylength, 1) := by decide +kernel
theorem e_len_5 : decode prog_23_method_54_code 5 = .ok (.aload_n 0, 1) := by decide +kernel
theorem e_len_6 : decode prog_23_method_54_code 6 = .ok (.invokevirtual 335, 3) := by decide +kernel
theorem e_len_9 : decode prog_23_method_54_code 9 = .ok (.ishr, 1) := by decide +kernel
theorem e_len_10 : decode prog_23_method_54_code 10 = .ok (.ireturn, 1) := by decide +kernel
theorem w_len : xMY yJ_len 0 := ⟨x_tb (tb1 10 (by decide +kernel)) rfl, x_tb (tb1 194 (by decide +kernel)) rfl, by decide +kernel, by decide⟩
theorem wi_len : Cond.instanceMethod nJ_len ∈ xTB := x_tb (tb1 192 (by decide +kernel)) rfl
theorem wv_len : Cond.selects "java/lang/String" nJ_len nJ_len ∈ xTB := x_tb (tb1 193 (by decide +kernel)) rfl
def nJ_coder : MethodName := ⟨"java/lang/String", "coder", "()B"⟩
abbrev yJ_coder : xMD := (nJ_coder, prog_23_method_152_code, 1, (some .byte))
theorem e_coder_0 : decode prog_23_method_152_code 0 = .ok (.getstatic 38, 3) := by decide +kernel
theorem e_coder_3 : decode prog_23_method_152_code 3 = .ok (.ifCond .eq 10, 3) := by decide +kernel
theorem e_coder_6 : decode prog_23_method_152_code 6 = .ok (.aload_n 0, 1) := by decide +kernel
theorem e_coder_7 : decode prog_23_method_152_code 7 = .ok (.getfield 15, 3) := by decide +kernel
theorem e_coder_10 : decode prog_23_method_152_code 10 = .ok (.goto 4, 3) := by decide +kernel
theorem e_coder_13 : decode prog_23_method_152_code 13 = .ok (.iconst 1, 1) := by decide +kernel
theorem e_coder_14 : decode prog_23_method_152_code 14 = .ok (.ireturn, 1) := by decide +kernel
theorem w_coder : xMY yJ_coder 0 := ⟨x_tb (tb1 10 (by decide +kernel)) rfl, x_tb (tb1 198 (by decide +kernel)) rfl, by decide +kernel, by decide⟩
theorem wi_coder : Cond.instanceMethod nJ_coder ∈ xTB := x_tb (tb1 196 (by decide +kernel)) rfl
theorem wv_coder : Cond.selects "java/lang/String" nJ_coder nJ_coder ∈ xTB := x_tb (tb1 197 (by decide +kernel)) rfl
def nJ_lat : MethodName := ⟨"java/lang/String", "isLatin1", "()Z"⟩
abbrev yJ_lat : xMD := (nJ_lat, prog_23_method_154_code, 1, (some .boolean))
theorem e_lat_0 : decode prog_23_method_154_code 0 = .ok (.getstatic 38, 3) := by decide +kernel
theorem e_lat_3 : decode prog_23_method_154_code 3 = .ok (.ifCond .eq 14, 3) := by decide +kernel
theorem e_lat_6 : decode prog_23_method_154_code 6 = .ok (.aload_n 0, 1) := by decide +kernel
theorem e_lat_7 : decode prog_23_method_154_code 7 = .ok (.getfield 15, 3) := by decide +kernel
theorem e_lat_10 : decode prog_23_method_154_code 10 = .ok (.ifCond .ne 7, 3) := by decide +kernel
theorem e_lat_13 : decode prog_23_method_154_code 13 = .ok (.iconst 1, 1) := by decide +kernel
theorem e_lat_14 : decode prog_23_method_154_code 14 = .ok (.goto 4, 3) := by decide +kernel
theorem e_lat_17 : decode prog_23_method_154_code 17 = .ok (.iconst 0, 1) := by decide +kernel
theorem e_lat_18 : decode prog_23_method_154_code 18 = .ok (.ireturn, 1) := by decide +kernel
theorem w_lat : xMY yJ_lat 0 := ⟨x_tb (tb1 10 (by decide +kernel)) rfl, x_tb (tb2 225 (by decide +kernel)) rfl, by decide +kernel, by decide⟩
theorem wi_lat : Cond.instanceMethod nJ_lat ∈ xTB := x_tb (tb2 223 (by decide +kernel)) rfl
theorem wv_lat : Cond.selects "java/lang/String" nJ_lat nJ_lat ∈ xTB := x_tb (tb2 224 (by decide +kernel)) rfl
def nJ_chat : MethodName := ⟨"java/lang/String", "charAt", "(I)C"⟩
abbrev yJ_chat : xMD := (nJ_chat, prog_23_method_56_code, 2, (some .char))
theorem e_chat_0 : decode prog_23_method_56_code 0 = .ok (.aload_n 0, 1) := by decide +kernel
theorem e_chat_1 : decode prog_23_method_56_code 1 = .ok (.invokevirtual 492, 3) := by decide +kernel
theorem e_chat_4 : decode prog_23_method_56_code 4 = .ok (.ifCond .eq 12, 3) := by decide +kernel
theorem e_chat_7 : decode prog_23_method_56_code 7 = .ok (.aload_n 0, 1) := by decide +kernel
theorem e_chat_8 : decode prog_23_method_56_code 8 = .ok (.getfield 9, 3) := by decide +kernel
theorem e_chat_11 : decode prog_23_method_56_code 11 = .ok (.iload_n 1, 1) := by decide +kernel
theorem e_chat_12 : decode prog_23_method_56_code 12 = .ok (.invokestatic 495, 3) := by decide +kernel
theorem e_chat_15 : decode prog_23_method_56_code 15 = .ok (.ireturn, 1) := by decide +kernel
theorem e_chat_16 : decode prog_23_method_56_code 16 = .ok (.aload_n 0, 1) := by decide +kernel
theorem e_chat_17 : decode prog_23_method_56_code 17 = .ok (.getfield 9, 3) := by decide +kernel
theorem e_chat_20 : decode prog_23_method_56_code 20 = .ok (.iload_n 1, 1) := by decide +kernel
theorem e_chat_21 : decode prog_23_method_56_code 21 = .ok (.invokestatic 498, 3) := by decide +kernel
theorem e_chat_24 : decode prog_23_method_56_code 24 = .ok (.ireturn, 1) := by decide +kernel
theorem w_chat : xMY yJ_chat 1 := ⟨x_tb (tb1 10 (by decide +kernel)) rfl, x_tb (tb6 199 (by decide +kernel)) rfl, by decide +kernel, by decide⟩
theorem wi_chat : Cond.instanceMethod nJ_chat ∈ xTB := x_tb (tb6 197 (by decide +kernel)) rfl
theorem wv_chat : Cond.selects "java/lang/String" nJ_chat nJ_chat ∈ xTB := x_tb (tb6 198 (by decide +kernel)) rfl
def nJ_lchat : MethodName := ⟨"java/lang/StringLatin1", "charAt", "([BI)C"⟩
abbrev yJ_lchat : xMD := (nJ_lchat, prog_24_method_2_code, 2, (some .char))
theorem e_lchat_0 : decode prog_24_method_2_code 0 = .ok (.iload_n 1, 1) := by decide +kernel
theorem e_lchat_1 : decode prog_24_method_2_code 1 = .ok (.aload_n 0, 1) := by decide +kernel
theorem e_lchat_2 : decode prog_24_method_2_code 2 = .ok (.arraylength, 1) := by decide +kernel
theorem e_lchat_3 : decode prog_24_method_2_code 3 = .ok (.invokestatic 9, 3) := by decide +kernel
theorem e_lchat_6 : decode prog_24_method_2_code 6 = .ok (.aload_n 0, 1) := by decide +kernel
theorem e_lchat_7 : decode prog_24_method_2_code 7 = .ok (.iload_n 1, 1) := by decide +kernel
theorem e_lchat_8 : decode prog_24_method_2_code 8 = .ok (.baload, 1) := by decide +kernel
theorem e_lchat_9 : decode prog_24_method_2_code 9 = .ok (.sipush 255, 3) := by decide +kernel
theorem e_lchat_12 : decode prog_24_method_2_code 12 = .ok (.iand, 1) := by decide +kernel
theorem e_lchat_13 : decode prog_24_method_2_code 13 = .ok (.i2c, 1) := by decide +kernel
theorem e_lchat_14 : decode prog_24_method_2_code 14 = .ok (.ireturn, 1) := by decide +kernel
theorem w_lchat : xMY yJ_lchat 2 := ⟨x_tb (tb1 17 (by decide +kernel)) rfl, x_tb (tb6 202 (by decide +kernel)) rfl, by decide +kernel, by decide⟩
theorem ws_lchat : Cond.static nJ_lchat ∈ xTB := x_tb (tb6 201 (by decide +kernel)) rfl
def nJ_ci : MethodName := ⟨"java/lang/String", "checkIndex", "(II)V"⟩
abbrev yJ_ci : xMD := (nJ_ci, prog_23_method_155_code, 2, none)
theorem e_ci_0 : decode prog_23_method_155_code 0 = .ok (.iload_n 0, 1) := by decide +kernel
theorem e_ci_1 : decode prog_23_method_155_code 1 = .ok (.iload_n 1, 1) := by decide +kernel
theorem e_ci_2 : decode prog_23_method_155_code 2 = .ok (.getstatic 1053, 3) := by decide +kernel
theorem e_ci_5 : decode prog_23_method_155_code 5 = .ok (.invokestatic 1059, 3) := by decide +kernel
theorem e_ci_8 : decode prog_23_method_155_code 8 = .ok (.pop, 1) := by decide +kernel
theorem e_ci_9 : decode prog_23_method_155_code 9 = .ok (.return_, 1) := by decide +kernel
theorem w_ci : xMY yJ_ci 2 := ⟨x_tb (tb1 10 (by decide +kernel)) rfl, x_tb (tb6 205 (by decide +kernel)) rfl, by decide +kernel, by decide⟩
theorem ws_ci : Cond.static nJ_ci ∈ xTB := x_tb (tb6 204 (by decide +kernel)) rfl
def nJ_pci : MethodName := ⟨"jdk/internal/util/Preconditions", "checkIndex", "(IILjava/util/function/BiFunction;)I"⟩
abbrev yJ_pci : xMD := (nJ_pci, prog_32_method_11_code, 3, (some .int))
theorem e_pci_0 : decode prog_32_method_11_code 0 = .ok (.iload_n 0, 1) := by decide +kernel
theorem e_pci_1 : decode prog_32_method_11_code 1 = .ok (.ifCond .lt 8, 3) := by decide +kernel
theorem e_pci_4 : decode prog_32_method_11_code 4 = .ok (.iload_n 0, 1) := by decide +kernel
theorem e_pci_5 : decode prog_32_method_11_code 5 = .ok (.iload_n 1, 1) := by decide +kernel
theorem e_pci_6 : decode prog_32_method_11_code 6 = .ok (.if_icmp .lt 10, 3) := by decide +kernel
theorem e_pci_9 : decode prog_32_method_11_code 9 = .ok (.aload_n 2, 1) := by decide +kernel
theorem e_pci_10 : decode prog_32_method_11_code 10 = .ok (.iload_n 0, 1) := by decide +kernel
theorem e_pci_11 : decode prog_32_method_11_code 11 = .ok (.iload_n 1, 1) := by decide +kernel
theorem e_pci_12 : decode prog_32_method_11_code 12 = .ok (.invokestatic 95, 3) := by decide +kernel
theorem e_pci_15 : decode prog_32_method_11_code 15 = .ok (.athrow, 1) := by decide +kernel
theorem e_pci_16 : decode prog_32_method_11_code 16 = .ok (.iload_n 0, 1) := by decide +kernel
theorem e_pci_17 : decode prog_32_method_11_code 17 = .ok (.ireturn, 1) := by decide +kernel
theorem w_pci : xMY yJ_pci 3 := ⟨x_tb (tb1 16 (by decide +kernel)) rfl, x_tb (tb6 208 (by decide +kernel)) rfl, by decide +kernel, by decide⟩
theorem ws_pci : Cond.static nJ_pci ∈ xTB := x_tb (tb6 207 (by decide +kernel)) rfl
def nJ_ix : MethodName := ⟨"java/lang/String", "indexOf", "(I)I"⟩
abbrev yJ_ix : xMD := (nJ_ix, prog_23_method_79_code, 2, (some .int))
theorem e_ix_0 : decode prog_23_method_79_code 0 = .ok (.aload_n 0, 1) := by decide +kernel
theorem e_ix_1 : decode prog_23_method_79_code 1 = .ok (.iload_n 1, 1) := by decide +kernel
theorem e_ix_2 : decode prog_23_method_79_code 2 = .ok (.iconst 0, 1) := by decide +kernel
theorem e_ix_3 : decode prog_23_method_79_code 3 = .ok (.invokevirtual 633, 3) := by decide +kernel
theorem e_ix_6 : decode prog_23_method_79_code 6 = .ok (.ireturn, 1) := by decide +kernel
theorem w_ix : xMY yJ_ix 1 := ⟨x_tb (tb1 10 (by decide +kernel)) rfl, x_tb (tb2 217 (by decide +kernel)) rfl, by decide +kernel, by decide⟩
theorem wi_ix : Cond.instanceMethod nJ_ix ∈ xTB := x_tb (tb2 215 (by decide +kernel)) rfl
theorem wv_ix : Cond.selects "java/lang/String" nJ_ix nJ_ix ∈ xTB := x_tb (tb2 216 (by decide +kernel)) rfl
def nJ_ix2 : MethodName := ⟨"java/lang/String", "indexOf", "(II)I"⟩
abbrev yJ_ix2 : xMD := (nJ_ix2, prog_23_method_80_code, 3, (some .int))
theorem e_ix2_0 : decode prog_23_method_80_code 0 = .ok (.aload_n 0, 1) := by decide +kernel
theorem e_ix2_1 : decode prog_23_method_80_code 1 = .ok (.invokevirtual 492, 3) := by decide +kernel
theorem e_ix2_4 : decode prog_23_method_80_code 4 = .ok (.ifCond .eq 19, 3) := by decide +kernel
theorem e_ix2_7 : decode prog_23_method_80_code 7 = .ok (.aload_n 0, 1) := by decide +kernel
theorem e_ix2_8 : decode prog_23_method_80_code 8 = .ok (.getfield 9, 3) := by decide +kernel
theorem e_ix2_11 : decode prog_23_method_80_code 11 = .ok (.iload_n 1, 1) := by decide +kernel
theorem e_ix2_12 : decode prog_23_method_80_code 12 = .ok (.iload_n 2, 1) := by decide +kernel
theorem e_ix2_13 : decode prog_23_method_80_code 13 = .ok (.aload_n 0, 1) := by decide +kernel
theorem e_ix2_14 : decode prog_23_method_80_code 14 = .ok (.invokevirtual 505, 3) := by decide +kernel
theorem e_ix2_17 : decode prog_23_method_80_code 17 = .ok (.invokestatic 637, 3) := by decide +kernel
theorem e_ix2_20 : decode prog_23_method_80_code 20 = .ok (.goto 16, 3) := by decide +kernel
theorem e_ix2_23 : decode prog_23_method_80_code 23 = .ok (.aload_n 0, 1) := by decide +kernel
theorem e_ix2_24 : decode prog_23_method_80_code 24 = .ok (.getfield 9, 3) := by decide +kernel
theorem e_ix2_27 : decode prog_23_method_80_code 27 = .ok (.iload_n 1, 1) := by decide +kernel
theorem e_ix2_28 : decode prog_23_method_80_code 28 = .ok (.iload_n 2, 1) := by decide +kernel
theorem e_ix2_29 : decode prog_23_method_80_code 29 = .ok (.aload_n 0, 1) := by decide +kernel
theorem e_ix2_30 : decode prog_23_method_80_code 30 = .ok (.invokevirtual 505, 3) := by decide +kernel
theorem e_ix2_33 : decode prog_23_method_80_code 33 = .ok (.invokestatic 640, 3) := by decide +kernel
theorem e_ix2_36 : decode prog_23_method_80_code 36 = .ok (.ireturn, 1) := by decide +kernel
theorem w_ix2 : xMY yJ_ix2 2 := ⟨x_tb (tb1 10 (by decide +kernel)) rfl, x_tb (tb2 221 (by decide +kernel)) rfl, by decide +kernel, by decide⟩
theorem wi_ix2 : Cond.instanceMethod nJ_ix2 ∈ xTB := x_tb (tb2 219 (by decide +kernel)) rfl
theorem wv_ix2 : Cond.selects "java/lang/String" nJ_ix2 nJ_ix2 ∈ xTB := x_tb (tb2 220 (by decide +kernel)) rfl
def nJ_lix : MethodName := ⟨"java/lang/StringLatin1", "indexOf", "([BIII)I"⟩
abbrev yJ_lix : xMD := (nJ_lix, prog_24_method_22_code, 4, (some .int))
theorem e_lix_0 : decode prog_24_method_22_code 0 = .ok (.iload_n 1, 1) := by decide +kernel
theorem e_lix_1 : decode prog_24_method_22_code 1 = .ok (.invokestatic 88, 3) := by decide +kernel
theorem e_lix_4 : decode prog_24_method_22_code 4 = .ok (.ifCond .ne 5, 3) := by decide +kernel
theorem e_lix_7 : decode prog_24_method_22_code 7 = .ok (.iconst (-1), 1) := by decide +kernel
theorem e_lix_8 : decode prog_24_method_22_code 8 = .ok (.ireturn, 1) := by decide +kernel
theorem e_lix_9 : decode prog_24_method_22_code 9 = .ok (.iload_n 2, 1) := by decide +kernel
theorem e_lix_10 : decode prog_24_method_22_code 10 = .ok (.iconst 0, 1) := by decide +kernel
theorem e_lix_11 : decode prog_24_method_22_code 11 = .ok (.invokestatic 92, 3) := by decide +kernel
theorem e_lix_14 : decode prog_24_method_22_code 14 = .ok (.istore_n 2, 1) := by decide +kernel
theorem e_lix_15 : decode prog_24_method_22_code 15 = .ok (.iload_n 3, 1) := by decide +kernel
theorem e_lix_16 : decode prog_24_method_22_code 16 = .ok (.aload_n 0, 1) := by decide +kernel
theorem e_lix_17 : decode prog_24_method_22_code 17 = .ok (.arraylength, 1) := by decide +kernel
theorem e_lix_18 : decode prog_24_method_22_code 18 = .ok (.invokestatic 38, 3) := by decide +kernel
theorem e_lix_21 : decode prog_24_method_22_code 21 = .ok (.istore_n 3, 1) := by decide +kernel
theorem e_lix_22 : decode prog_24_method_22_code 22 = .ok (.iload_n 2, 1) := by decide +kernel
theorem e_lix_23 : decode prog_24_method_22_code 23 = .ok (.iload_n 3, 1) := by decide +kernel
theorem e_lix_24 : decode prog_24_method_22_code 24 = .ok (.if_icmp .lt 5, 3) := by decide +kernel
theorem e_lix_27 : decode prog_24_method_22_code 27 = .ok (.iconst (-1), 1) := by decide +kernel
theorem e_lix_28 : decode prog_24_method_22_code 28 = .ok (.ireturn, 1) := by decide +kernel
theorem e_lix_29 : decode prog_24_method_22_code 29 = .ok (.aload_n 0, 1) := by decide +kernel
theorem e_lix_30 : decode prog_24_method_22_code 30 = .ok (.iload_n 1, 1) := by decide +kernel
theorem e_lix_31 : decode prog_24_method_22_code 31 = .ok (.iload_n 2, 1) := by decide +kernel
theorem e_lix_32 : decode prog_24_method_22_code 32 = .ok (.iload_n 3, 1) := by decide +kernel
theorem e_lix_33 : decode prog_24_method_22_code 33 = .ok (.invokestatic 95, 3) := by decide +kernel
theorem e_lix_36 : decode prog_24_method_22_code 36 = .ok (.ireturn, 1) := by decide +kernel
theorem w_lix : xMY yJ_lix 4 := ⟨x_tb (tb1 17 (by decide +kernel)) rfl, x_tb (tb2 229 (by decide +kernel)) rfl, by decide +kernel, by decide⟩
theorem ws_lix : Cond.static nJ_lix ∈ xTB := x_tb (tb2 228 (by decide +kernel)) rfl
def nJ_can : MethodName := ⟨"java/lang/StringLatin1", "canEncode", "(I)Z"⟩
abbrev yJ_can : xMD := (nJ_can, prog_24_method_4_code, 1, (some .boolean))
theorem e_can_0 : decode prog_24_method_4_code 0 = .ok (.iload_n 0, 1) := by decide +kernel
theorem e_can_1 : decode prog_24_method_4_code 1 = .ok (.ifCond .lt 14, 3) := by decide +kernel
theorem e_can_4 : decode prog_24_method_4_code 4 = .ok (.iload_n 0, 1) := by decide +kernel
theorem e_can_5 : decode prog_24_method_4_code 5 = .ok (.sipush 255, 3) := by decide +kernel
theorem e_can_8 : decode prog_24_method_4_code 8 = .ok (.if_icmp .gt 7, 3) := by decide +kernel
theorem e_can_11 : decode prog_24_method_4_code 11 = .ok (.iconst 1, 1) := by decide +kernel
theorem e_can_12 : decode prog_24_method_4_code 12 = .ok (.goto 4, 3) := by decide +kernel
theorem e_can_15 : decode prog_24_method_4_code 15 = .ok (.iconst 0, 1) := by decide +kernel
theorem e_can_16 : decode prog_24_method_4_code 16 = .ok (.ireturn, 1) := by decide +kernel
theorem w_can : xMY yJ_can 1 := ⟨x_tb (tb1 17 (by decide +kernel)) rfl, x_tb (tb2 232 (by decide +kernel)) rfl, by decide +kernel, by decide⟩
theorem ws_can : Cond.static nJ_can ∈ xTB := x_tb (tb2 231 (by decide +kernel)) rfl
def nJ_ixc : MethodName := ⟨"java/lang/StringLatin1", "indexOfChar", "([BIII)I"⟩
abbrev yJ_ixc : xMD := (nJ_ixc, prog_24_method_23_code, 6, (some .int))
theorem e_ixc_0 : decode prog_24_method_23_code 0 = .ok (.iload_n 1, 1) := by decide +kernel
theorem e_ixc_1 : decode prog_24_method_23_code 1 = .ok (.i2b, 1) := by decide +kernel
theorem e_ixc_2 : decode prog_24_method_23_code 2 = .ok (.istore 4, 2) := by decide +kernel
theorem e_ixc_4 : decode prog_24_method_23_code 4 = .ok (.iload_n 2, 1) := by decide +kernel
theorem e_ixc_5 : decode prog_24_method_23_code 5 = .ok (.istore 5, 2) := by decide +kernel
theorem e_ixc_7 : decode prog_24_method_23_code 7 = .ok (.iload 5, 2) := by decide +kernel
theorem e_ixc_9 : decode prog_24_method_23_code 9 = .ok (.iload_n 3, 1) := by decide +kernel
theorem e_ixc_10 : decode prog_24_method_23_code 10 = .ok (.if_icmp .ge 21, 3) := by decide +kernel
theorem e_ixc_13 : decode prog_24_method_23_code 13 = .ok (.aload_n 0, 1) := by decide +kernel
theorem e_ixc_14 : decode prog_24_method_23_code 14 = .ok (.iload 5, 2) := by decide +kernel
theorem e_ixc_16 : decode prog_24_method_23_code 16 = .ok (.baload, 1) := by decide +kernel
theorem e_ixc_17 : decode prog_24_method_23_code 17 = .ok (.iload 4, 2) := by decide +kernel
theorem e_ixc_19 : decode prog_24_method_23_code 19 = .ok (.if_icmp .ne 6, 3) := by decide +kernel
theorem e_ixc_22 : decode prog_24_method_23_code 22 = .ok (.iload 5, 2) := by decide +kernel
theorem e_ixc_24 : decode prog_24_method_23_code 24 = .ok (.ireturn, 1) := by decide +kernel
theorem e_ixc_25 : decode prog_24_method_23_code 25 = .ok (.iinc 5 1, 3) := by decide +kernel
theorem e_ixc_28 : decode prog_24_method_23_code 28 = .ok (.goto (-21), 3) := by decide +kernel
theorem e_ixc_31 : decode prog_24_method_23_code 31 = .ok (.iconst (-1), 1) := by decide +kernel
theorem e_ixc_32 : decode prog_24_method_23_code 32 = .ok (.ireturn, 1) := by decide +kernel
theorem w_ixc : xMY yJ_ixc 4 := ⟨x_tb (tb1 17 (by decide +kernel)) rfl, x_tb (tb2 239 (by decide +kernel)) rfl, by decide +kernel, by decide⟩
theorem ws_ixc : Cond.static nJ_ixc ∈ xTB := x_tb (tb2 238 (by decide +kernel)) rfl
def nJ_sub : MethodName := ⟨"java/lang/String", "substring", "(I)Ljava/lang/String;"⟩
abbrev yJ_sub : xMD := (nJ_sub, prog_23_method_91_code, 2, (some (.object "java/lang/String")))
theorem e_sub_0 : decode prog_23_method_91_code 0 = .ok (.aload_n 0, 1) := by decide +kernel
theorem e_sub_1 : decode prog_23_method_91_code 1 = .ok (.iload_n 1, 1) := by decide +kernel
theorem e_sub_2 : decode prog_23_method_91_code 2 = .ok (.aload_n 0, 1) := by decide +kernel
theorem e_sub_3 : decode prog_23_method_91_code 3 = .ok (.invokevirtual 505, 3) := by decide +kernel
theorem e_sub_6 : decode prog_23_method_91_code 6 = .ok (.invokevirtual 681, 3) := by decide +kernel
theorem e_sub_9 : decode prog_23_method_91_code 9 = .ok (.areturn, 1) := by decide +kernel
theorem w_sub : xMY yJ_sub 1 := ⟨x_tb (tb1 10 (by decide +kernel)) rfl, x_tb (tb6 116 (by decide +kernel)) rfl, by decide +kernel, by decide⟩
theorem wi_sub : Cond.instanceMethod nJ_sub ∈ xTB := x_tb (tb6 114 (by decide +kernel)) rfl
theorem wv_sub : Cond.selects "java/lang/String" nJ_sub nJ_sub ∈ xTB := x_tb (tb6 115 (by decide +kernel)) rfl
def nJ_sub2 : MethodName := ⟨"java/lang/String", "substring", "(II)Ljava/lang/String;"⟩
abbrev yJ_sub2 : xMD := (nJ_sub2, prog_23_method_92_code, 5, (some (.object "java/lang/String")))
theorem e_sub2_0 : decode prog_23_method_92_code 0 = .ok (.aload_n 0, 1) := by decide +kernel
theorem e_sub2_1 : decode prog_23_method_92_code 1 = .ok (.invokevirtual 505, 3) := by decide +kernel
theorem e_sub2_4 : decode prog_23_method_92_code 4 = .ok (.istore_n 3, 1) := by decide +kernel
theorem e_sub2_5 : decode prog_23_method_92_code 5 = .ok (.iload_n 1, 1) := by decide +kernel
theorem e_sub2_6 : decode prog_23_method_92_code 6 = .ok (.iload_n 2, 1) := by decide +kernel
theorem e_sub2_7 : decode prog_23_method_92_code 7 = .ok (.iload_n 3, 1) := by decide +kernel
theorem e_sub2_8 : decode prog_23_method_92_code 8 = .ok (.invokestatic 521, 3) := by decide +kernel
theorem e_sub2_11 : decode prog_23_method_92_code 11 = .ok (.iload_n 1, 1) := by decide +kernel
theorem e_sub2_12 : decode prog_23_method_92_code 12 = .ok (.ifCond .ne 10, 3) := by decide +kernel
theorem e_sub2_15 : decode prog_23_method_92_code 15 = .ok (.iload_n 2, 1) := by decide +kernel
theorem e_sub2_16 : decode prog_23_method_92_code 16 = .ok (.iload_n 3, 1) := by decide +kernel
theorem e_sub2_17 : decode prog_23_method_92_code 17 = .ok (.if_icmp .ne 5, 3) := by decide +kernel
theorem e_sub2_20 : decode prog_23_method_92_code 20 = .ok (.aload_n 0, 1) := by decide +kernel
theorem e_sub2_21 : decode prog_23_method_92_code 21 = .ok (.areturn, 1) := by decide +kernel
theorem e_sub2_22 : decode prog_23_method_92_code 22 = .ok (.iload_n 2, 1) := by decide +kernel
theorem e_sub2_23 : decode prog_23_method_92_code 23 = .ok (.iload_n 1, 1) := by decide +kernel
theorem e_sub2_24 : decode prog_23_method_92_code 24 = .ok (.isub, 1) := by decide +kernel
theorem e_sub2_25 : decode prog_23_method_92_code 25 = .ok (.istore 4, 2) := by decide +kernel
theorem e_sub2_27 : decode prog_23_method_92_code 27 = .ok (.aload_n 0, 1) := by decide +kernel
theorem e_sub2_28 : decode prog_23_method_92_code 28 = .ok (.invokevirtual 492, 3) := by decide +kernel
theorem e_sub2_31 : decode prog_23_method_92_code 31 = .ok (.ifCond .eq 16, 3) := by decide +kernel
theorem e_sub2_34 : decode prog_23_method_92_code 34 = .ok (.aload_n 0, 1) := by decide +kernel
theorem e_sub2_35 : decode prog_23_method_92_code 35 = .ok (.getfield 9, 3) := by decide +kernel
theorem e_sub2_38 : decode prog_23_method_92_code 38 = .ok (.iload_n 1, 1) := by decide +kernel
theorem e_sub2_39 : decode prog_23_method_92_code 39 = .ok (.iload 4, 2) := by decide +kernel
theorem e_sub2_41 : decode prog_23_method_92_code 41 = .ok (.invokestatic 685, 3) := by decide +kernel
theorem e_sub2_44 : decode prog_23_method_92_code 44 = .ok (.goto 13, 3) := by decide +kernel
theorem e_sub2_47 : decode prog_23_method_92_code 47 = .ok (.aload_n 0, 1) := by decide +kernel
theorem e_sub2_48 : decode prog_23_method_92_code 48 = .ok (.getfield 9, 3) := by decide +kernel
theorem e_sub2_51 : decode prog_23_method_92_code 51 = .ok (.iload_n 1, 1) := by decide +kernel
theorem e_sub2_52 : decode prog_23_method_92_code 52 = .ok (.iload 4, 2) := by decide +kernel
theorem e_sub2_54 : decode prog_23_method_92_code 54 = .ok (.invokestatic 689, 3) := by decide +kernel
theorem e_sub2_57 : decode prog_23_method_92_code 57 = .ok (.areturn, 1) := by decide +kernel
theorem w_sub2 : xMY yJ_sub2 2 := ⟨x_tb (tb1 10 (by decide +kernel)) rfl, x_tb (tb6 120 (by decide +kernel)) rfl, by decide +kernel, by decide⟩
theorem wi_sub2 : Cond.instanceMethod nJ_sub2 ∈ xTB := x_tb (tb6 118 (by decide +kernel)) rfl
theorem wv_sub2 : Cond.selects "java/lang/String" nJ_sub2 nJ_sub2 ∈ xTB := x_tb (tb6 119 (by decide +kernel)) rfl
def nJ_cbe : MethodName := ⟨"java/lang/String", "checkBoundsBeginEnd", "(III)V"⟩
abbrev yJ_cbe : xMD := (nJ_cbe, prog_23_method_158_code, 3, none)
theorem e_cbe_0 : decode prog_23_method_158_code 0 = .ok (.iload_n 0, 1) := by decide +kernel
theorem e_cbe_1 : decode prog_23_method_158_code 1 = .ok (.iload_n 1, 1) := by decide +kernel
theorem e_cbe_2 : decode prog_23_method_158_code 2 = .ok (.iload_n 2, 1) := by decide +kernel
theorem e_cbe_3 : decode prog_23_method_158_code 3 = .ok (.getstatic 1053, 3) := by decide +kernel
theorem e_cbe_6 : decode prog_23_method_158_code 6 = .ok (.invokestatic 1062, 3) := by decide +kernel
theorem e_cbe_9 : decode prog_23_method_158_code 9 = .ok (.pop, 1) := by decide +kernel
theorem e_cbe_10 : decode prog_23_method_158_code 10 = .ok (.return_, 1) := by decide +kernel
theorem w_cbe : xMY yJ_cbe 3 := ⟨x_tb (tb1 10 (by decide +kernel)) rfl, x_tb (tb3 17 (by decide +kernel)) rfl, by decide +kernel, by decide⟩
theorem ws_cbe : Cond.static nJ_cbe ∈ xTB := x_tb (tb3 16 (by decide +kernel)) rfl
def nJ_pft : MethodName := ⟨"jdk/internal/util/Preconditions", "checkFromToIndex", "(IIILjava/util/function/BiFunction;)I"⟩
abbrev yJ_pft : xMD := (nJ_pft, prog_32_method_12_code, 4, (some .int))
theorem e_pft_0 : decode prog_32_method_12_code 0 = .ok (.iload_n 0, 1) := by decide +kernel
theorem e_pft_1 : decode prog_32_method_12_code 1 = .ok (.ifCond .lt 13, 3) := by decide +kernel
theorem e_pft_4 : decode prog_32_method_12_code 4 = .ok (.iload_n 0, 1) := by decide +kernel
theorem e_pft_5 : decode prog_32_method_12_code 5 = .ok (.iload_n 1, 1) := by decide +kernel
theorem e_pft_6 : decode prog_32_method_12_code 6 = .ok (.if_icmp .gt 8, 3) := by decide +kernel
theorem e_pft_9 : decode prog_32_method_12_code 9 = .ok (.iload_n 1, 1) := by decide +kernel
theorem e_pft_10 : decode prog_32_method_12_code 10 = .ok (.iload_n 2, 1) := by decide +kernel
theorem e_pft_11 : decode prog_32_method_12_code 11 = .ok (.if_icmp .le 11, 3) := by decide +kernel
theorem e_pft_14 : decode prog_32_method_12_code 14 = .ok (.aload_n 3, 1) := by decide +kernel
theorem e_pft_15 : decode prog_32_method_12_code 15 = .ok (.iload_n 0, 1) := by decide +kernel
theorem e_pft_16 : decode prog_32_method_12_code 16 = .ok (.iload_n 1, 1) := by decide +kernel
theorem e_pft_17 : decode prog_32_method_12_code 17 = .ok (.iload_n 2, 1) := by decide +kernel
theorem e_pft_18 : decode prog_32_method_12_code 18 = .ok (.invokestatic 99, 3) := by decide +kernel
theorem e_pft_21 : decode prog_32_method_12_code 21 = .ok (.athrow, 1) := by decide +kernel
theorem e_pft_22 : decode prog_32_method_12_code 22 = .ok (.iload_n 0, 1) := by decide +kernel
theorem e_pft_23 : decode prog_32_method_12_code 23 = .ok (.ireturn, 1) := by decide +kernel
theorem w_pft : xMY yJ_pft 4 := ⟨x_tb (tb1 16 (by decide +kernel)) rfl, x_tb (tb3 22 (by decide +kernel)) rfl, by decide +kernel, by decide⟩
theorem ws_pft : Cond.static nJ_pft ∈ xTB := x_tb (tb3 21 (by decide +kernel)) rfl
def nJ_news : MethodName := ⟨"java/lang/StringLatin1", "newString", "([BII)Ljava/lang/String;"⟩
abbrev yJ_news : xMD := (nJ_news, prog_24_method_47_code, 3, (some (.object "java/lang/String")))
theorem e_news_0 : decode prog_24_method_47_code 0 = .ok (.iload_n 2, 1) := by decide +kernel
theorem e_news_1 : decode prog_24_method_47_code 1 = .ok (.ifCond .ne 6, 3) := by decide +kernel
theorem e_news_4 : decode prog_24_method_47_code 4 = .ok (.ldc 151, 2) := by decide +kernel
theorem e_news_6 : decode prog_24_method_47_code 6 = .ok (.areturn, 1) := by decide +kernel
theorem e_news_7 : decode prog_24_method_47_code 7 = .ok (.new 1, 3) := by decide +kernel
theorem e_news_10 : decode prog_24_method_47_code 10 = .ok (.dup, 1) := by decide +kernel
theorem e_news_11 : decode prog_24_method_47_code 11 = .ok (.aload_n 0, 1) := by decide +kernel
theorem e_news_12 : decode prog_24_method_47_code 12 = .ok (.iload_n 1, 1) := by decide +kernel
theorem e_news_13 : decode prog_24_method_47_code 13 = .ok (.iload_n 1, 1) := by decide +kernel
theorem e_news_14 : decode prog_24_method_47_code 14 = .ok (.iload_n 2, 1) := by decide +kernel
theorem e_news_15 : decode prog_24_method_47_code 15 = .ok (.iadd, 1) := by decide +kernel
theorem e_news_16 : decode prog_24_method_47_code 16 = .ok (.invokestatic 232, 3) := by decide +kernel
theorem e_news_19 : decode prog_24_method_47_code 19 = .ok (.iconst 0, 1) := by decide +kernel
theorem e_news_20 : decode prog_24_method_47_code 20 = .ok (.invokespecial 112, 3) := by decide +kernel
theorem e_news_23 : decode prog_24_method_47_code 23 = .ok (.areturn, 1) := by decide +kernel
theorem w_news : xMY yJ_news 3 := ⟨x_tb (tb1 17 (by decide +kernel)) rfl, x_tb (tb6 124 (by decide +kernel)) rfl, by decide +kernel, by decide⟩
theorem ws_news : Cond.static nJ_news ∈ xTB := x_tb (tb6 123 (by decide +kernel)) rfl
def nJ_cor : MethodName := ⟨"java/util/Arrays", "copyOfRange", "([BII)[B"⟩
abbrev yJ_cor : xMD := (nJ_cor, prog_30_method_132_code, 3, (some (.array .byte)))
theorem e_cor_0 : decode prog_30_method_132_code 0 = .ok (.iload_n 1, 1) := by decide +kernel
theorem e_cor_1 : decode prog_30_method_132_code 1 = .ok (.ifCond .ne 9, 3) := by decide +kernel
theorem e_cor_4 : decode prog_30_method_132_code 4 = .ok (.iload_n 2, 1) := by decide +kernel
theorem e_cor_5 : decode prog_30_method_132_code 5 = .ok (.aload_n 0, 1) := by decide +kernel
theorem e_cor_6 : decode prog_30_method_132_code 6 = .ok (.arraylength, 1) := by decide +kernel
theorem e_cor_7 : decode prog_30_method_132_code 7 = .ok (.if_icmp .eq 10, 3) := by decide +kernel
theorem e_cor_10 : decode prog_30_method_132_code 10 = .ok (.aload_n 0, 1) := by decide +kernel
theorem e_cor_11 : decode prog_30_method_132_code 11 = .ok (.iload_n 1, 1) := by decide +kernel
theorem e_cor_12 : decode prog_30_method_132_code 12 = .ok (.iload_n 2, 1) := by decide +kernel
theorem e_cor_13 : decode prog_30_method_132_code 13 = .ok (.invokestatic 339, 3) := by decide +kernel
theorem e_cor_16 : decode prog_30_method_132_code 16 = .ok (.areturn, 1) := by decide +kernel
theorem e_cor_17 : decode prog_30_method_132_code 17 = .ok (.aload_n 0, 1) := by decide +kernel
theorem e_cor_18 : decode prog_30_method_132_code 18 = .ok (.invokevirtual 310, 3) := by decide +kernel
theorem e_cor_21 : decode prog_30_method_132_code 21 = .ok (.checkcast 311, 3) := by decide +kernel
theorem e_cor_24 : decode prog_30_method_132_code 24 = .ok (.areturn, 1) := by decide +kernel
theorem w_cor : xMY yJ_cor 3 := ⟨x_tb (tb1 18 (by decide +kernel)) rfl, x_tb (tb6 130 (by decide +kernel)) rfl, by decide +kernel, by decide⟩
theorem ws_cor : Cond.static nJ_cor ∈ xTB := x_tb (tb6 129 (by decide +kernel)) rfl
def nJ_corb : MethodName := ⟨"java/util/Arrays", "copyOfRangeByte", "([BII)[B"⟩
abbrev yJ_corb : xMD := (nJ_corb, prog_30_method_133_code, 5, (some (.array .byte)))
theorem e_corb_0 : decode prog_30_method_133_code 0 = .ok (.iload_n 1, 1) := by decide +kernel
theorem e_corb_1 : decode prog_30_method_133_code 1 = .ok (.iload_n 2, 1) := by decide +kernel
theorem e_corb_2 : decode prog_30_method_133_code 2 = .ok (.invokestatic 343, 3) := by decide +kernel
theorem e_corb_5 : decode prog_30_method_133_code 5 = .ok (.iload_n 2, 1) := by decide +kernel
theorem e_corb_6 : decode prog_30_method_133_code 6 = .ok (.iload_n 1, 1) := by decide +kernel
theorem e_corb_7 : decode prog_30_method_133_code 7 = .ok (.isub, 1) := by decide +kernel
theorem e_corb_8 : decode prog_30_method_133_code 8 = .ok (.istore_n 3, 1) := by decide +kernel
theorem e_corb_9 : decode prog_30_method_133_code 9 = .ok (.iload_n 3, 1) := by decide +kernel
theorem e_corb_10 : decode prog_30_method_133_code 10 = .ok (.newarray .byte, 2) := by decide +kernel
theorem e_corb_12 : decode prog_30_method_133_code 12 = .ok (.astore 4, 2) := by decide +kernel
theorem e_corb_14 : decode prog_30_method_133_code 14 = .ok (.aload_n 0, 1) := by decide +kernel
theorem e_corb_15 : decode prog_30_method_133_code 15 = .ok (.iload_n 1, 1) := by decide +kernel
theorem e_corb_16 : decode prog_30_method_133_code 16 = .ok (.aload 4, 2) := by decide +kernel
theorem e_corb_18 : decode prog_30_method_133_code 18 = .ok (.iconst 0, 1) := by decide +kernel
theorem e_corb_19 : decode prog_30_method_133_code 19 = .ok (.aload_n 0, 1) := by decide +kernel
theorem e_corb_20 : decode prog_30_method_133_code 20 = .ok (.arraylength, 1) := by decide +kernel
theorem e_corb_21 : decode prog_30_method_133_code 21 = .ok (.iload_n 1, 1) := by decide +kernel
theorem e_corb_22 : decode prog_30_method_133_code 22 = .ok (.isub, 1) := by decide +kernel
theorem e_corb_23 : decode prog_30_method_133_code 23 = .ok (.iload_n 3, 1) := by decide +kernel
theorem e_corb_24 : decode prog_30_method_133_code 24 = .ok (.invokestatic 304, 3) := by decide +kernel
theorem e_corb_27 : decode prog_30_method_133_code 27 = .ok (.invokestatic 150, 3) := by decide +kernel
theorem e_corb_30 : decode prog_30_method_133_code 30 = .ok (.aload 4, 2) := by decide +kernel
theorem e_corb_32 : decode prog_30_method_133_code 32 = .ok (.areturn, 1) := by decide +kernel
theorem w_corb : xMY yJ_corb 3 := ⟨x_tb (tb1 18 (by decide +kernel)) rfl, x_tb (tb6 133 (by decide +kernel)) rfl, by decide +kernel, by decide⟩
theorem ws_corb : Cond.static nJ_corb ∈ xTB := x_tb (tb6 132 (by decide +kernel)) rfl
def nJ_cl : MethodName := ⟨"java/util/Arrays", "checkLength", "(II)V"⟩
abbrev yJ_cl : xMD := (nJ_cl, prog_30_method_131_code, 2, none)
theorem e_cl_0 : decode prog_30_method_131_code 0 = .ok (.iload_n 1, 1) := by decide +kernel
theorem e_cl_1 : decode prog_30_method_131_code 1 = .ok (.iload_n 0, 1) := by decide +kernel
theorem e_cl_2 : decode prog_30_method_131_code 2 = .ok (.if_icmp .ge 35, 3) := by decide +kernel
theorem e_cl_5 : decode prog_30_method_131_code 5 = .ok (.new 43, 3) := by decide +kernel
theorem e_cl_8 : decode prog_30_method_131_code 8 = .ok (.dup, 1) := by decide +kernel
theorem e_cl_9 : decode prog_30_method_131_code 9 = .ok (.new 45, 3) := by decide +kernel
theorem e_cl_12 : decode prog_30_method_131_code 12 = .ok (.dup, 1) := by decide +kernel
theorem e_cl_13 : decode prog_30_method_131_code 13 = .ok (.invokespecial 47, 3) := by decide +kernel
theorem e_cl_16 : decode prog_30_method_131_code 16 = .ok (.iload_n 0, 1) := by decide +kernel
theorem e_cl_17 : decode prog_30_method_131_code 17 = .ok (.invokevirtual 54, 3) := by decide +kernel
theorem e_cl_20 : decode prog_30_method_131_code 20 = .ok (.ldc_w 337, 3) := by decide +kernel
theorem e_cl_23 : decode prog_30_method_131_code 23 = .ok (.invokevirtual 50, 3) := by decide +kernel
theorem e_cl_26 : decode prog_30_method_131_code 26 = .ok (.iload_n 1, 1) := by decide +kernel
theorem e_cl_27 : decode prog_30_method_131_code 27 = .ok (.invokevirtual 54, 3) := by decide +kernel
theorem e_cl_30 : decode prog_30_method_131_code 30 = .ok (.invokevirtual 61, 3) := by decide +kernel
theorem e_cl_33 : decode prog_30_method_131_code 33 = .ok (.invokespecial 65, 3) := by decide +kernel
theorem e_cl_36 : decode prog_30_method_131_code 36 = .ok (.athrow, 1) := by decide +kernel
theorem e_cl_37 : decode prog_30_method_131_code 37 = .ok (.return_, 1) := by decide +kernel
theorem w_cl : xMY yJ_cl 2 := ⟨x_tb (tb1 18 (by decide +kernel)) rfl, x_tb (tb6 136 (by decide +kernel)) rfl, by decide +kernel, by decide⟩
theorem ws_cl : Cond.static nJ_cl ∈ xTB := x_tb (tb6 135 (by decide +kernel)) rfl
def nJ_sinit : MethodName := ⟨"java/lang/String", "<init>", "([BB)V"⟩
abbrev yJ_sinit : xMD := (nJ_sinit, prog_23_method_151_code, 3, none)
theorem e_sinit_0 : decode prog_23_method_151_code 0 = .ok (.aload_n 0, 1) := by decide +kernel
theorem e_sinit_1 : decode prog_23_method_151_code 1 = .ok (.invokespecial 1, 3) := by decide +kernel
theorem e_sinit_4 : decode prog_23_method_151_code 4 = .ok (.aload_n 0, 1) := by decide +kernel
theorem e_sinit_5 : decode prog_23_method_151_code 5 = .ok (.aload_n 1, 1) := by decide +kernel
theorem e_sinit_6 : decode prog_23_method_151_code 6 = .ok (.putfield 9, 3) := by decide +kernel
theorem e_sinit_9 : decode prog_23_method_151_code 9 = .ok (.aload_n 0, 1) := by decide +kernel
theorem e_sinit_10 : decode prog_23_method_151_code 10 = .ok (.iload_n 2, 1) := by decide +kernel
theorem e_sinit_11 : decode prog_23_method_151_code 11 = .ok (.putfield 15, 3) := by decide +kernel
theorem e_sinit_14 : decode prog_23_method_151_code 14 = .ok (.return_, 1) := by decide +kernel
theorem w_sinit : xMY yJ_sinit 2 := ⟨x_tb (tb1 10 (by decide +kernel)) rfl, x_tb (tb6 148 (by decide +kernel)) rfl, by decide +kernel, by decide⟩
theorem wi_sinit : Cond.instanceMethod nJ_sinit ∈ xTB := x_tb (tb6 147 (by decide +kernel)) rfl
theorem wl_String_335 : Cond.methodLink "java/lang/String" 335 nJ_coder ∈ xTB := x_tb (tb1 195 (by decide +kernel)) rfl
theorem wl_String_492 : Cond.methodLink "java/lang/String" 492 nJ_lat ∈ xTB := x_tb (tb2 222 (by decide +kernel)) rfl
theorem wl_String_495 : Cond.methodLink "java/lang/String" 495 nJ_lchat ∈ xTB := x_tb (tb6 200 (by decide +kernel)) rfl
theorem wl_StringLatin1_9 : Cond.methodLink "java/lang/StringLatin1" 9 nJ_ci ∈ xTB := x_tb (tb6 203 (by decide +kernel)) rfl
theorem wl_String_1059 : Cond.methodLink "java/lang/String" 1059 nJ_pci ∈ xTB := x_tb (tb6 206 (by decide +kernel)) rfl
theorem wl_String_633 : Cond.methodLink "java/lang/String" 633 nJ_ix2 ∈ xTB := x_tb (tb2 218 (by decide +kernel)) rfl
theorem wl_String_505 : Cond.methodLink "java/lang/String" 505 nJ_len ∈ xTB := x_tb (tb2 226 (by decide +kernel)) rfl
theorem wl_String_637 : Cond.methodLink "java/lang/String" 637 nJ_lix ∈ xTB := x_tb (tb2 227 (by decide +kernel)) rfl
theorem wl_StringLatin1_88 : Cond.methodLink "java/lang/StringLatin1" 88 nJ_can ∈ xTB := x_tb (tb2 230 (by decide +kernel)) rfl
theorem wl_StringLatin1_95 : Cond.methodLink "java/lang/StringLatin1" 95 nJ_ixc ∈ xTB := x_tb (tb2 237 (by decide +kernel)) rfl
theorem wl_String_681 : Cond.methodLink "java/lang/String" 681 nJ_sub2 ∈ xTB := x_tb (tb6 117 (by decide +kernel)) rfl
theorem wl_String_521 : Cond.methodLink "java/lang/String" 521 nJ_cbe ∈ xTB := x_tb (tb6 121 (by decide +kernel)) rfl
theorem wl_String_1062 : Cond.methodLink "java/lang/String" 1062 nJ_pft ∈ xTB := x_tb (tb3 20 (by decide +kernel)) rfl
theorem wl_String_685 : Cond.methodLink "java/lang/String" 685 nJ_news ∈ xTB := x_tb (tb6 122 (by decide +kernel)) rfl
theorem wl_StringLatin1_232 : Cond.methodLink "java/lang/StringLatin1" 232 nJ_cor ∈ xTB := x_tb (tb6 128 (by decide +kernel)) rfl
theorem wl_Arrays_339 : Cond.methodLink "java/util/Arrays" 339 nJ_corb ∈ xTB := x_tb (tb6 131 (by decide +kernel)) rfl
theorem wl_Arrays_343 : Cond.methodLink "java/util/Arrays" 343 nJ_cl ∈ xTB := x_tb (tb6 134 (by decide +kernel)) rfl
theorem wl_StringLatin1_112 : Cond.methodLink "java/lang/StringLatin1" 112 nJ_sinit ∈ xTB := x_tb (tb6 146 (by decide +kernel)) rfl
theorem wl_NoonGunRule_87 : Cond.methodLink "NoonGun$Rule" 87 nJ_ix ∈ xTB := x_tb (tb2 214 (by decide +kernel)) rfl
theorem wl_NoonGunBang_13 : Cond.methodLink "NoonGun$Bang" 13 nJ_len ∈ xTB := x_tb (tb1 191 (by decide +kernel)) rfl
theorem wl_NoonGunModel_167 : Cond.methodLink "NoonGunModel" 167 nJ_len ∈ xTB := x_tb (tb6 195 (by decide +kernel)) rfl
theorem wl_NoonGunModel_173 : Cond.methodLink "NoonGunModel" 173 nJ_chat ∈ xTB := x_tb (tb6 196 (by decide +kernel)) rfl
theorem wl_NoonGunModel_193 : Cond.methodLink "NoonGunModel" 193 nJ_sub ∈ xTB := x_tb (tb6 113 (by decide +kernel)) rfl
theorem wf_9 : Cond.fieldLink "java/lang/String" 9 "java/lang/String" "value" "[B" ∈ xTB := x_tb (tb6 150 (by decide +kernel)) rfl
theorem wf_15 : Cond.fieldLink "java/lang/String" 15 "java/lang/String" "coder" "B" ∈ xTB := x_tb (tb6 151 (by decide +kernel)) rfl
theorem wf_38 : Cond.fieldLink "java/lang/String" 38 "java/lang/String" "COMPACT_STRINGS" "Z" ∈ xTB := x_tb (tb1 199 (by decide +kernel)) rfl
theorem wf_1053 : Cond.fieldLink "java/lang/String" 1053 "jdk/internal/util/Preconditions" "SIOOBE_FORMATTER" "Ljava/util/function/BiFunction;" ∈ xTB := x_tb (tb3 18 (by decide +kernel)) rfl
/-! a text at a, its bytes at t -/
def xSK (a t : Nat) (w : List Int) (U : State) : Prop := va_O "java/lang/String" a (fun _ => False) U U.heap ∧ va_OF "java/lang/String" "coder" "B" (.int 0) a (fun _ => False) U U.heap ∧ va_OF "java/lang/String" "value" "[B" (.ref t) a (fun _ => False) U U.heap ∧ va_T .byte t w.length (fun j => .int (Int32.ofInt (w.getD j 0))) (fun _ => False) U U.heap ∧ va_Z "java/lang/String" "COMPACT_STRINGS" "Z" (.int 1) (fun _ => False) U U.heap ∧ va_Zq "jdk/internal/util/Preconditions" "SIOOBE_FORMATTER" "Ljava/util/function/BiFunction;" (fun _ => False) U U.heap
theorem xSK_go {a t : Nat} {w : List Int} {s U : State} (hvm : s.vm.Alike U.vm) (hh : U.heap = s.heap) (h : xSK a t w s) : xSK a t w U := by
  obtain ⟨h1, h2, h3, h4, h5, h6⟩ := h
  refine ⟨?_, ?_, ?_, ?_, ?_, ?_⟩ <;> rw [hh]
  · exact h1.moved hvm
  · exact h2.moved hvm
  · exact h3.moved hvm
  · exact h4.moved hvm
  · exact h5.moved hvm
  · exact h6.moved hvm
theorem xSK_of {E : xE} {i : Nat} {q : String × Nat × String × List Int} {s : State} (h : xTx E s) (hi : xLits[i]? = some q) : ∃ t, ∀ (H : Heap) (locs : List Loc) (U : State), va_S (xA E) s.heap H locs → U.heap = H → s.vm.Alike U.vm → xSK (E.2.1 i) t q.2.2.2 U := by
  obtain ⟨h1, h2, -, h5, -, -⟩ := h
  obtain ⟨g1, g2, t, g3, g4, -⟩ := (h1 i q hi).2
  refine ⟨t, fun H locs U hS hU hvm => ?_⟩
  refine ⟨?_, ?_, ?_, ?_, ?_, ?_⟩ <;> rw [hU]
  · exact ((g1.moved hvm).kept hS.2.1).narrow (fun _ h => h.elim)
  · exact ((g2.moved hvm).kept hS.2.1).narrow (fun _ h => h.elim)
  · exact ((g3.moved hvm).kept hS.2.1).narrow (fun _ h => h.elim)
  · exact ((g4.moved hvm).kept hS.2.1).narrow (fun _ h => h.elim)
  · exact ((h2.moved hvm).kept hS.2.1).narrow (fun _ h => h.elim)
  · exact ((h5.moved hvm).kept hS.2.1).narrow (fun _ h => h.elim)
/-- a method that only reads: its contract -/
def xJ (d : Nat) (Y : xMD) (as : List Value) (v : Option Value) (B : State → Prop) : Prop :=
  ∀ l : Launch, Met l Y.1 (Cond.code Y.1 Y.2.1 Y.2.2.1 Y.2.2.2 :: xTB) (xrm d 0 0) (va_Pc as B) (fun _ st o t => o = .returned v ∧ t.heap = st.heap) 0 0 (fun _ => False)
def jF (Y : xMD) (d : Nat) (p : Program) (R : Room) (s : State) (m : MethodId) (args : Array Value) (c : Code) : Prop := p.tables.exec = Jvm.exec ∧ c.code = Y.2.1 ∧ c.maxLocals = Y.2.2.1 ∧ s.vm.findClass Y.1.cls = some m.cls ∧ (∀ w ∈ xTB, w.before args s = true) ∧ d ≤ R.frames ∧ 100 * d ≤ R.locals
def jG (d : Nat) (Y : xMD) (pc : Nat) (L : List (Nat × Value)) (S : List Value) (v : Option Value) (B : State → Prop) : Prop :=
  ∀ (p : Program) (l : Launch) (e : Env) (R : Room) (s : State) (m : MethodId) (args : Array Value) (below : List Frame) (meth : Method) (c : Code) (Q : State → Prop), jF Y d p R s m args c → B s →
    (∀ (pc : Nat) (ls : Array Slot), decode Y.2.1 pc = .ok (if v.isSome = true then .ireturn else .return_, 1) → W p l e R s m args below meth c s.heap [] 0 0 Q (F0 m pc ls v.toList)) →
    ∀ ls : Array Slot, lv_has ls Y.2.2.1 L → W p l e R s m args below meth c s.heap [] 0 0 Q (F0 m pc ls S)
def jok (ret : Option FieldType) (v : Option Value) : Prop := match ret, v with
  | none, none => True
  | some ty, some (.int x) => narrow ty (.int x) = .int x
  | _, _ => False
theorem xJ.of {d : Nat} {Y : xMD} {as : List Value} {v : Option Value} {B : State → Prop} (hy : plainName Y.1.cls = true) (hlen : (lg_sl as).length ≤ Y.2.2.1) (hv : jok Y.2.2.2 v) (k : jG d Y 0 (lv_args 0 as) [] v B) : xJ d Y as v B := by
  intro l
  refine Met.ofW (cc := Y.2.1) (maxL := Y.2.2.1) (ret := Y.2.2.2) hy rfl ?_
  intro p e s m args below meth c s₁ Bd hml hp
  obtain ⟨rfl, hB⟩ := hp
  have hts : ∀ w ∈ Cond.code Y.1 Y.2.1 Y.2.2.1 Y.2.2.2 :: xTB, w.before (as.toArray) s = true := atoms_spec (ws := Cond.code Y.1 Y.2.1 Y.2.2.1 Y.2.2.2 :: xTB) Bd.pre
  have hl := lv_entry as (n := Y.2.2.1) hlen
  rw [lg_entry_eq]
  generalize (lg_sl as ++ List.replicate (Y.2.2.1 - (lg_sl as).length) Slot.unset).toArray = ls at hl ⊢
  have hr := Bd.returns
  have hlocks := Bd.notSynchronized
  refine k p l e (xrm d 0 0) s m _ below meth c _ ⟨Bd.exec, Bd.bytes, hml, findClass_of_methodNamed Bd.named, fun w hw => hts w (List.mem_cons_of_mem _ hw), Nat.le_refl _, Nat.le_refl _⟩ hB ?_ ls hl
  intro pc ls' hdg
  cases hret : Y.2.2.2 with
  | none =>
    rw [hret] at hv hr
    cases v with
    | none => exact W.vret Bd.exec Bd.bytes hr (fun t ht _ => ⟨rfl, ht⟩) (fun q hq => absurd hq List.not_mem_nil) hdg
    | some v => exact absurd hv (by simp [jok])
  | some ty =>
    rw [hret] at hv hr
    cases v with
    | none => exact absurd hv (by simp [jok])
    | some v =>
      cases v with
      | int x => exact W.zret Bd.exec Bd.bytes hr hv (fun t ht _ => ⟨rfl, ht⟩) (fun q hq => absurd hq List.not_mem_nil) hdg
      | _ => exact absurd hv (by simp [jok])
section JG
variable {d : Nat} {Y : xMD} {pc : Nat} {L : List (Nat × Value)} {S : List Value} {v : Option Value} {B : State → Prop}
theorem j_ret (hd : decode Y.2.1 pc = .ok (if v.isSome = true then .ireturn else .return_, 1)) (hS : S = v.toList) : jG d Y pc L S v B := by subst hS; exact fun p l e R s m args below meth c Q F hB kr ls hl => kr pc ls hd
theorem j_iln {k : Fin 4} {i : Nat} {x : Int32} (q : Nat) (hd : decode Y.2.1 pc = .ok (.iload_n k, 1)) (hL : L[q]? = some (i, .int x)) (hi : (k : Nat) = i) (kk : jG d Y (pc + 1) L (.int x :: S) v B) : jG d Y pc L S v B := fun p l e R s m args below meth c Q F hB kr ls hl => lv_iload_n F.1 F.2.1 hd hi (lv_at hl q hL) (kk p l e R s m args below meth c Q F hB kr ls hl)
theorem j_il {i : Nat} {x : Int32} (q : Nat) (hd : decode Y.2.1 pc = .ok (.iload i, 2)) (hL : L[q]? = some (i, .int x)) (kk : jG d Y (pc + 2) L (.int x :: S) v B) : jG d Y pc L S v B := fun p l e R s m args below meth c Q F hB kr ls hl => lv_iload F.1 F.2.1 hd (lv_at hl q hL) (kk p l e R s m args below meth c Q F hB kr ls hl)
theorem j_aln {k : Fin 4} {i : Nat} {x : Nat} (q : Nat) (hd : decode Y.2.1 pc = .ok (.aload_n k, 1)) (hL : L[q]? = some (i, .ref x)) (hi : (k : Nat) = i) (kk : jG d Y (pc + 1) L (.ref x :: S) v B) : jG d Y pc L S v B := fun p l e R s m args below meth c Q F hB kr ls hl => lv_aload_n F.1 F.2.1 hd hi (lv_at hl q hL) (kk p l e R s m args below meth c Q F hB kr ls hl)
theorem j_ic {n : Int} {x : Int32} (hd : decode Y.2.1 pc = .ok (.iconst n, 1)) (hx : Int32.ofInt n = x) (kk : jG d Y (pc + 1) L (.int x :: S) v B) : jG d Y pc L S v B := fun p l e R s m args below meth c Q F hB kr ls hl => lv_iconst F.1 F.2.1 hd hx (kk p l e R s m args below meth c Q F hB kr ls hl)
theorem j_si {n : Int} {x : Int32} (hd : decode Y.2.1 pc = .ok (.sipush n, 3)) (hx : (Int16.ofInt n).toInt32 = x) (kk : jG d Y (pc + 3) L (.int x :: S) v B) : jG d Y pc L S v B := fun p l e R s m args below meth c Q F hB kr ls hl => lv_sipush F.1 F.2.1 hd hx (kk p l e R s m args below meth c Q F hB kr ls hl)
theorem j_goto {off : Int} {tgt : Nat} (hd : decode Y.2.1 pc = .ok (.goto off, 3)) (ht : (pc : Int) + off = (tgt : Int)) (kk : jG d Y tgt L S v B) : jG d Y pc L S v B := fun p l e R s m args below meth c Q F hB kr ls hl => lv_goto F.1 F.2.1 hd ht (kk p l e R s m args below meth c Q F hB kr ls hl)
theorem j_and {x y : Int32} (hd : decode Y.2.1 pc = .ok (.iand, 1)) (kk : jG d Y (pc + 1) L (.int (x &&& y) :: S) v B) : jG d Y pc L (.int y :: .int x :: S) v B := fun p l e R s m args below meth c Q F hB kr ls hl => lv_iand F.1 F.2.1 hd (kk p l e R s m args below meth c Q F hB kr ls hl)
theorem j_shr {x y z : Int32} (hd : decode Y.2.1 pc = .ok (.ishr, 1)) (hz : x >>> (y &&& 31) = z) (kk : jG d Y (pc + 1) L (.int z :: S) v B) : jG d Y pc L (.int y :: .int x :: S) v B := by subst hz; exact fun p l e R s m args below meth c Q F hB kr ls hl => lv_ishr F.1 F.2.1 hd (kk p l e R s m args below meth c Q F hB kr ls hl)
theorem j_sub {x y z : Int32} (hd : decode Y.2.1 pc = .ok (.isub, 1)) (hz : x - y = z) (kk : jG d Y (pc + 1) L (.int z :: S) v B) : jG d Y pc L (.int y :: .int x :: S) v B := by subst hz; exact fun p l e R s m args below meth c Q F hB kr ls hl => lv_isub F.1 F.2.1 hd (kk p l e R s m args below meth c Q F hB kr ls hl)
theorem j_i2c {x z : Int32} (hd : decode Y.2.1 pc = .ok (.i2c, 1)) (hz : (x.toUInt32 % 65536).toInt32 = z) (kk : jG d Y (pc + 1) L (.int z :: S) v B) : jG d Y pc L (.int x :: S) v B := fun p l e R s m args below meth c Q F hB kr ls hl => lv_i2c F.1 F.2.1 hd hz (kk p l e R s m args below meth c Q F hB kr ls hl)
theorem j_i2b {x z : Int32} (hd : decode Y.2.1 pc = .ok (.i2b, 1)) (hz : x.toInt8.toInt32 = z) (kk : jG d Y (pc + 1) L (.int z :: S) v B) : jG d Y pc L (.int x :: S) v B := fun p l e R s m args below meth c Q F hB kr ls hl => lv_i2b F.1 F.2.1 hd hz (kk p l e R s m args below meth c Q F hB kr ls hl)
theorem j_pop {x : Int32} (hd : decode Y.2.1 pc = .ok (.pop, 1)) (kk : jG d Y (pc + 1) L S v B) : jG d Y pc L (.int x :: S) v B := fun p l e R s m args below meth c Q F hB kr ls hl => lv_pop F.1 F.2.1 hd rfl (kk p l e R s m args below meth c Q F hB kr ls hl)
theorem j_istn {k : Fin 4} {i : Nat} {x : Int32} {L' : List (Nat × Value)} (hd : decode Y.2.1 pc = .ok (.istore_n k, 1)) (hi : (k : Nat) = i) (hn : i < Y.2.2.1) (hL : (i, Value.int x) :: L.filter (fun q => !(q.1 == i) && !(q.1 + 1 == i && q.2.category == 2)) = L') (kk : jG d Y (pc + 1) L' S v B) : jG d Y pc L (.int x :: S) v B := fun p l e R s m args below meth c Q F hB kr ls hl => lv_istore_n F.1 F.2.1 hd hi hl hn hL (fun ls' hl' => kk p l e R s m args below meth c Q F hB kr ls' hl')
theorem j_ist {i : Nat} {x : Int32} {L' : List (Nat × Value)} (hd : decode Y.2.1 pc = .ok (.istore i, 2)) (hn : i < Y.2.2.1) (hL : (i, Value.int x) :: L.filter (fun q => !(q.1 == i) && !(q.1 + 1 == i && q.2.category == 2)) = L') (kk : jG d Y (pc + 2) L' S v B) : jG d Y pc L (.int x :: S) v B := fun p l e R s m args below meth c Q F hB kr ls hl => lv_istore F.1 F.2.1 hd hl hn hL (fun ls' hl' => kk p l e R s m args below meth c Q F hB kr ls' hl')
theorem j_inc {i q : Nat} {n : Int} {x z : Int32} {L' : List (Nat × Value)} (hd : decode Y.2.1 pc = .ok (.iinc i n, 3)) (hq : L[q]? = some (i, .int x)) (hz : x + Int32.ofInt n = z) (hn : i < Y.2.2.1) (hL : (i, Value.int z) :: L.filter (fun q => !(q.1 == i) && !(q.1 + 1 == i && q.2.category == 2)) = L') (kk : jG d Y (pc + 3) L' S v B) : jG d Y pc L S v B := fun p l e R s m args below meth c Q F hB kr ls hl => lv_iinc F.1 F.2.1 hd hl hq hz hn hL (fun ls' hl' => kk p l e R s m args below meth c Q F hB kr ls' hl')
theorem j_eq {x : Int32} {off : Int} {tgt : Nat} (hd : decode Y.2.1 pc = .ok (.ifCond .eq off, 3)) (ht : (pc : Int) + off = (tgt : Int)) (kt : x = 0 → jG d Y tgt L S v B) (kf : ¬ x = 0 → jG d Y (pc + 3) L S v B) : jG d Y pc L (.int x :: S) v B := fun p l e R s m args below meth c Q F hB kr ls hl => lv_if_eq F.1 F.2.1 hd ht (fun h => kt h p l e R s m args below meth c Q F hB kr ls hl) (fun h => kf h p l e R s m args below meth c Q F hB kr ls hl)
theorem j_ne {x : Int32} {off : Int} {tgt : Nat} (hd : decode Y.2.1 pc = .ok (.ifCond .ne off, 3)) (ht : (pc : Int) + off = (tgt : Int)) (kt : ¬ x = 0 → jG d Y tgt L S v B) (kf : x = 0 → jG d Y (pc + 3) L S v B) : jG d Y pc L (.int x :: S) v B := fun p l e R s m args below meth c Q F hB kr ls hl => lv_if_ne F.1 F.2.1 hd ht (fun h => kt h p l e R s m args below meth c Q F hB kr ls hl) (fun h => kf (by simpa using h) p l e R s m args below meth c Q F hB kr ls hl)
theorem j_lt {x : Int32} {off : Int} {tgt : Nat} (hd : decode Y.2.1 pc = .ok (.ifCond .lt off, 3)) (ht : (pc : Int) + off = (tgt : Int)) (kt : x < 0 → jG d Y tgt L S v B) (kf : ¬ x < 0 → jG d Y (pc + 3) L S v B) : jG d Y pc L (.int x :: S) v B := fun p l e R s m args below meth c Q F hB kr ls hl => lv_if_lt F.1 F.2.1 hd ht (fun h => kt h p l e R s m args below meth c Q F hB kr ls hl) (fun h => kf h p l e R s m args below meth c Q F hB kr ls hl)
theorem j_clt {x y : Int32} {off : Int} {tgt : Nat} (hd : decode Y.2.1 pc = .ok (.if_icmp .lt off, 3)) (ht : (pc : Int) + off = (tgt : Int)) (kt : x < y → jG d Y tgt L S v B) (kf : ¬ x < y → jG d Y (pc + 3) L S v B) : jG d Y pc L (.int y :: .int x :: S) v B := fun p l e R s m args below meth c Q F hB kr ls hl => lv_icmp_lt F.1 F.2.1 hd ht (fun h => kt h p l e R s m args below meth c Q F hB kr ls hl) (fun h => kf h p l e R s m args below meth c Q F hB kr ls hl)
theorem j_cgt {x y : Int32} {off : Int} {tgt : Nat} (hd : decode Y.2.1 pc = .ok (.if_icmp .gt off, 3)) (ht : (pc : Int) + off = (tgt : Int)) (kt : y < x → jG d Y tgt L S v B) (kf : ¬ y < x → jG d Y (pc + 3) L S v B) : jG d Y pc L (.int y :: .int x :: S) v B := fun p l e R s m args below meth c Q F hB kr ls hl => lv_icmp_gt F.1 F.2.1 hd ht (fun h => kt h p l e R s m args below meth c Q F hB kr ls hl) (fun h => kf h p l e R s m args below meth c Q F hB kr ls hl)
theorem j_cle {x y : Int32} {off : Int} {tgt : Nat} (hd : decode Y.2.1 pc = .ok (.if_icmp .le off, 3)) (ht : (pc : Int) + off = (tgt : Int)) (kt : x ≤ y → jG d Y tgt L S v B) (kf : ¬ x ≤ y → jG d Y (pc + 3) L S v B) : jG d Y pc L (.int y :: .int x :: S) v B := fun p l e R s m args below meth c Q F hB kr ls hl => lv_icmp_le F.1 F.2.1 hd ht (fun h => kt h p l e R s m args below meth c Q F hB kr ls hl) (fun h => kf h p l e R s m args below meth c Q F hB kr ls hl)
theorem j_cge {x y : Int32} {off : Int} {tgt : Nat} (hd : decode Y.2.1 pc = .ok (.if_icmp .ge off, 3)) (ht : (pc : Int) + off = (tgt : Int)) (kt : y ≤ x → jG d Y tgt L S v B) (kf : ¬ y ≤ x → jG d Y (pc + 3) L S v B) : jG d Y pc L (.int y :: .int x :: S) v B := fun p l e R s m args below meth c Q F hB kr ls hl => lv_icmp_ge F.1 F.2.1 hd ht (fun h => kt h p l e R s m args below meth c Q F hB kr ls hl) (fun h => kf h p l e R s m args below meth c Q F hB kr ls hl)
theorem j_cne {x y : Int32} {off : Int} {tgt : Nat} (hd : decode Y.2.1 pc = .ok (.if_icmp .ne off, 3)) (ht : (pc : Int) + off = (tgt : Int)) (kt : ¬ x = y → jG d Y tgt L S v B) (kf : x = y → jG d Y (pc + 3) L S v B) : jG d Y pc L (.int y :: .int x :: S) v B := fun p l e R s m args below meth c Q F hB kr ls hl => lv_icmp_ne F.1 F.2.1 hd ht (fun h => kt h p l e R s m args below meth c Q F hB kr ls hl) (fun h => kf (by simpa using h) p l e R s m args below meth c Q F hB kr ls hl)
theorem j_gets {C n0 d0 : String} {x : Value} {i : Nat} (hd : decode Y.2.1 pc = .ok (.getstatic i, 3)) (hf : Cond.fieldLink Y.1.cls i C n0 d0 ∈ xTB) (hZ : ∀ s, B s → va_Z C n0 d0 x (fun _ => False) s s.heap) (kk : jG d Y (pc + 3) L (x :: S) v B) : jG d Y pc L S v B := fun p l e R s m args below meth c Q F hB kr ls hl => va_gets F.1 F.2.1 (hZ s hB) va_S.rf F.2.2.2.1 (F.2.2.2.2.1 _ hf) (fun _ h => h) hd (kk p l e R s m args below meth c Q F hB kr ls hl)
theorem j_getf {C n0 d0 : String} {x : Value} {i a : Nat} (hd : decode Y.2.1 pc = .ok (.getfield i, 3)) (hf : Cond.fieldLink Y.1.cls i C n0 d0 ∈ xTB) (hZ : ∀ s, B s → va_OF C n0 d0 x a (fun _ => False) s s.heap) (kk : jG d Y (pc + 3) L (x :: S) v B) : jG d Y pc L (.ref a :: S) v B := fun p l e R s m args below meth c Q F hB kr ls hl => vk_getf F.1 F.2.1 (hZ s hB) va_S.rf F.2.2.2.1 (F.2.2.2.2.1 _ hf) (fun _ h => h) hd (kk p l e R s m args below meth c Q F hB kr ls hl)
theorem j_alen {t N : Nat} {f : Nat → Value} {x : Int32} (hd : decode Y.2.1 pc = .ok (.arraylength, 1)) (hT : ∀ s, B s → va_T .byte t N f (fun _ => False) s s.heap) (hx : Int32.ofNat N = x) (kk : jG d Y (pc + 1) L (.int x :: S) v B) : jG d Y pc L (.ref t :: S) v B := fun p l e R s m args below meth c Q F hB kr ls hl => va_tlen F.1 F.2.1 (hT s hB) va_S.rf hx hd (kk p l e R s m args below meth c Q F hB kr ls hl)
theorem j_bald {t N : Nat} {f : Nat → Value} {i : Int32} {x : Value} (hd : decode Y.2.1 pc = .ok (.baload, 1)) (hT : ∀ s, B s → va_T .byte t N f (fun _ => False) s s.heap) (hin : vp_in i N) (hx : f i.toNatClampNeg = x) (kk : jG d Y (pc + 1) L (x :: S) v B) : jG d Y pc L (.int i :: .ref t :: S) v B := fun p l e R s m args below meth c Q F hB kr ls hl => va_tb F.1 F.2.1 (hT s hB) va_S.rf hin hx hd (kk p l e R s m args below meth c Q F hB kr ls hl)
end JG
/-! calls of such methods -/
section JC
variable {p : Program} {l : Launch} {e : Env} {R : Room} {s : State} {m : MethodId} {args : Array Value} {below : List Frame} {meth : Method} {c : Code} {H : Heap} {locs : List Loc} {cells slots : Nat} {Q : State → Prop} {pc : Nat} {ls : Array Slot} {rest : List Value}
theorem xSK_blind {a t : Nat} {w : List Int} {as : List Value} : FrameBlind (va_Pc as (xSK a t w)) := fun _ _ _ _ h => ⟨h.1, xSK_go (Vm.Alike.refl _) rfl h.2⟩
theorem w_back {v : Option Value} {st0 : List Value} {a : Array Value} (hr : va_Run p l e R s m args below meth c H locs cells slots 0 0 (F0 m pc ls st0) rest ((fun (_ : Array Value) (st : State) (o : Outcome) (t : State) => o = .returned v ∧ t.heap = st.heap) a) (fun _ => False)) (kk : W p l e R s m args below meth c H locs cells slots Q (F0 m (pc + 3) ls (v.toList ++ rest))) : W p l e R s m args below meth c H locs cells slots Q (F0 m pc ls st0) := by
  intro T hT X
  obtain ⟨v', st₀, t, T', L, h0, X', hL, e1, -, ⟨hv, hh⟩, st⟩ := hr T hT X
  have hv' : v' = v := Outcome.returned.inj hv
  subst hv'
  obtain ⟨t2, a1, b1⟩ := kk T' (by rw [e1, hh, h0]) (Stand.forget X' (fun q h => (hL q h).elim))
  exact ⟨t2, st t2 a1, b1⟩
theorem w_jV {Y Y' : xMD} {d d' i na b a t : Nat} {w : List Int} {as : List Value} {v : Option Value} (Fx : p.tables.exec = Jvm.exec) (Fb : c.code = Y.2.1) (Fml : c.maxLocals = Y.2.2.1) (Fo : s.vm.findClass Y.1.cls = some m.cls) (Ft : ∀ w ∈ xTB, w.before args s = true) (Fr : d ≤ R.frames ∧ 100 * d ≤ R.locals)
    (hl : Cond.methodLink Y.1.cls i Y'.1 ∈ xTB) (hy : xMY Y' na) (hi : Cond.instanceMethod Y'.1 ∈ xTB) (hv : Cond.selects Y'.1.cls Y'.1 Y'.1 ∈ xTB) (hJ : xJ d' Y' (.ref b :: as) v (xSK a t w)) (hrc : ∃ cell : Cell, H[b]? = some cell ∧ cell.vm.isStatics = false ∧ s.vm.findClass Y'.1.cls = some cell.cls) (hB : ∀ U : State, U.heap = H → s.WarmedH U.vm → xSK a t w U)
    (hna : as.length = na) (hdd : d' + 1 ≤ d) (hrest : (rest.map fun v => v.category).sum ≤ 8) (hsz : ls.size = Y.2.2.1) (hcs : cells ≤ R.cells ∧ slots ≤ R.slots) (hd : decode Y.2.1 pc = .ok (.invokevirtual i, 3)) (kk : W p l e R s m args below meth c H locs cells slots Q (F0 m (pc + 3) ls (v.toList ++ rest))) : W p l e R s m args below meth c H locs cells slots Q (F0 m pc ls (as.reverse ++ .ref b :: rest)) := by
  obtain ⟨m2, m3, m4, m4b⟩ := hy
  have hroom : (xrm d' 0 0).frames + 1 ≤ R.frames ∧ 8 + (Y'.2.2.1 + 11) + (xrm d' 0 0).locals ≤ R.locals := ⟨Nat.le_trans hdd Fr.1, by show 8 + (Y'.2.2.1 + 11) + 100 * d' ≤ R.locals; omega⟩
  have hp : PreV s H Y'.1.cls b (va_Pc (.ref b :: as) (xSK a t w)) as := ⟨xSK_blind, hrc, fun U hU hW => ⟨rfl, hB U hU hW⟩⟩
  exact w_back (v := v) (a := (Value.ref b :: as).toArray) (va_runV (Ts := xTB) ⟨Fx, Fb, Fml, Fo, Ft⟩ (hJ l) ⟨callB_of (bytes := Y'.2.1) (maxL := Y'.2.2.1) (ret := Y'.2.2.2) na Ft (xTB_goodc m3) rfl rfl rfl (Ft _ m2) (Ft _ hl) m4 hroom, Ft _ hi, Ft _ hv⟩ hp rfl hna hsz rfl (lv_room hrest) hd ⟨by omega, by omega⟩) kk
theorem w_jS {Y Y' : xMD} {d d' i na a t : Nat} {w : List Int} {as : List Value} {v : Option Value} (Fx : p.tables.exec = Jvm.exec) (Fb : c.code = Y.2.1) (Fml : c.maxLocals = Y.2.2.1) (Fo : s.vm.findClass Y.1.cls = some m.cls) (Ft : ∀ w ∈ xTB, w.before args s = true) (Fr : d ≤ R.frames ∧ 100 * d ≤ R.locals)
    (hl : Cond.methodLink Y.1.cls i Y'.1 ∈ xTB) (hy : xMY Y' na) (hi : Cond.static Y'.1 ∈ xTB) (hJ : xJ d' Y' as v (xSK a t w)) (hB : ∀ U : State, U.heap = H → s.WarmedH U.vm → xSK a t w U)
    (hna : as.length = na) (hdd : d' + 1 ≤ d) (hrest : (rest.map fun v => v.category).sum ≤ 8) (hsz : ls.size = Y.2.2.1) (hcs : cells ≤ R.cells ∧ slots ≤ R.slots) (hd : decode Y.2.1 pc = .ok (.invokestatic i, 3)) (kk : W p l e R s m args below meth c H locs cells slots Q (F0 m (pc + 3) ls (v.toList ++ rest))) : W p l e R s m args below meth c H locs cells slots Q (F0 m pc ls (as.reverse ++ rest)) := by
  obtain ⟨m2, m3, m4, m4b⟩ := hy
  have hroom : (xrm d' 0 0).frames + 1 ≤ R.frames ∧ 8 + (Y'.2.2.1 + 11) + (xrm d' 0 0).locals ≤ R.locals := ⟨Nat.le_trans hdd Fr.1, by show 8 + (Y'.2.2.1 + 11) + 100 * d' ≤ R.locals; omega⟩
  have hp : PreS s H (va_Pc as (xSK a t w)) as := ⟨xSK_blind, fun U hU hW => ⟨rfl, hB U hU hW⟩⟩
  exact w_back (v := v) (a := as.toArray) (va_runS (Ts := xTB) ⟨Fx, Fb, Fml, Fo, Ft⟩ (hJ l) ⟨callB_of (bytes := Y'.2.1) (maxL := Y'.2.2.1) (ret := Y'.2.2.2) na Ft (xTB_goodc m3) rfl rfl rfl (Ft _ m2) (Ft _ hl) m4 hroom, Ft _ hi⟩ hp rfl hna hsz rfl (lv_room hrest) hd ⟨by omega, by omega⟩) kk
end JC
section JG2
variable {d : Nat} {Y Y' : xMD} {pc : Nat} {L : List (Nat × Value)} {S : List Value} {v v' : Option Value} {a t : Nat} {w : List Int}
theorem j_V {d' i na : Nat} {as : List Value} (hd : decode Y.2.1 pc = .ok (.invokevirtual i, 3)) (hl : Cond.methodLink Y.1.cls i Y'.1 ∈ xTB) (hy : xMY Y' na) (hi : Cond.instanceMethod Y'.1 ∈ xTB) (hv : Cond.selects Y'.1.cls Y'.1 Y'.1 ∈ xTB) (hc : Y'.1.cls = "java/lang/String") (hJ : xJ d' Y' (.ref a :: as) v' (xSK a t w)) (hna : as.length = na) (hdd : d' + 1 ≤ d) (hrest : (S.map fun v => v.category).sum ≤ 8) (kk : jG d Y (pc + 3) L (v'.toList ++ S) v (xSK a t w)) : jG d Y pc L (as.reverse ++ .ref a :: S) v (xSK a t w) := by
  intro p l e R s m args below meth c Q F hB kr ls hl'
  obtain ⟨Fx, Fb, Fml, Fo, Ft, Fr1, Fr2⟩ := id F
  refine w_jV Fx Fb Fml Fo Ft ⟨Fr1, Fr2⟩ hl hy hi hv hJ ?_ (fun U hU hW => xSK_go hW.alike hU hB) hna hdd hrest hl'.1 ⟨Nat.zero_le _, Nat.zero_le _⟩ hd (kk p l e R s m args below meth c Q F hB kr ls hl')
  obtain ⟨cell, h1, h2, h3, -⟩ := hB.1
  exact ⟨cell, h1, h2, by rw [hc]; exact h3⟩
theorem j_S {d' i na : Nat} {as : List Value} (hd : decode Y.2.1 pc = .ok (.invokestatic i, 3)) (hl : Cond.methodLink Y.1.cls i Y'.1 ∈ xTB) (hy : xMY Y' na) (hi : Cond.static Y'.1 ∈ xTB) (hJ : xJ d' Y' as v' (xSK a t w)) (hna : as.length = na) (hdd : d' + 1 ≤ d) (hrest : (S.map fun v => v.category).sum ≤ 8) (kk : jG d Y (pc + 3) L (v'.toList ++ S) v (xSK a t w)) : jG d Y pc L (as.reverse ++ S) v (xSK a t w) := by
  intro p l e R s m args below meth c Q F hB kr ls hl'
  obtain ⟨Fx, Fb, Fml, Fo, Ft, Fr1, Fr2⟩ := id F
  exact w_jS Fx Fb Fml Fo Ft ⟨Fr1, Fr2⟩ hl hy hi hJ (fun U hU hW => xSK_go hW.alike hU hB) hna hdd hrest hl'.1 ⟨Nat.zero_le _, Nat.zero_le _⟩ hd (kk p l e R s m args below meth c Q F hB kr ls hl')
end JG2
section JG3
variable {d : Nat} {Y : xMD} {pc : Nat} {L : List (Nat × Value)} {S : List Value} {v : Option Value} {B : State → Prop}
theorem j_getq {C n0 d0 : String} {i : Nat} (hd : decode Y.2.1 pc = .ok (.getstatic i, 3)) (hf : Cond.fieldLink Y.1.cls i C n0 d0 ∈ xTB) (hZ : ∀ s, B s → va_Zq C n0 d0 (fun _ => False) s s.heap) (kk : ∀ x : Value, (x = .null ∨ ∃ r, x = .ref r) → jG d Y (pc + 3) L (x :: S) v B) : jG d Y pc L S v B := fun p l e R s m args below meth c Q F hB kr ls hl => by
  rcases hZ s hB with h | ⟨r, h⟩
  · exact va_gets F.1 F.2.1 h va_S.rf F.2.2.2.1 (F.2.2.2.2.1 _ hf) (fun _ h => h) hd (kk .null (Or.inl rfl) p l e R s m args below meth c Q F hB kr ls hl)
  · exact va_gets F.1 F.2.1 h va_S.rf F.2.2.2.1 (F.2.2.2.2.1 _ hf) (fun _ h => h) hd (kk (.ref r) (Or.inr ⟨r, rfl⟩) p l e R s m args below meth c Q F hB kr ls hl)
end JG3
section JG4
variable {d : Nat} {Y : xMD} {pc : Nat} {L : List (Nat × Value)} {S : List Value} {v : Option Value} {B : State → Prop}
theorem j_max {i : Nat} {x y z : Int32} (hd : decode Y.2.1 pc = .ok (.invokestatic i, 3)) (hm : Cond.methodLink Y.1.cls i Lib.Math.max.name ∈ xTB) (hz : (if x < y then y else x) = z) (hdd : 1 ≤ d) (hrest : (S.map fun v => v.category).sum ≤ 8) (kk : jG d Y (pc + 3) L (.int z :: S) v B) : jG d Y pc L (.int y :: .int x :: S) v B := by
  subst hz
  intro p l e R s m args below meth c Q F hB kr ls hl
  obtain ⟨Fx, Fb, Fml, Fo, Ft, Fr1, Fr2⟩ := id F
  exact va_mmax Fx Fb (by rw [Fml, hl.1]) Fo (Ft _ hm) (Ft _ mm_max.1) (Ft _ mm_max.2.1) (Ft _ mm_max.2.2) (by omega) (by omega) (by omega) (by omega) hd (kk p l e R s m args below meth c Q F hB kr ls hl)
theorem j_min {i : Nat} {x y z : Int32} (hd : decode Y.2.1 pc = .ok (.invokestatic i, 3)) (hm : Cond.methodLink Y.1.cls i Lib.Math.min.name ∈ xTB) (hz : (if y < x then y else x) = z) (hdd : 1 ≤ d) (hrest : (S.map fun v => v.category).sum ≤ 8) (kk : jG d Y (pc + 3) L (.int z :: S) v B) : jG d Y pc L (.int y :: .int x :: S) v B := by
  subst hz
  intro p l e R s m args below meth c Q F hB kr ls hl
  obtain ⟨Fx, Fb, Fml, Fo, Ft, Fr1, Fr2⟩ := id F
  exact va_mmin Fx Fb (by rw [Fml, hl.1]) Fo (Ft _ hm) (Ft _ mm_min.1) (Ft _ mm_min.2.1) (Ft _ mm_min.2.2) (by omega) (by omega) (by omega) (by omega) hd (kk p l e R s m args below meth c Q F hB kr ls hl)
theorem mx_jl_92 : Cond.methodLink "java/lang/StringLatin1" 92 Lib.Math.max.name ∈ xTB := x_tb (tb2 233 (by decide +kernel)) rfl
theorem mx_jl_38 : Cond.methodLink "java/lang/StringLatin1" 38 Lib.Math.min.name ∈ xTB := x_tb (tb2 234 (by decide +kernel)) rfl
theorem mx_ja_304 : Cond.methodLink "java/util/Arrays" 304 Lib.Math.min.name ∈ xTB := x_tb (tb6 137 (by decide +kernel)) rfl
end JG4
theorem jx_shr0 (x : Int32) : x >>> ((0 : Int32) &&& 31) = x := by
  rw [show ((0 : Int32) &&& 31) = 0 from rfl]
  simp
theorem jx_ofNat (n : Nat) : Int32.ofNat n = Int32.ofInt n := Int32.ofInt_eq_ofNat.symm
theorem jx_byte : ∀ b : Fin 128, (Int32.ofInt (b : Nat) &&& 255) = Int32.ofInt (b : Nat) ∧ ((Int32.ofInt (b : Nat)).toUInt32 % 65536).toInt32 = Int32.ofInt (b : Nat) ∧ narrow .char (.int (Int32.ofInt (b : Nat))) = .int (Int32.ofInt (b : Nat)) := by decide +kernel
theorem jx_i2b : ∀ c : Fin 256, (Int32.ofInt (c : Nat)).toInt8.toInt32 = Int32.ofInt (if (c : Nat) < 128 then ((c : Nat) : Int) else ((c : Nat) : Int) - 256) := by decide +kernel
def xB7 (w : List Int) : Prop := (∀ x ∈ w, 0 ≤ x ∧ x < 128) ∧ w.length < 2147483648
theorem xB7_get {w : List Int} (h : xB7 w) (k : Nat) : 0 ≤ w.getD k 0 ∧ w.getD k 0 < 128 := by
  by_cases hk : k < w.length
  · rw [List.getD_eq_getElem?_getD, List.getElem?_eq_getElem hk]
    exact h.1 _ (List.getElem_mem hk)
  · rw [List.getD_eq_getElem?_getD, List.getElem?_eq_none (by omega)]
    exact ⟨by decide, by decide⟩
theorem jx_b {x : Int} (h0 : 0 ≤ x) (h1 : x < 128) : (Int32.ofInt x &&& 255) = Int32.ofInt x ∧ ((Int32.ofInt x).toUInt32 % 65536).toInt32 = Int32.ofInt x ∧ narrow .char (.int (Int32.ofInt x)) = .int (Int32.ofInt x) := by
  have := jx_byte ⟨x.toNat, by omega⟩
  simp only [Int.toNat_of_nonneg h0] at this
  exact this
section JM
variable {a t : Nat} {w : List Int}
theorem j_coder : xJ 0 yJ_coder [.ref a] (some (.int 0)) (xSK a t w) :=
  xJ.of (by decide +kernel) (Nat.le_of_ble_eq_true rfl) rfl (j_gets e_coder_0 wf_38 (fun s h => h.2.2.2.2.1) (j_eq e_coder_3 (tgt := 13) rfl (fun h => absurd h (by decide)) (fun _ => j_aln 0 e_coder_6 rfl rfl (j_getf e_coder_7 wf_15 (fun s h => h.2.1) (j_goto e_coder_10 (tgt := 14) rfl (j_ret e_coder_14 rfl))))))
theorem j_lat : xJ 0 yJ_lat [.ref a] (some (.int 1)) (xSK a t w) :=
  xJ.of (by decide +kernel) (Nat.le_of_ble_eq_true rfl) rfl (j_gets e_lat_0 wf_38 (fun s h => h.2.2.2.2.1) (j_eq e_lat_3 (tgt := 17) rfl (fun h => absurd h (by decide)) (fun _ => j_aln 0 e_lat_6 rfl rfl (j_getf e_lat_7 wf_15 (fun s h => h.2.1) (j_ne e_lat_10 (tgt := 17) rfl (fun h => absurd rfl h) (fun _ => j_ic e_lat_13 rfl (j_goto e_lat_14 (tgt := 18) rfl (j_ret e_lat_18 rfl))))))))
theorem j_len : xJ 1 yJ_len [.ref a] (some (.int (Int32.ofInt w.length))) (xSK a t w) :=
  xJ.of (by decide +kernel) (Nat.le_of_ble_eq_true rfl) rfl (j_aln 0 e_len_0 rfl rfl (j_getf e_len_1 wf_9 (fun s h => h.2.2.1) (j_alen e_len_4 (fun s h => h.2.2.2.1) (jx_ofNat _) (j_aln 0 e_len_5 rfl rfl (j_V (as := []) (Y' := yJ_coder) e_len_6 wl_String_335 w_coder wi_coder wv_coder rfl j_coder rfl (by decide) (Nat.le_of_ble_eq_true rfl) (j_shr e_len_9 (jx_shr0 _) (j_ret e_len_10 rfl)))))))
theorem j_pci {k n : Int} (h0 : 0 ≤ k) (h1 : k < n) (hn : n ≤ 2147483647) {x : Value} (hx : x = .null ∨ ∃ r, x = .ref r) : xJ 0 yJ_pci [.int (Int32.ofInt k), .int (Int32.ofInt n), x] (some (.int (Int32.ofInt k))) (xSK a t w) := by
  have e0 : ¬ Int32.ofInt k < 0 := fun h => absurd ((w32_lt (a := k) (b := 0) ⟨by omega, by omega⟩ ⟨by omega, by omega⟩).mp h) (by omega)
  have e1 : Int32.ofInt k < Int32.ofInt n := (w32_lt ⟨by omega, by omega⟩ ⟨by omega, by omega⟩).mpr h1
  refine xJ.of (by decide +kernel) (by rcases hx with rfl | ⟨r, rfl⟩ <;> exact Nat.le_of_ble_eq_true rfl) rfl ?_
  exact j_iln 0 e_pci_0 rfl rfl (j_lt e_pci_1 (tgt := 9) rfl (fun h => absurd h e0) (fun _ => j_iln 0 e_pci_4 rfl rfl (j_iln 1 e_pci_5 rfl rfl (j_clt e_pci_6 (tgt := 16) rfl (fun _ => j_iln 0 e_pci_16 rfl rfl (j_ret e_pci_17 rfl)) (fun h => absurd e1 h)))))
theorem j_ci {k n : Int} (h0 : 0 ≤ k) (h1 : k < n) (hn : n ≤ 2147483647) : xJ 1 yJ_ci [.int (Int32.ofInt k), .int (Int32.ofInt n)] none (xSK a t w) := by
  refine xJ.of (by decide +kernel) (Nat.le_of_ble_eq_true rfl) trivial ?_
  refine j_iln 0 e_ci_0 rfl rfl (j_iln 1 e_ci_1 rfl rfl (j_getq e_ci_2 wf_1053 (fun s h => h.2.2.2.2.2) (fun x hx => ?_)))
  exact j_S (as := [.int (Int32.ofInt k), .int (Int32.ofInt n), x]) (Y' := yJ_pci) e_ci_5 wl_String_1059 w_pci ws_pci (j_pci h0 h1 hn hx) rfl (by decide) (Nat.le_of_ble_eq_true rfl) (j_pop e_ci_8 (j_ret e_ci_9 rfl))
theorem j_lchat (hw : xB7 w) {k : Int} (h0 : 0 ≤ k) (h1 : k < w.length) : xJ 2 yJ_lchat [.ref t, .int (Int32.ofInt k)] (some (.int (Int32.ofInt (w.getD k.toNat 0)))) (xSK a t w) := by
  have hl : (w.length : Int) ≤ 2147483647 := by have := hw.2; omega
  obtain ⟨c1, c2⟩ := xclamp (len := w.length) h0 (by omega) (by omega)
  obtain ⟨b1, b2, b3⟩ := jx_b (xB7_get hw k.toNat).1 (xB7_get hw k.toNat).2
  refine xJ.of (by decide +kernel) (Nat.le_of_ble_eq_true rfl) b3 ?_
  refine j_iln 1 e_lchat_0 rfl rfl (j_aln 0 e_lchat_1 rfl rfl (j_alen e_lchat_2 (fun s h => h.2.2.2.1) (jx_ofNat _) ?_))
  refine j_S (as := [.int (Int32.ofInt k), .int (Int32.ofInt w.length)]) (Y' := yJ_ci) e_lchat_3 wl_StringLatin1_9 w_ci ws_ci (j_ci h0 (by omega) hl) rfl (by decide) (Nat.le_of_ble_eq_true rfl) ?_
  refine j_aln 0 e_lchat_6 rfl rfl (j_iln 1 e_lchat_7 rfl rfl (j_bald e_lchat_8 (fun s h => h.2.2.2.1) c2 (x := .int (Int32.ofInt (w.getD k.toNat 0))) (by rw [c1]) (j_si e_lchat_9 rfl (j_and e_lchat_12 (j_i2c e_lchat_13 rfl (j_ret e_lchat_14 ?_))))))
  show [Value.int (((Int32.ofInt (w.getD k.toNat 0) &&& 255).toUInt32 % 65536).toInt32)] = [Value.int (Int32.ofInt (w.getD k.toNat 0))]
  rw [b1, b2]
theorem j_chat (hw : xB7 w) {k : Int} (h0 : 0 ≤ k) (h1 : k < w.length) : xJ 3 yJ_chat [.ref a, .int (Int32.ofInt k)] (some (.int (Int32.ofInt (w.getD k.toNat 0)))) (xSK a t w) := by
  obtain ⟨b1, b2, b3⟩ := jx_b (xB7_get hw k.toNat).1 (xB7_get hw k.toNat).2
  refine xJ.of (by decide +kernel) (Nat.le_of_ble_eq_true rfl) b3 ?_
  refine j_aln 0 e_chat_0 rfl rfl (j_V (as := []) (Y' := yJ_lat) e_chat_1 wl_String_492 w_lat wi_lat wv_lat rfl j_lat rfl (by decide) (Nat.le_of_ble_eq_true rfl) (j_eq e_chat_4 (tgt := 16) rfl (fun h => absurd h (by decide)) (fun _ => ?_)))
  exact j_aln 0 e_chat_7 rfl rfl (j_getf e_chat_8 wf_9 (fun s h => h.2.2.1) (j_iln 1 e_chat_11 rfl rfl (j_S (as := [.ref t, .int (Int32.ofInt k)]) (Y' := yJ_lchat) e_chat_12 wl_String_495 w_lchat ws_lchat (j_lchat hw h0 h1) rfl (by decide) (Nat.le_of_ble_eq_true rfl) (j_ret e_chat_15 rfl))))
theorem j_can {c : Int} (hc : I32 c) : xJ 0 yJ_can [.int (Int32.ofInt c)] (some (.int (if 0 ≤ c ∧ c ≤ 255 then 1 else 0))) (xSK a t w) := by
  refine xJ.of (by decide +kernel) (Nat.le_of_ble_eq_true rfl) (by split <;> rfl) ?_
  refine j_iln 0 e_can_0 rfl rfl (j_lt e_can_1 (tgt := 15) rfl (fun h => ?_) (fun h => j_iln 0 e_can_4 rfl rfl (j_si e_can_5 rfl (j_cgt e_can_8 (tgt := 15) rfl (fun h2 => ?_) (fun h2 => ?_)))))
  · have := (w32_lt (a := c) (b := 0) hc ⟨by omega, by omega⟩).mp h
    rw [if_neg (by omega)]
    exact j_ic e_can_15 rfl (j_ret e_can_16 rfl)
  · have := (w32_lt (a := 255) (b := c) ⟨by omega, by omega⟩ hc).mp h2
    rw [if_neg (by omega)]
    exact j_ic e_can_15 rfl (j_ret e_can_16 rfl)
  · have g1 : ¬ c < 0 := fun z => h ((w32_lt (a := c) (b := 0) hc ⟨by omega, by omega⟩).mpr z)
    have g2 : ¬ 255 < c := fun z => h2 ((w32_lt (a := 255) (b := c) ⟨by omega, by omega⟩ hc).mpr z)
    rw [if_pos (by omega)]
    exact j_ic e_can_11 rfl (j_goto e_can_12 (tgt := 16) rfl (j_ret e_can_16 rfl))
theorem ixc_loop (hw : xB7 w) {c : Int} (hc : 0 ≤ c ∧ c ≤ 255) : ∀ (k i : Nat), i + k = w.length → jG 0 yJ_ixc 7 [(5, .int (Int32.ofInt i)), (4, .int (Int32.ofInt c).toInt8.toInt32), (0, .ref t), (1, .int (Int32.ofInt c)), (2, .int 0), (3, .int (Int32.ofInt w.length))] [] (some (.int (Int32.ofInt (xixF c (w.drop i) i)))) (xSK a t w) := by
  have hl : (w.length : Int) ≤ 2147483647 := by have := hw.2; omega
  intro k
  induction k with
  | zero =>
    intro i hi
    have e1 : Int32.ofInt (w.length : Int) ≤ Int32.ofInt (i : Int) := (w32_le ⟨by omega, by omega⟩ ⟨by omega, by omega⟩).mpr (by omega)
    rw [List.drop_eq_nil_of_le (by omega)]
    exact j_il 0 e_ixc_7 rfl (j_iln 5 e_ixc_9 rfl rfl (j_cge e_ixc_10 (tgt := 31) rfl (fun _ => j_ic e_ixc_31 rfl (j_ret e_ixc_32 rfl)) (fun h => absurd e1 h)))
  | succ k ih =>
    intro i hi
    have hil : i < w.length := by omega
    have e1 : ¬ Int32.ofInt (w.length : Int) ≤ Int32.ofInt (i : Int) := fun z => absurd ((w32_le ⟨by omega, by omega⟩ ⟨by omega, by omega⟩).mp z) (by omega)
    obtain ⟨c1, c2⟩ := xclamp (i := (i : Int)) (len := w.length) (by omega) (by omega) (by omega)
    have eb : w.getD i 0 = w[i] := by rw [List.getD_eq_getElem?_getD, List.getElem?_eq_getElem hil]; rfl
    have hb := xB7_get hw i
    have ei := jx_i2b ⟨c.toNat, by omega⟩
    simp only [Int.toNat_of_nonneg hc.1] at ei
    have hic : I32 (if c.toNat < 128 then c else c - 256) := by split <;> exact ⟨by omega, by omega⟩
    refine j_il 0 e_ixc_7 rfl (j_iln 5 e_ixc_9 rfl rfl (j_cge e_ixc_10 (tgt := 31) rfl (fun h => absurd h e1) (fun _ => ?_)))
    refine j_aln 2 e_ixc_13 rfl rfl (j_il 0 e_ixc_14 rfl (j_bald e_ixc_16 (fun s h => h.2.2.2.1) c2 (x := .int (Int32.ofInt (w.getD i 0))) (by rw [c1]; rfl) (j_il 1 e_ixc_17 rfl (j_cne e_ixc_19 (tgt := 25) rfl (fun h => ?_) (fun h => ?_)))))
    · have hne : ¬ w[i] = c := fun z => h (by
        rw [ei, if_pos (by omega), eb, z])
      rw [List.drop_eq_getElem_cons hil]
      unfold xixF
      rw [if_neg hne]
      refine j_inc (q := 0) e_ixc_25 rfl (z := Int32.ofInt ((i + 1 : Nat) : Int)) (by rw [← Int32.ofInt_add]; rfl) (by decide) rfl (j_goto e_ixc_28 (tgt := 7) rfl ?_)
      have := ih (i + 1) (by omega)
      exact this
    · have hee : w[i] = c := by
        rw [ei, w32_eq ⟨by omega, by omega⟩ hic] at h
        split at h <;> omega
      rw [List.drop_eq_getElem_cons hil]
      unfold xixF
      rw [if_pos hee]
      exact j_il 0 e_ixc_22 rfl (j_ret e_ixc_24 rfl)
theorem j_ixc (hw : xB7 w) {c : Int} (hc : 0 ≤ c ∧ c ≤ 255) : xJ 0 yJ_ixc [.ref t, .int (Int32.ofInt c), .int 0, .int (Int32.ofInt w.length)] (some (.int (Int32.ofInt (xixF c w 0)))) (xSK a t w) := by
  refine xJ.of (by decide +kernel) (Nat.le_of_ble_eq_true rfl) rfl ?_
  exact j_iln 1 e_ixc_0 rfl rfl (j_i2b e_ixc_1 rfl (j_ist e_ixc_2 (by decide) rfl (j_iln 3 e_ixc_4 rfl rfl (j_ist e_ixc_5 (by decide) rfl (ixc_loop hw hc w.length 0 (by omega))))))
theorem xixF_out {c : Int} (h : ∀ x ∈ w, x ≠ c) : ∀ k, xixF c w k = -1 := by
  induction w with
  | nil => intro k; rfl
  | cons b l ih => intro k; unfold xixF; rw [if_neg (h b List.mem_cons_self)]; exact ih (fun x hx => h x (List.mem_cons_of_mem _ hx)) (k + 1)
theorem j_lix (hw : xB7 w) {c : Int} (hc : I32 c) : xJ 1 yJ_lix [.ref t, .int (Int32.ofInt c), .int 0, .int (Int32.ofInt w.length)] (some (.int (Int32.ofInt (xixF c w 0)))) (xSK a t w) := by
  have hl : (w.length : Int) ≤ 2147483647 := by have := hw.2; omega
  refine xJ.of (by decide +kernel) (Nat.le_of_ble_eq_true rfl) rfl ?_
  refine j_iln 1 e_lix_0 rfl rfl (j_S (as := [.int (Int32.ofInt c)]) (Y' := yJ_can) e_lix_1 wl_StringLatin1_88 w_can ws_can (j_can hc) rfl (by decide) (Nat.le_of_ble_eq_true rfl) (j_ne e_lix_4 (tgt := 9) rfl (fun h => ?_) (fun h => ?_)))
  · have hcc : 0 ≤ c ∧ c ≤ 255 := by
      by_cases z : 0 ≤ c ∧ c ≤ 255
      · exact z
      · rw [if_neg z] at h; exact absurd rfl h
    refine j_iln 2 e_lix_9 rfl rfl (j_ic e_lix_10 rfl (j_max e_lix_11 mx_jl_92 (z := 0) (by decide) (by decide) (Nat.le_of_ble_eq_true rfl) (j_istn e_lix_14 rfl (by decide) rfl ?_)))
    refine j_iln 3 e_lix_15 rfl rfl (j_aln 1 e_lix_16 rfl rfl (j_alen e_lix_17 (fun s h => h.2.2.2.1) (jx_ofNat _) (j_min e_lix_18 mx_jl_38 (z := Int32.ofInt w.length) (by split <;> rfl) (by decide) (Nat.le_of_ble_eq_true rfl) (j_istn e_lix_21 rfl (by decide) rfl ?_))))
    refine j_iln 1 e_lix_22 rfl rfl (j_iln 0 e_lix_23 rfl rfl (j_clt e_lix_24 (tgt := 29) rfl (fun h => ?_) (fun h => ?_)))
    · exact j_aln 2 e_lix_29 rfl rfl (j_iln 3 e_lix_30 rfl rfl (j_iln 1 e_lix_31 rfl rfl (j_iln 0 e_lix_32 rfl rfl (j_S (as := [.ref t, .int (Int32.ofInt c), .int 0, .int (Int32.ofInt w.length)]) (Y' := yJ_ixc) e_lix_33 wl_StringLatin1_95 w_ixc ws_ixc (j_ixc hw hcc) rfl (by decide) (Nat.le_of_ble_eq_true rfl) (j_ret e_lix_36 rfl)))))
    · have h0 : w.length = 0 := by
        have : ¬ (0 : Int) < w.length := fun z => h ((w32_lt (a := 0) (b := w.length) ⟨by omega, by omega⟩ ⟨by omega, by omega⟩).mpr z)
        omega
      rw [List.length_eq_zero_iff.mp h0]
      exact j_ic e_lix_27 rfl (j_ret e_lix_28 rfl)
  · have hcc : ¬ (0 ≤ c ∧ c ≤ 255) := fun z => by rw [if_pos z] at h; exact absurd h (by decide)
    rw [xixF_out (fun x hx => by have := hw.1 x hx; omega)]
    exact j_ic e_lix_7 rfl (j_ret e_lix_8 rfl)
theorem j_ix2 (hw : xB7 w) {c : Int} (hc : I32 c) : xJ 2 yJ_ix2 [.ref a, .int (Int32.ofInt c), .int 0] (some (.int (Int32.ofInt (xixF c w 0)))) (xSK a t w) := by
  refine xJ.of (by decide +kernel) (Nat.le_of_ble_eq_true rfl) rfl ?_
  refine j_aln 0 e_ix2_0 rfl rfl (j_V (as := []) (Y' := yJ_lat) e_ix2_1 wl_String_492 w_lat wi_lat wv_lat rfl j_lat rfl (by decide) (Nat.le_of_ble_eq_true rfl) (j_eq e_ix2_4 (tgt := 23) rfl (fun h => absurd h (by decide)) (fun _ => ?_)))
  refine j_aln 0 e_ix2_7 rfl rfl (j_getf e_ix2_8 wf_9 (fun s h => h.2.2.1) (j_iln 1 e_ix2_11 rfl rfl (j_iln 2 e_ix2_12 rfl rfl (j_aln 0 e_ix2_13 rfl rfl ?_))))
  refine j_V (as := []) (Y' := yJ_len) e_ix2_14 wl_String_505 w_len wi_len wv_len rfl j_len rfl (by decide) (Nat.le_of_ble_eq_true rfl) ?_
  exact j_S (as := [.ref t, .int (Int32.ofInt c), .int 0, .int (Int32.ofInt w.length)]) (Y' := yJ_lix) e_ix2_17 wl_String_637 w_lix ws_lix (j_lix hw hc) rfl (by decide) (Nat.le_of_ble_eq_true rfl) (j_goto e_ix2_20 (tgt := 36) rfl (j_ret e_ix2_36 rfl))
theorem j_ix (hw : xB7 w) {c : Int} (hc : I32 c) : xJ 3 yJ_ix [.ref a, .int (Int32.ofInt c)] (some (.int (Int32.ofInt (xixF c w 0)))) (xSK a t w) := by
  refine xJ.of (by decide +kernel) (Nat.le_of_ble_eq_true rfl) rfl ?_
  exact j_aln 0 e_ix_0 rfl rfl (j_iln 1 e_ix_1 rfl rfl (j_ic e_ix_2 rfl (j_V (as := [.int (Int32.ofInt c), .int 0]) (Y' := yJ_ix2) e_ix_3 wl_String_633 w_ix2 wi_ix2 wv_ix2 rfl (j_ix2 hw hc) rfl (by decide) (Nat.le_of_ble_eq_true rfl) (j_ret e_ix_6 rfl))))
end JM
