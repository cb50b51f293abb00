theorem dX10_init_0 : decode cX10_init 0 = .ok (.aload_n 0, 1) := by decide +kernel
theorem dX10_init_1 : decode cX10_init 1 = .ok (.invokespecial 3, 3) := by decide +kernel
theorem dX10_init_4 : decode cX10_init 4 = .ok (.aload_n 0, 1) := by decide +kernel
theorem dX10_init_5 : decode cX10_init 5 = .ok (.new 9, 3) := by decide +kernel
theorem dX10_init_8 : decode cX10_init 8 = .ok (.dup, 1) := by decide +kernel
theorem dX10_init_9 : decode cX10_init 9 = .ok (.invokespecial 11, 3) := by decide +kernel
theorem dX10_init_12 : decode cX10_init 12 = .ok (.putfield 12, 3) := by decide +kernel
theorem dX10_init_15 : decode cX10_init 15 = .ok (.aload_n 0, 1) := by decide +kernel
theorem dX10_init_16 : decode cX10_init 16 = .ok (.new 16, 3) := by decide +kernel
theorem dX10_init_19 : decode cX10_init 19 = .ok (.dup, 1) := by decide +kernel
theorem dX10_init_20 : decode cX10_init 20 = .ok (.invokespecial 18, 3) := by decide +kernel
theorem dX10_init_23 : decode cX10_init 23 = .ok (.putfield 19, 3) := by decide +kernel
theorem dX10_init_26 : decode cX10_init 26 = .ok (.aload_n 0, 1) := by decide +kernel
theorem dX10_init_27 : decode cX10_init 27 = .ok (.new 23, 3) := by decide +kernel
theorem dX10_init_30 : decode cX10_init 30 = .ok (.dup, 1) := by decide +kernel
theorem dX10_init_31 : decode cX10_init 31 = .ok (.invokespecial 25, 3) := by decide +kernel
theorem dX10_init_34 : decode cX10_init 34 = .ok (.putfield 26, 3) := by decide +kernel
theorem dX10_init_37 : decode cX10_init 37 = .ok (.aload_n 0, 1) := by decide +kernel
theorem dX10_init_38 : decode cX10_init 38 = .ok (.new 23, 3) := by decide +kernel
theorem dX10_init_41 : decode cX10_init 41 = .ok (.dup, 1) := by decide +kernel
theorem dX10_init_42 : decode cX10_init 42 = .ok (.invokespecial 25, 3) := by decide +kernel
theorem dX10_init_45 : decode cX10_init 45 = .ok (.putfield 30, 3) := by decide +kernel
theorem dX10_init_48 : decode cX10_init 48 = .ok (.aload_n 0, 1) := by decide +kernel
theorem dX10_init_49 : decode cX10_init 49 = .ok (.new 33, 3) := by decide +kernel
theorem dX10_init_52 : decode cX10_init 52 = .ok (.dup, 1) := by decide +kernel
theorem dX10_init_53 : decode cX10_init 53 = .ok (.invokespecial 35, 3) := by decide +kernel
theorem dX10_init_56 : decode cX10_init 56 = .ok (.putfield 36, 3) := by decide +kernel
theorem dX10_init_59 : decode cX10_init 59 = .ok (.aload_n 0, 1) := by decide +kernel
theorem dX10_init_60 : decode cX10_init 60 = .ok (.new 33, 3) := by decide +kernel
theorem dX10_init_63 : decode cX10_init 63 = .ok (.dup, 1) := by decide +kernel
theorem dX10_init_64 : decode cX10_init 64 = .ok (.invokespecial 35, 3) := by decide +kernel
theorem dX10_init_67 : decode cX10_init 67 = .ok (.putfield 40, 3) := by decide +kernel
theorem dX10_init_70 : decode cX10_init 70 = .ok (.aload_n 0, 1) := by decide +kernel
theorem dX10_init_71 : decode cX10_init 71 = .ok (.new 43, 3) := by decide +kernel
theorem dX10_init_74 : decode cX10_init 74 = .ok (.dup, 1) := by decide +kernel
theorem dX10_init_75 : decode cX10_init 75 = .ok (.invokespecial 45, 3) := by decide +kernel
theorem dX10_init_78 : decode cX10_init 78 = .ok (.putfield 46, 3) := by decide +kernel
theorem dX10_init_81 : decode cX10_init 81 = .ok (.aload_n 0, 1) := by decide +kernel
theorem dX10_init_82 : decode cX10_init 82 = .ok (.new 50, 3) := by decide +kernel
theorem dX10_init_85 : decode cX10_init 85 = .ok (.dup, 1) := by decide +kernel
theorem dX10_init_86 : decode cX10_init 86 = .ok (.invokespecial 52, 3) := by decide +kernel
theorem dX10_init_89 : decode cX10_init 89 = .ok (.putfield 53, 3) := by decide +kernel
theorem dX10_init_92 : decode cX10_init 92 = .ok (.aload_n 0, 1) := by decide +kernel
theorem dX10_init_93 : decode cX10_init 93 = .ok (.iconst 3, 1) := by decide +kernel
theorem dX10_init_94 : decode cX10_init 94 = .ok (.anewarray 43, 3) := by decide +kernel
theorem dX10_init_97 : decode cX10_init 97 = .ok (.putfield 57, 3) := by decide +kernel
theorem dX10_init_100 : decode cX10_init 100 = .ok (.aload_n 0, 1) := by decide +kernel
theorem dX10_init_101 : decode cX10_init 101 = .ok (.iconst 3, 1) := by decide +kernel
theorem dX10_init_102 : decode cX10_init 102 = .ok (.newarray .boolean, 2) := by decide +kernel
theorem dX10_init_104 : decode cX10_init 104 = .ok (.putfield 61, 3) := by decide +kernel
theorem dX10_init_107 : decode cX10_init 107 = .ok (.aload_n 0, 1) := by decide +kernel
theorem dX10_init_108 : decode cX10_init 108 = .ok (.new 65, 3) := by decide +kernel
theorem dX10_init_111 : decode cX10_init 111 = .ok (.dup, 1) := by decide +kernel
theorem dX10_init_112 : decode cX10_init 112 = .ok (.invokespecial 67, 3) := by decide +kernel
theorem dX10_init_115 : decode cX10_init 115 = .ok (.putfield 68, 3) := by decide +kernel
theorem dX10_init_118 : decode cX10_init 118 = .ok (.aload_n 0, 1) := by decide +kernel
theorem dX10_init_119 : decode cX10_init 119 = .ok (.new 72, 3) := by decide +kernel
theorem dX10_init_122 : decode cX10_init 122 = .ok (.dup, 1) := by decide +kernel
theorem dX10_init_123 : decode cX10_init 123 = .ok (.invokespecial 74, 3) := by decide +kernel
theorem dX10_init_126 : decode cX10_init 126 = .ok (.putfield 75, 3) := by decide +kernel
theorem dX10_init_129 : decode cX10_init 129 = .ok (.aload_n 0, 1) := by decide +kernel
theorem dX10_init_130 : decode cX10_init 130 = .ok (.new 79, 3) := by decide +kernel
theorem dX10_init_133 : decode cX10_init 133 = .ok (.dup, 1) := by decide +kernel
theorem dX10_init_134 : decode cX10_init 134 = .ok (.invokespecial 81, 3) := by decide +kernel
theorem dX10_init_137 : decode cX10_init 137 = .ok (.putfield 82, 3) := by decide +kernel
theorem dX10_init_140 : decode cX10_init 140 = .ok (.aload_n 0, 1) := by decide +kernel
theorem dX10_init_141 : decode cX10_init 141 = .ok (.new 86, 3) := by decide +kernel
theorem dX10_init_144 : decode cX10_init 144 = .ok (.dup, 1) := by decide +kernel
theorem dX10_init_145 : decode cX10_init 145 = .ok (.invokespecial 88, 3) := by decide +kernel
theorem dX10_init_148 : decode cX10_init 148 = .ok (.putfield 89, 3) := by decide +kernel
theorem dX10_init_151 : decode cX10_init 151 = .ok (.aload_n 0, 1) := by decide +kernel
theorem dX10_init_152 : decode cX10_init 152 = .ok (.iconst 0, 1) := by decide +kernel
theorem dX10_init_153 : decode cX10_init 153 = .ok (.putfield 93, 3) := by decide +kernel
theorem dX10_init_156 : decode cX10_init 156 = .ok (.aload_n 0, 1) := by decide +kernel
theorem dX10_init_157 : decode cX10_init 157 = .ok (.iconst 0, 1) := by decide +kernel
theorem dX10_init_158 : decode cX10_init 158 = .ok (.putfield 97, 3) := by decide +kernel
theorem dX10_init_161 : decode cX10_init 161 = .ok (.aload_n 0, 1) := by decide +kernel
theorem dX10_init_162 : decode cX10_init 162 = .ok (.bipush 8, 2) := by decide +kernel
theorem dX10_init_164 : decode cX10_init 164 = .ok (.newarray .int, 2) := by decide +kernel
theorem dX10_init_166 : decode cX10_init 166 = .ok (.putfield 100, 3) := by decide +kernel
theorem dX10_init_169 : decode cX10_init 169 = .ok (.aload_n 0, 1) := by decide +kernel
theorem dX10_init_170 : decode cX10_init 170 = .ok (.bipush 16, 2) := by decide +kernel
theorem dX10_init_172 : decode cX10_init 172 = .ok (.newarray .long, 2) := by decide +kernel
theorem dX10_init_174 : decode cX10_init 174 = .ok (.putfield 104, 3) := by decide +kernel
theorem dX10_init_177 : decode cX10_init 177 = .ok (.iconst 0, 1) := by decide +kernel
theorem dX10_init_178 : decode cX10_init 178 = .ok (.istore_n 1, 1) := by decide +kernel
theorem dX10_init_179 : decode cX10_init 179 = .ok (.iload_n 1, 1) := by decide +kernel
theorem dX10_init_180 : decode cX10_init 180 = .ok (.iconst 3, 1) := by decide +kernel
theorem dX10_init_181 : decode cX10_init 181 = .ok (.if_icmp .ge 22, 3) := by decide +kernel
theorem dX10_init_184 : decode cX10_init 184 = .ok (.aload_n 0, 1) := by decide +kernel
theorem dX10_init_185 : decode cX10_init 185 = .ok (.getfield 57, 3) := by decide +kernel
theorem dX10_init_188 : decode cX10_init 188 = .ok (.iload_n 1, 1) := by decide +kernel
theorem dX10_init_189 : decode cX10_init 189 = .ok (.new 43, 3) := by decide +kernel
theorem dX10_init_192 : decode cX10_init 192 = .ok (.dup, 1) := by decide +kernel
theorem dX10_init_193 : decode cX10_init 193 = .ok (.invokespecial 45, 3) := by decide +kernel
theorem dX10_init_196 : decode cX10_init 196 = .ok (.aastore, 1) := by decide +kernel
theorem dX10_init_197 : decode cX10_init 197 = .ok (.iinc 1 1, 3) := by decide +kernel
theorem dX10_init_200 : decode cX10_init 200 = .ok (.goto (-21), 3) := by decide +kernel
theorem dX10_init_203 : decode cX10_init 203 = .ok (.return_, 1) := by decide +kernel
theorem ob_X10_3 : Cond.methodLink RX10 3 Lib.objectInit ∈ xTB := x_tb (tb1 31 (by decide +kernel)) rfl
theorem cl_X10_9 : Cond.classLink RX10 9 RX8 ∈ xTB := x_tb (tb1 34 (by decide +kernel)) rfl
theorem in_X8 : Cond.instantiable RX8 2 ∈ xTB := x_tb (tb1 35 (by decide +kernel)) rfl
theorem iz_X8 : Cond.initialized RX8 ∈ xTB := x_tb (tb1 2 (by decide +kernel)) rfl
theorem mn_X10_11 : xMN RX10 11 mX8_init := Or.inr ⟨"NoonGun", x_nw (tb1 36 (by decide +kernel)) rfl⟩
theorem cl_X10_16 : Cond.classLink RX10 16 RX6 ∈ xTB := x_tb (tb1 51 (by decide +kernel)) rfl
theorem in_X6 : Cond.instantiable RX6 2 ∈ xTB := x_tb (tb1 52 (by decide +kernel)) rfl
theorem iz_X6 : Cond.initialized RX6 ∈ xTB := x_tb (tb1 3 (by decide +kernel)) rfl
theorem mn_X10_18 : xMN RX10 18 mX6_init := Or.inr ⟨"NoonGun", x_nw (tb1 53 (by decide +kernel)) rfl⟩
theorem cl_X10_23 : Cond.classLink RX10 23 RX1 ∈ xTB := x_tb (tb1 67 (by decide +kernel)) rfl
theorem in_X1 : Cond.instantiable RX1 2 ∈ xTB := x_tb (tb1 68 (by decide +kernel)) rfl
theorem iz_X1 : Cond.initialized RX1 ∈ xTB := x_tb (tb1 4 (by decide +kernel)) rfl
theorem mn_X10_25 : xMN RX10 25 mX1_init := Or.inr ⟨"NoonGun", x_nw (tb1 69 (by decide +kernel)) rfl⟩
theorem cl_X10_33 : Cond.classLink RX10 33 RX7 ∈ xTB := x_tb (tb1 81 (by decide +kernel)) rfl
theorem in_X7 : Cond.instantiable RX7 8 ∈ xTB := x_tb (tb1 82 (by decide +kernel)) rfl
theorem iz_X7 : Cond.initialized RX7 ∈ xTB := x_tb (tb1 5 (by decide +kernel)) rfl
theorem mn_X10_35 : xMN RX10 35 mX7_init := Or.inr ⟨"NoonGun", x_nw (tb1 83 (by decide +kernel)) rfl⟩
theorem cl_X10_43 : Cond.classLink RX10 43 RX9 ∈ xTB := x_tb (tb1 121 (by decide +kernel)) rfl
theorem mn_X10_45 : xMN RX10 45 mX9_init := Or.inr ⟨"NoonGun", x_nw (tb1 123 (by decide +kernel)) rfl⟩
theorem cl_X10_50 : Cond.classLink RX10 50 RX3 ∈ xTB := x_tb (tb1 164 (by decide +kernel)) rfl
theorem in_X3 : Cond.instantiable RX3 3 ∈ xTB := x_tb (tb1 165 (by decide +kernel)) rfl
theorem iz_X3 : Cond.initialized RX3 ∈ xTB := x_tb (tb1 8 (by decide +kernel)) rfl
theorem mn_X10_52 : xMN RX10 52 mX3_init := Or.inr ⟨"NoonGun", x_nw (tb1 166 (by decide +kernel)) rfl⟩
theorem ac_3 : Cond.arrayClass .boolean ∈ xTB := x_tb (tb1 209 (by decide +kernel)) rfl
theorem cl_X10_65 : Cond.classLink RX10 65 RX0 ∈ xTB := x_tb (tb1 184 (by decide +kernel)) rfl
theorem in_X0 : Cond.instantiable RX0 2 ∈ xTB := x_tb (tb1 185 (by decide +kernel)) rfl
theorem iz_X0 : Cond.initialized RX0 ∈ xTB := x_tb (tb1 9 (by decide +kernel)) rfl
theorem mn_X10_67 : xMN RX10 67 mX0_init := Or.inr ⟨"NoonGun", x_nw (tb1 186 (by decide +kernel)) rfl⟩
theorem cl_X10_72 : Cond.classLink RX10 72 RX4 ∈ xTB := x_tb (tb1 211 (by decide +kernel)) rfl
theorem in_X4 : Cond.instantiable RX4 8 ∈ xTB := x_tb (tb1 212 (by decide +kernel)) rfl
theorem iz_X4 : Cond.initialized RX4 ∈ xTB := x_tb (tb1 11 (by decide +kernel)) rfl
theorem mn_X10_74 : xMN RX10 74 mX4_init := Or.inr ⟨"NoonGun", x_nw (tb1 213 (by decide +kernel)) rfl⟩
theorem cl_X10_79 : Cond.classLink RX10 79 RX5 ∈ xTB := x_tb (tb2 8 (by decide +kernel)) rfl
theorem in_X5 : Cond.instantiable RX5 6 ∈ xTB := x_tb (tb2 9 (by decide +kernel)) rfl
theorem iz_X5 : Cond.initialized RX5 ∈ xTB := x_tb (tb1 12 (by decide +kernel)) rfl
theorem mn_X10_81 : xMN RX10 81 mX5_init := Or.inr ⟨"NoonGun", x_nw (tb2 10 (by decide +kernel)) rfl⟩
theorem cl_X10_86 : Cond.classLink RX10 86 RX2 ∈ xTB := x_tb (tb2 39 (by decide +kernel)) rfl
theorem in_X2 : Cond.instantiable RX2 2 ∈ xTB := x_tb (tb2 40 (by decide +kernel)) rfl
theorem iz_X2 : Cond.initialized RX2 ∈ xTB := x_tb (tb1 13 (by decide +kernel)) rfl
theorem mn_X10_88 : xMN RX10 88 mX2_init := Or.inr ⟨"NoonGun", x_nw (tb2 41 (by decide +kernel)) rfl⟩
def it_X10_0 (σ : xW) : xW := xu (w_X9_109 (xnO σ 109)) 87 0 109
theorem ik_X10_0 {σ : xW} : it_X10_0 σ 0 8 = σ 0 8 := rfl
theorem il_X10_0 {σ : xW} {K : List xV → Nat → xW → Prop} (h : σ 0 8 = 87) (kk : xGN 3 8 66 mX10_init 179 [vR 0, vI 1] [] 113 (it_X10_0 σ) K) : xGN 3 12 99 mX10_init 179 [vR 0, vI 0] [] 109 σ K := by
  refine n_iln dX10_init_179 rfl rfl ?_
  refine n_ic dX10_init_180 ?_
  refine n_cge dX10_init_181 (tgt := 203) rfl ⟨by decide, by decide⟩ ⟨by decide, by decide⟩ (fun h => absurd h (by decide)) (fun _ => ?_)
  refine n_aln dX10_init_184 rfl rfl (by decide) ?_
  refine n_get0 (t := 97) (v := vR 87) dX10_init_185 fl_X10_57 rfl ((congrArg (xfv 109 97) h).trans rfl) ?_
  refine n_iln dX10_init_188 rfl rfl ?_
  refine n_new (bc := 11) (bs := 90) (ci := 9) (N := 9) (T := TX9) (ty := tyX9) dX10_init_189 cl_X10_43 in_X9 iz_X9 rfl wX9 tyX9_ok rfl rfl rfl (fun j hj => by
    have hj2 : j = 0 ∨ j = 1 ∨ j = 2 ∨ j = 3 ∨ j = 4 ∨ j = 5 ∨ j = 6 ∨ j = 7 ∨ j = 8 := by omega
    rcases hj2 with rfl | rfl | rfl | rfl | rfl | rfl | rfl | rfl | rfl <;> rfl) ?_
  refine n_dup dX10_init_192 rfl ?_
  refine n_callI (bc := 8) (bs := 66) (b1 := 3) (b2 := 24) (n1 := 113) dX10_init_193 mn_X10_45 my_X9_init mi_X9_init rfl rfl (by decide) (by decide) k_X9_109 rfl (by decide) rfl ?_
  refine n_aast 3 rfl dX10_init_196 rfl ⟨by decide, by decide⟩ (by decide) rfl rfl ?_
  refine n_inc_1 dX10_init_197 (by decide) rfl ?_
  refine n_goto dX10_init_200 (tgt := 179) rfl ?_
  exact kk
def it_X10_1 (σ : xW) : xW := xu (w_X9_113 (xnO σ 113)) 87 1 113
theorem ik_X10_1 {σ : xW} : it_X10_1 σ 0 8 = σ 0 8 := rfl
theorem il_X10_1 {σ : xW} {K : List xV → Nat → xW → Prop} (h : σ 0 8 = 87) (kk : xGN 3 4 33 mX10_init 179 [vR 0, vI 2] [] 117 (it_X10_1 σ) K) : xGN 3 8 66 mX10_init 179 [vR 0, vI 1] [] 113 σ K := by
  refine n_iln dX10_init_179 rfl rfl ?_
  refine n_ic dX10_init_180 ?_
  refine n_cge dX10_init_181 (tgt := 203) rfl ⟨by decide, by decide⟩ ⟨by decide, by decide⟩ (fun h => absurd h (by decide)) (fun _ => ?_)
  refine n_aln dX10_init_184 rfl rfl (by decide) ?_
  refine n_get0 (t := 97) (v := vR 87) dX10_init_185 fl_X10_57 rfl ((congrArg (xfv 113 97) h).trans rfl) ?_
  refine n_iln dX10_init_188 rfl rfl ?_
  refine n_new (bc := 7) (bs := 57) (ci := 9) (N := 9) (T := TX9) (ty := tyX9) dX10_init_189 cl_X10_43 in_X9 iz_X9 rfl wX9 tyX9_ok rfl rfl rfl (fun j hj => by
    have hj2 : j = 0 ∨ j = 1 ∨ j = 2 ∨ j = 3 ∨ j = 4 ∨ j = 5 ∨ j = 6 ∨ j = 7 ∨ j = 8 := by omega
    rcases hj2 with rfl | rfl | rfl | rfl | rfl | rfl | rfl | rfl | rfl <;> rfl) ?_
  refine n_dup dX10_init_192 rfl ?_
  refine n_callI (bc := 4) (bs := 33) (b1 := 3) (b2 := 24) (n1 := 117) dX10_init_193 mn_X10_45 my_X9_init mi_X9_init rfl rfl (by decide) (by decide) k_X9_113 rfl (by decide) rfl ?_
  refine n_aast 3 rfl dX10_init_196 rfl ⟨by decide, by decide⟩ (by decide) rfl rfl ?_
  refine n_inc_1 dX10_init_197 (by decide) rfl ?_
  refine n_goto dX10_init_200 (tgt := 179) rfl ?_
  exact kk
def it_X10_2 (σ : xW) : xW := xu (w_X9_117 (xnO σ 117)) 87 2 117
theorem ik_X10_2 {σ : xW} : it_X10_2 σ 0 8 = σ 0 8 := rfl
theorem il_X10_2 {σ : xW} {K : List xV → Nat → xW → Prop} (h : σ 0 8 = 87) (kk : xGN 3 0 0 mX10_init 179 [vR 0, vI 3] [] 121 (it_X10_2 σ) K) : xGN 3 4 33 mX10_init 179 [vR 0, vI 2] [] 117 σ K := by
  refine n_iln dX10_init_179 rfl rfl ?_
  refine n_ic dX10_init_180 ?_
  refine n_cge dX10_init_181 (tgt := 203) rfl ⟨by decide, by decide⟩ ⟨by decide, by decide⟩ (fun h => absurd h (by decide)) (fun _ => ?_)
  refine n_aln dX10_init_184 rfl rfl (by decide) ?_
  refine n_get0 (t := 97) (v := vR 87) dX10_init_185 fl_X10_57 rfl ((congrArg (xfv 117 97) h).trans rfl) ?_
  refine n_iln dX10_init_188 rfl rfl ?_
  refine n_new (bc := 3) (bs := 24) (ci := 9) (N := 9) (T := TX9) (ty := tyX9) dX10_init_189 cl_X10_43 in_X9 iz_X9 rfl wX9 tyX9_ok rfl rfl rfl (fun j hj => by
    have hj2 : j = 0 ∨ j = 1 ∨ j = 2 ∨ j = 3 ∨ j = 4 ∨ j = 5 ∨ j = 6 ∨ j = 7 ∨ j = 8 := by omega
    rcases hj2 with rfl | rfl | rfl | rfl | rfl | rfl | rfl | rfl | rfl <;> rfl) ?_
  refine n_dup dX10_init_192 rfl ?_
  refine n_callI (bc := 0) (bs := 0) (b1 := 3) (b2 := 24) (n1 := 121) dX10_init_193 mn_X10_45 my_X9_init mi_X9_init rfl rfl (by decide) (by decide) k_X9_117 rfl (by decide) rfl ?_
  refine n_aast 3 rfl dX10_init_196 rfl ⟨by decide, by decide⟩ (by decide) rfl rfl ?_
  refine n_inc_1 dX10_init_197 (by decide) rfl ?_
  refine n_goto dX10_init_200 (tgt := 179) rfl ?_
  exact kk
def w_X10_0 (σ : xW) : xW := it_X10_2 (it_X10_1 (it_X10_0 (xu (xnz (xu (xnz (xu (xu (xu (w_X2_105 (xnO (xu (w_X5_100 (xnO (xu (w_X4_92 (xnO (xu (w_X0_89 (xnO (xu (xnz (xu (xnm (xu (w_X3_21 (xnO (xu (w_X9_17 (xnO (xu (w_X7_13 (xnO (xu (w_X7_9 (xnO (xu (w_X1_7 (xnO (xu (w_X1_5 (xnO (xu (w_X6_3 (xnO (xu (w_X8_1 (xnO σ 1)) 0 0 1) 3)) 0 1 3) 5)) 0 2 5) 7)) 0 3 7) 9)) 0 4 9) 13)) 0 5 13) 17)) 0 6 17) 21)) 0 7 21) 87) 0 8 87) 88) 0 9 88) 89)) 0 10 89) 92)) 0 11 92) 100)) 0 12 100) 105)) 0 13 105) 0 14 0) 0 15 0) 107) 0 16 107) 108) 0 17 108)))
theorem k_X10_0 {σ : xW} : xCN 3 120 1459 mX10_init [vR 0] 1 σ (fun r n' σ' => r = [] ∧ n' = 121 ∧ σ' = w_X10_0 σ) := by
  refine xCN.of [vR 0, vX] (by decide +kernel) (Nat.le_of_ble_eq_true rfl) rfl ?_
  refine n_aln dX10_init_0 rfl rfl (by decide) ?_
  refine n_obj (by decide) dX10_init_1 ob_X10_3 (by decide) rfl ?_
  refine n_aln dX10_init_4 rfl rfl (by decide) ?_
  refine n_new (bc := 119) (bs := 1457) (ci := 8) (N := 2) (T := TX8) (ty := tyX8) dX10_init_5 cl_X10_9 in_X8 iz_X8 rfl wX8 tyX8_ok rfl rfl rfl (fun j hj => by
    have hj2 : j = 0 ∨ j = 1 := by omega
    rcases hj2 with rfl | rfl <;> rfl) ?_
  refine n_dup dX10_init_8 rfl ?_
  refine n_callI (bc := 118) (bs := 1377) (b1 := 1) (b2 := 80) (n1 := 3) dX10_init_9 mn_X10_11 my_X8_init mi_X8_init rfl rfl (by decide) (by decide) k_X8_1 rfl (by decide) rfl ?_
  refine m_put (x := 1) (t := 11) dX10_init_12 fl_X10_12 rfl rfl (fun _ => ⟨rfl, rfl⟩) (fun _ => ⟨rfl, rfl, _, _, _, rfl, x_tb (tb2 52 (by decide +kernel)) rfl⟩) rfl ?_
  refine n_aln dX10_init_15 rfl rfl (by decide) ?_
  refine n_new (bc := 117) (bs := 1375) (ci := 6) (N := 2) (T := TX6) (ty := tyX6) dX10_init_16 cl_X10_16 in_X6 iz_X6 rfl wX6 tyX6_ok rfl rfl rfl (fun j hj => by
    have hj2 : j = 0 ∨ j = 1 := by omega
    rcases hj2 with rfl | rfl <;> rfl) ?_
  refine n_dup dX10_init_19 rfl ?_
  refine n_callI (bc := 116) (bs := 1359) (b1 := 1) (b2 := 16) (n1 := 5) dX10_init_20 mn_X10_18 my_X6_init mi_X6_init rfl rfl (by decide) (by decide) k_X6_3 rfl (by decide) rfl ?_
  refine m_put (x := 3) (t := 13) dX10_init_23 fl_X10_19 rfl rfl (fun _ => ⟨rfl, rfl⟩) (fun _ => ⟨rfl, rfl, _, _, _, rfl, x_tb (tb2 53 (by decide +kernel)) rfl⟩) rfl ?_
  refine n_aln dX10_init_26 rfl rfl (by decide) ?_
  refine n_new (bc := 115) (bs := 1357) (ci := 1) (N := 2) (T := TX1) (ty := tyX1) dX10_init_27 cl_X10_23 in_X1 iz_X1 rfl wX1 tyX1_ok rfl rfl rfl (fun j hj => by
    have hj2 : j = 0 ∨ j = 1 := by omega
    rcases hj2 with rfl | rfl <;> rfl) ?_
  refine n_dup dX10_init_30 rfl ?_
  refine n_callI (bc := 114) (bs := 1337) (b1 := 1) (b2 := 20) (n1 := 7) dX10_init_31 mn_X10_25 my_X1_init mi_X1_init rfl rfl (by decide) (by decide) k_X1_5 rfl (by decide) rfl ?_
  refine m_put (x := 5) (t := 15) dX10_init_34 fl_X10_26 rfl rfl (fun _ => ⟨rfl, rfl⟩) (fun _ => ⟨rfl, rfl, _, _, _, rfl, x_tb (tb2 54 (by decide +kernel)) rfl⟩) rfl ?_
  refine n_aln dX10_init_37 rfl rfl (by decide) ?_
  refine n_new (bc := 113) (bs := 1335) (ci := 1) (N := 2) (T := TX1) (ty := tyX1) dX10_init_38 cl_X10_23 in_X1 iz_X1 rfl wX1 tyX1_ok rfl rfl rfl (fun j hj => by
    have hj2 : j = 0 ∨ j = 1 := by omega
    rcases hj2 with rfl | rfl <;> rfl) ?_
  refine n_dup dX10_init_41 rfl ?_
  refine n_callI (bc := 112) (bs := 1315) (b1 := 1) (b2 := 20) (n1 := 9) dX10_init_42 mn_X10_25 my_X1_init mi_X1_init rfl rfl (by decide) (by decide) k_X1_7 rfl (by decide) rfl ?_
  refine m_put (x := 7) (t := 17) dX10_init_45 fl_X10_30 rfl rfl (fun _ => ⟨rfl, rfl⟩) (fun _ => ⟨rfl, rfl, _, _, _, rfl, x_tb (tb2 55 (by decide +kernel)) rfl⟩) rfl ?_
  refine n_aln dX10_init_48 rfl rfl (by decide) ?_
  refine n_new (bc := 111) (bs := 1307) (ci := 7) (N := 8) (T := TX7) (ty := tyX7) dX10_init_49 cl_X10_33 in_X7 iz_X7 rfl wX7 tyX7_ok rfl rfl rfl (fun j hj => by
    have hj2 : j = 0 ∨ j = 1 ∨ j = 2 ∨ j = 3 ∨ j = 4 ∨ j = 5 ∨ j = 6 ∨ j = 7 := by omega
    rcases hj2 with rfl | rfl | rfl | rfl | rfl | rfl | rfl | rfl <;> rfl) ?_
  refine n_dup dX10_init_52 rfl ?_
  refine n_callI (bc := 108) (bs := 1187) (b1 := 3) (b2 := 120) (n1 := 13) dX10_init_53 mn_X10_35 my_X7_init mi_X7_init rfl rfl (by decide) (by decide) k_X7_9 rfl (by decide) rfl ?_
  refine m_put (x := 9) (t := 2) dX10_init_56 fl_X10_36 rfl rfl (fun _ => ⟨rfl, rfl⟩) (fun h => nomatch h) rfl ?_
  refine n_aln dX10_init_59 rfl rfl (by decide) ?_
  refine n_new (bc := 107) (bs := 1179) (ci := 7) (N := 8) (T := TX7) (ty := tyX7) dX10_init_60 cl_X10_33 in_X7 iz_X7 rfl wX7 tyX7_ok rfl rfl rfl (fun j hj => by
    have hj2 : j = 0 ∨ j = 1 ∨ j = 2 ∨ j = 3 ∨ j = 4 ∨ j = 5 ∨ j = 6 ∨ j = 7 := by omega
    rcases hj2 with rfl | rfl | rfl | rfl | rfl | rfl | rfl | rfl <;> rfl) ?_
  refine n_dup dX10_init_63 rfl ?_
  refine n_callI (bc := 104) (bs := 1059) (b1 := 3) (b2 := 120) (n1 := 17) dX10_init_64 mn_X10_35 my_X7_init mi_X7_init rfl rfl (by decide) (by decide) k_X7_13 rfl (by decide) rfl ?_
  refine m_put (x := 13) (t := 2) dX10_init_67 fl_X10_40 rfl rfl (fun _ => ⟨rfl, rfl⟩) (fun h => nomatch h) rfl ?_
  refine n_aln dX10_init_70 rfl rfl (by decide) ?_
  refine n_new (bc := 103) (bs := 1050) (ci := 9) (N := 9) (T := TX9) (ty := tyX9) dX10_init_71 cl_X10_43 in_X9 iz_X9 rfl wX9 tyX9_ok rfl rfl rfl (fun j hj => by
    have hj2 : j = 0 ∨ j = 1 ∨ j = 2 ∨ j = 3 ∨ j = 4 ∨ j = 5 ∨ j = 6 ∨ j = 7 ∨ j = 8 := by omega
    rcases hj2 with rfl | rfl | rfl | rfl | rfl | rfl | rfl | rfl | rfl <;> rfl) ?_
  refine n_dup dX10_init_74 rfl ?_
  refine n_callI (bc := 100) (bs := 1026) (b1 := 3) (b2 := 24) (n1 := 21) dX10_init_75 mn_X10_45 my_X9_init mi_X9_init rfl rfl (by decide) (by decide) k_X9_17 rfl (by decide) rfl ?_
  refine m_put (x := 17) (t := 27) dX10_init_78 fl_X10_46 rfl rfl (fun _ => ⟨rfl, rfl⟩) (fun _ => ⟨rfl, rfl, _, _, _, rfl, x_tb (tb2 58 (by decide +kernel)) rfl⟩) rfl ?_
  refine n_aln dX10_init_81 rfl rfl (by decide) ?_
  refine n_new (bc := 99) (bs := 1023) (ci := 3) (N := 3) (T := TX3) (ty := tyX3) dX10_init_82 cl_X10_50 in_X3 iz_X3 rfl wX3 tyX3_ok rfl rfl rfl (fun j hj => by
    have hj2 : j = 0 ∨ j = 1 ∨ j = 2 := by omega
    rcases hj2 with rfl | rfl | rfl <;> rfl) ?_
  refine n_dup dX10_init_85 rfl ?_
  refine n_callI (bc := 34) (bs := 479) (b1 := 65) (b2 := 544) (n1 := 87) dX10_init_86 mn_X10_52 my_X3_init mi_X3_init rfl rfl (by decide) (by decide) k_X3_21 rfl (by decide) rfl ?_
  refine m_put (x := 21) (t := 31) dX10_init_89 fl_X10_53 rfl rfl (fun _ => ⟨rfl, rfl⟩) (fun _ => ⟨rfl, rfl, _, _, _, rfl, x_tb (tb2 59 (by decide +kernel)) rfl⟩) rfl ?_
  refine n_aln dX10_init_92 rfl rfl (by decide) ?_
  refine n_ic dX10_init_93 ?_
  refine n_anew (bc := 33) (bs := 476) (len := 3) dX10_init_94 cl_X10_43 rfl rfl rfl (by decide) ?_
  refine m_put (x := 87) (t := 97) dX10_init_97 fl_X10_57 rfl rfl (fun _ => ⟨rfl, rfl⟩) (fun _ => ⟨rfl, rfl, _, _, _, rfl, x_tb (tb2 60 (by decide +kernel)) rfl⟩) rfl ?_
  refine n_aln dX10_init_100 rfl rfl (by decide) ?_
  refine n_ic dX10_init_101 ?_
  refine m_newa (bc := 32) (bs := 473) (len := 3) (n1 := 89) dX10_init_102 rfl ac_3 rfl rfl rfl rfl (by decide) rfl rfl ?_
  refine m_put (x := 88) (t := 98) dX10_init_104 fl_X10_61 rfl rfl (fun _ => ⟨rfl, rfl⟩) (fun _ => ⟨rfl, rfl, _, _, _, rfl, x_tb (tb2 61 (by decide +kernel)) rfl⟩) rfl ?_
  refine n_aln dX10_init_107 rfl rfl (by decide) ?_
  refine n_new (bc := 31) (bs := 471) (ci := 0) (N := 2) (T := TX0) (ty := tyX0) dX10_init_108 cl_X10_65 in_X0 iz_X0 rfl wX0 tyX0_ok rfl rfl rfl (fun j hj => by
    have hj2 : j = 0 ∨ j = 1 := by omega
    rcases hj2 with rfl | rfl <;> rfl) ?_
  refine n_dup dX10_init_111 rfl ?_
  refine n_callI (bc := 29) (bs := 456) (b1 := 2) (b2 := 15) (n1 := 92) dX10_init_112 mn_X10_67 my_X0_init mi_X0_init rfl rfl (by decide) (by decide) k_X0_89 rfl (by decide) rfl ?_
  refine m_put (x := 89) (t := 99) dX10_init_115 fl_X10_68 rfl rfl (fun _ => ⟨rfl, rfl⟩) (fun _ => ⟨rfl, rfl, _, _, _, rfl, x_tb (tb2 62 (by decide +kernel)) rfl⟩) rfl ?_
  refine n_aln dX10_init_118 rfl rfl (by decide) ?_
  refine n_new (bc := 28) (bs := 448) (ci := 4) (N := 8) (T := TX4) (ty := tyX4) dX10_init_119 cl_X10_72 in_X4 iz_X4 rfl wX4 tyX4_ok rfl rfl rfl (fun j hj => by
    have hj2 : j = 0 ∨ j = 1 ∨ j = 2 ∨ j = 3 ∨ j = 4 ∨ j = 5 ∨ j = 6 ∨ j = 7 := by omega
    rcases hj2 with rfl | rfl | rfl | rfl | rfl | rfl | rfl | rfl <;> rfl) ?_
  refine n_dup dX10_init_122 rfl ?_
  refine n_callI (bc := 21) (bs := 392) (b1 := 7) (b2 := 56) (n1 := 100) dX10_init_123 mn_X10_74 my_X4_init mi_X4_init rfl rfl (by decide) (by decide) k_X4_92 rfl (by decide) rfl ?_
  refine m_put (x := 92) (t := 102) dX10_init_126 fl_X10_75 rfl rfl (fun _ => ⟨rfl, rfl⟩) (fun _ => ⟨rfl, rfl, _, _, _, rfl, x_tb (tb2 63 (by decide +kernel)) rfl⟩) rfl ?_
  refine n_aln dX10_init_129 rfl rfl (by decide) ?_
  refine n_new (bc := 20) (bs := 386) (ci := 5) (N := 6) (T := TX5) (ty := tyX5) dX10_init_130 cl_X10_79 in_X5 iz_X5 rfl wX5 tyX5_ok rfl rfl rfl (fun j hj => by
    have hj2 : j = 0 ∨ j = 1 ∨ j = 2 ∨ j = 3 ∨ j = 4 ∨ j = 5 := by omega
    rcases hj2 with rfl | rfl | rfl | rfl | rfl | rfl <;> rfl) ?_
  refine n_dup dX10_init_133 rfl ?_
  refine n_callI (bc := 16) (bs := 146) (b1 := 4) (b2 := 240) (n1 := 105) dX10_init_134 mn_X10_81 my_X5_init mi_X5_init rfl rfl (by decide) (by decide) k_X5_100 rfl (by decide) rfl ?_
  refine m_put (x := 100) (t := 110) dX10_init_137 fl_X10_82 rfl rfl (fun _ => ⟨rfl, rfl⟩) (fun _ => ⟨rfl, rfl, _, _, _, rfl, x_tb (tb2 64 (by decide +kernel)) rfl⟩) rfl ?_
  refine n_aln dX10_init_140 rfl rfl (by decide) ?_
  refine n_new (bc := 15) (bs := 144) (ci := 2) (N := 2) (T := TX2) (ty := tyX2) dX10_init_141 cl_X10_86 in_X2 iz_X2 rfl wX2 tyX2_ok rfl rfl rfl (fun j hj => by
    have hj2 : j = 0 ∨ j = 1 := by omega
    rcases hj2 with rfl | rfl <;> rfl) ?_
  refine n_dup dX10_init_144 rfl ?_
  refine n_callI (bc := 14) (bs := 123) (b1 := 1) (b2 := 21) (n1 := 107) dX10_init_145 mn_X10_88 my_X2_init mi_X2_init rfl rfl (by decide) (by decide) k_X2_105 rfl (by decide) rfl ?_
  refine m_put (x := 105) (t := 115) dX10_init_148 fl_X10_89 rfl rfl (fun _ => ⟨rfl, rfl⟩) (fun _ => ⟨rfl, rfl, _, _, _, rfl, x_tb (tb2 65 (by decide +kernel)) rfl⟩) rfl ?_
  refine n_aln dX10_init_151 rfl rfl (by decide) ?_
  refine n_ic dX10_init_152 ?_
  refine m_put (x := 0) (t := 0) dX10_init_153 fl_X10_93 rfl rfl (fun _ => ⟨rfl, rfl⟩) (fun h => nomatch h) rfl ?_
  refine n_aln dX10_init_156 rfl rfl (by decide) ?_
  refine n_ic dX10_init_157 ?_
  refine m_put (x := 0) (t := 0) dX10_init_158 fl_X10_97 rfl rfl (fun _ => ⟨rfl, rfl⟩) (fun h => nomatch h) rfl ?_
  refine n_aln dX10_init_161 rfl rfl (by decide) ?_
  refine n_bi dX10_init_162 (by decide) ?_
  refine m_newa (bc := 13) (bs := 115) (len := 8) (n1 := 108) dX10_init_164 rfl ac_1 rfl rfl rfl rfl (by decide) rfl rfl ?_
  refine m_put (x := 107) (t := 117) dX10_init_166 fl_X10_100 rfl rfl (fun _ => ⟨rfl, rfl⟩) (fun _ => ⟨rfl, rfl, _, _, _, rfl, x_tb (tb2 68 (by decide +kernel)) rfl⟩) rfl ?_
  refine n_aln dX10_init_169 rfl rfl (by decide) ?_
  refine n_bi dX10_init_170 (by decide) ?_
  refine m_newa (bc := 12) (bs := 99) (len := 16) (n1 := 109) dX10_init_172 rfl ac_2 rfl rfl rfl rfl (by decide) rfl rfl ?_
  refine m_put (x := 108) (t := 118) dX10_init_174 fl_X10_104 rfl rfl (fun _ => ⟨rfl, rfl⟩) (fun _ => ⟨rfl, rfl, _, _, _, rfl, x_tb (tb2 69 (by decide +kernel)) rfl⟩) rfl ?_
  refine n_ic dX10_init_177 ?_
  refine n_istn_1 dX10_init_178 (by decide) rfl ?_
  have H0 : (xu (xnz (xu (xnz (xu (xu (xu (w_X2_105 (xnO (xu (w_X5_100 (xnO (xu (w_X4_92 (xnO (xu (w_X0_89 (xnO (xu (xnz (xu (xnm (xu (w_X3_21 (xnO (xu (w_X9_17 (xnO (xu (w_X7_13 (xnO (xu (w_X7_9 (xnO (xu (w_X1_7 (xnO (xu (w_X1_5 (xnO (xu (w_X6_3 (xnO (xu (w_X8_1 (xnO σ 1)) 0 0 1) 3)) 0 1 3) 5)) 0 2 5) 7)) 0 3 7) 9)) 0 4 9) 13)) 0 5 13) 17)) 0 6 17) 21)) 0 7 21) 87) 0 8 87) 88) 0 9 88) 89)) 0 10 89) 92)) 0 11 92) 100)) 0 12 100) 105)) 0 13 105) 0 14 0) 0 15 0) 107) 0 16 107) 108) 0 17 108) 0 8 = 87 := rfl
  refine il_X10_0 H0 ?_
  have H1 := (ik_X10_0 (σ := _)).trans H0
  refine il_X10_1 H1 ?_
  have H2 := (ik_X10_1 (σ := _)).trans H1
  refine il_X10_2 H2 ?_
  have H3 := (ik_X10_2 (σ := _)).trans H2
  refine n_iln dX10_init_179 rfl rfl ?_
  refine n_ic dX10_init_180 ?_
  refine n_cge dX10_init_181 (tgt := 203) rfl ⟨by decide, by decide⟩ ⟨by decide, by decide⟩ (fun _ => ?_) (fun h => absurd h (by decide))
  exact n_ret (r := []) dX10_init_203 trivial ⟨rfl, rfl, rfl⟩ rfl
theorem dX11_init_0 : decode cX11_init 0 = .ok (.aload_n 0, 1) := by decide +kernel
theorem dX11_init_1 : decode cX11_init 1 = .ok (.invokespecial 22, 3) := by decide +kernel
theorem dX11_init_4 : decode cX11_init 4 = .ok (.aload_n 0, 1) := by decide +kernel
theorem dX11_init_5 : decode cX11_init 5 = .ok (.bipush 24, 2) := by decide +kernel
theorem dX11_init_7 : decode cX11_init 7 = .ok (.newarray .long, 2) := by decide +kernel
theorem dX11_init_9 : decode cX11_init 9 = .ok (.putfield 11, 3) := by decide +kernel
theorem dX11_init_12 : decode cX11_init 12 = .ok (.aload_n 0, 1) := by decide +kernel
theorem dX11_init_13 : decode cX11_init 13 = .ok (.iconst 1, 1) := by decide +kernel
theorem dX11_init_14 : decode cX11_init 14 = .ok (.putfield 28, 3) := by decide +kernel
theorem dX11_init_17 : decode cX11_init 17 = .ok (.aload_n 0, 1) := by decide +kernel
theorem dX11_init_18 : decode cX11_init 18 = .ok (.iconst 1, 1) := by decide +kernel
theorem dX11_init_19 : decode cX11_init 19 = .ok (.putfield 31, 3) := by decide +kernel
theorem dX11_init_22 : decode cX11_init 22 = .ok (.aload_n 0, 1) := by decide +kernel
theorem dX11_init_23 : decode cX11_init 23 = .ok (.bipush 20, 2) := by decide +kernel
theorem dX11_init_25 : decode cX11_init 25 = .ok (.newarray .int, 2) := by decide +kernel
theorem dX11_init_27 : decode cX11_init 27 = .ok (.putfield 34, 3) := by decide +kernel
theorem dX11_init_30 : decode cX11_init 30 = .ok (.aload_n 0, 1) := by decide +kernel
theorem dX11_init_31 : decode cX11_init 31 = .ok (.bipush 20, 2) := by decide +kernel
theorem dX11_init_33 : decode cX11_init 33 = .ok (.newarray .int, 2) := by decide +kernel
theorem dX11_init_35 : decode cX11_init 35 = .ok (.putfield 38, 3) := by decide +kernel
theorem dX11_init_38 : decode cX11_init 38 = .ok (.aload_n 0, 1) := by decide +kernel
theorem dX11_init_39 : decode cX11_init 39 = .ok (.bipush 8, 2) := by decide +kernel
theorem dX11_init_41 : decode cX11_init 41 = .ok (.newarray .int, 2) := by decide +kernel
theorem dX11_init_43 : decode cX11_init 43 = .ok (.putfield 41, 3) := by decide +kernel
theorem dX11_init_46 : decode cX11_init 46 = .ok (.aload_n 0, 1) := by decide +kernel
theorem dX11_init_47 : decode cX11_init 47 = .ok (.bipush 8, 2) := by decide +kernel
theorem dX11_init_49 : decode cX11_init 49 = .ok (.newarray .int, 2) := by decide +kernel
theorem dX11_init_51 : decode cX11_init 51 = .ok (.putfield 44, 3) := by decide +kernel
theorem dX11_init_54 : decode cX11_init 54 = .ok (.aload_n 0, 1) := by decide +kernel
theorem dX11_init_55 : decode cX11_init 55 = .ok (.bipush 40, 2) := by decide +kernel
theorem dX11_init_57 : decode cX11_init 57 = .ok (.newarray .int, 2) := by decide +kernel
theorem dX11_init_59 : decode cX11_init 59 = .ok (.putfield 47, 3) := by decide +kernel
theorem dX11_init_62 : decode cX11_init 62 = .ok (.aload_n 0, 1) := by decide +kernel
theorem dX11_init_63 : decode cX11_init 63 = .ok (.bipush 40, 2) := by decide +kernel
theorem dX11_init_65 : decode cX11_init 65 = .ok (.newarray .int, 2) := by decide +kernel
theorem dX11_init_67 : decode cX11_init 67 = .ok (.putfield 50, 3) := by decide +kernel
theorem dX11_init_70 : decode cX11_init 70 = .ok (.aload_n 0, 1) := by decide +kernel
theorem dX11_init_71 : decode cX11_init 71 = .ok (.bipush 80, 2) := by decide +kernel
theorem dX11_init_73 : decode cX11_init 73 = .ok (.newarray .int, 2) := by decide +kernel
theorem dX11_init_75 : decode cX11_init 75 = .ok (.putfield 53, 3) := by decide +kernel
theorem dX11_init_78 : decode cX11_init 78 = .ok (.aload_n 0, 1) := by decide +kernel
theorem dX11_init_79 : decode cX11_init 79 = .ok (.bipush 24, 2) := by decide +kernel
theorem dX11_init_81 : decode cX11_init 81 = .ok (.newarray .int, 2) := by decide +kernel
theorem dX11_init_83 : decode cX11_init 83 = .ok (.putfield 56, 3) := by decide +kernel
theorem dX11_init_86 : decode cX11_init 86 = .ok (.aload_n 0, 1) := by decide +kernel
theorem dX11_init_87 : decode cX11_init 87 = .ok (.bipush 80, 2) := by decide +kernel
theorem dX11_init_89 : decode cX11_init 89 = .ok (.newarray .int, 2) := by decide +kernel
theorem dX11_init_91 : decode cX11_init 91 = .ok (.putfield 59, 3) := by decide +kernel
theorem dX11_init_94 : decode cX11_init 94 = .ok (.aload_n 0, 1) := by decide +kernel
theorem dX11_init_95 : decode cX11_init 95 = .ok (.bipush 80, 2) := by decide +kernel
theorem dX11_init_97 : decode cX11_init 97 = .ok (.newarray .int, 2) := by decide +kernel
theorem dX11_init_99 : decode cX11_init 99 = .ok (.putfield 62, 3) := by decide +kernel
theorem dX11_init_102 : decode cX11_init 102 = .ok (.aload_n 0, 1) := by decide +kernel
theorem dX11_init_103 : decode cX11_init 103 = .ok (.bipush 80, 2) := by decide +kernel
theorem dX11_init_105 : decode cX11_init 105 = .ok (.newarray .int, 2) := by decide +kernel
theorem dX11_init_107 : decode cX11_init 107 = .ok (.putfield 65, 3) := by decide +kernel
theorem dX11_init_110 : decode cX11_init 110 = .ok (.aload_n 0, 1) := by decide +kernel
theorem dX11_init_111 : decode cX11_init 111 = .ok (.bipush 7, 2) := by decide +kernel
theorem dX11_init_113 : decode cX11_init 113 = .ok (.newarray .int, 2) := by decide +kernel
theorem dX11_init_115 : decode cX11_init 115 = .ok (.putfield 68, 3) := by decide +kernel
theorem dX11_init_118 : decode cX11_init 118 = .ok (.aload_n 0, 1) := by decide +kernel
theorem dX11_init_119 : decode cX11_init 119 = .ok (.bipush 8, 2) := by decide +kernel
theorem dX11_init_121 : decode cX11_init 121 = .ok (.newarray .int, 2) := by decide +kernel
theorem dX11_init_123 : decode cX11_init 123 = .ok (.putfield 71, 3) := by decide +kernel
theorem dX11_init_126 : decode cX11_init 126 = .ok (.aload_n 0, 1) := by decide +kernel
theorem dX11_init_127 : decode cX11_init 127 = .ok (.sipush 640, 3) := by decide +kernel
theorem dX11_init_130 : decode cX11_init 130 = .ok (.newarray .int, 2) := by decide +kernel
theorem dX11_init_132 : decode cX11_init 132 = .ok (.putfield 74, 3) := by decide +kernel
theorem dX11_init_135 : decode cX11_init 135 = .ok (.aload_n 0, 1) := by decide +kernel
theorem dX11_init_136 : decode cX11_init 136 = .ok (.bipush 60, 2) := by decide +kernel
theorem dX11_init_138 : decode cX11_init 138 = .ok (.newarray .int, 2) := by decide +kernel
theorem dX11_init_140 : decode cX11_init 140 = .ok (.putfield 77, 3) := by decide +kernel
theorem dX11_init_143 : decode cX11_init 143 = .ok (.aload_n 0, 1) := by decide +kernel
theorem dX11_init_144 : decode cX11_init 144 = .ok (.bipush 60, 2) := by decide +kernel
theorem dX11_init_146 : decode cX11_init 146 = .ok (.newarray .int, 2) := by decide +kernel
theorem dX11_init_148 : decode cX11_init 148 = .ok (.putfield 80, 3) := by decide +kernel
theorem dX11_init_151 : decode cX11_init 151 = .ok (.aload_n 0, 1) := by decide +kernel
theorem dX11_init_152 : decode cX11_init 152 = .ok (.bipush 60, 2) := by decide +kernel
theorem dX11_init_154 : decode cX11_init 154 = .ok (.newarray .int, 2) := by decide +kernel
theorem dX11_init_156 : decode cX11_init 156 = .ok (.putfield 83, 3) := by decide +kernel
theorem dX11_init_159 : decode cX11_init 159 = .ok (.aload_n 0, 1) := by decide +kernel
theorem dX11_init_160 : decode cX11_init 160 = .ok (.bipush 60, 2) := by decide +kernel
theorem dX11_init_162 : decode cX11_init 162 = .ok (.newarray .int, 2) := by decide +kernel
theorem dX11_init_164 : decode cX11_init 164 = .ok (.putfield 86, 3) := by decide +kernel
theorem dX11_init_167 : decode cX11_init 167 = .ok (.aload_n 0, 1) := by decide +kernel
theorem dX11_init_168 : decode cX11_init 168 = .ok (.bipush 8, 2) := by decide +kernel
theorem dX11_init_170 : decode cX11_init 170 = .ok (.newarray .int, 2) := by decide +kernel
theorem dX11_init_172 : decode cX11_init 172 = .ok (.putfield 89, 3) := by decide +kernel
theorem dX11_init_175 : decode cX11_init 175 = .ok (.aload_n 0, 1) := by decide +kernel
theorem dX11_init_176 : decode cX11_init 176 = .ok (.sipush 220, 3) := by decide +kernel
theorem dX11_init_179 : decode cX11_init 179 = .ok (.newarray .int, 2) := by decide +kernel
theorem dX11_init_181 : decode cX11_init 181 = .ok (.putfield 92, 3) := by decide +kernel
theorem dX11_init_184 : decode cX11_init 184 = .ok (.aload_n 0, 1) := by decide +kernel
theorem dX11_init_185 : decode cX11_init 185 = .ok (.bipush 8, 2) := by decide +kernel
theorem dX11_init_187 : decode cX11_init 187 = .ok (.newarray .int, 2) := by decide +kernel
theorem dX11_init_189 : decode cX11_init 189 = .ok (.putfield 95, 3) := by decide +kernel
theorem dX11_init_192 : decode cX11_init 192 = .ok (.aload_n 0, 1) := by decide +kernel
theorem dX11_init_193 : decode cX11_init 193 = .ok (.bipush 8, 2) := by decide +kernel
theorem dX11_init_195 : decode cX11_init 195 = .ok (.newarray .int, 2) := by decide +kernel
theorem dX11_init_197 : decode cX11_init 197 = .ok (.putfield 98, 3) := by decide +kernel
theorem dX11_init_200 : decode cX11_init 200 = .ok (.aload_n 0, 1) := by decide +kernel
theorem dX11_init_201 : decode cX11_init 201 = .ok (.bipush 8, 2) := by decide +kernel
theorem dX11_init_203 : decode cX11_init 203 = .ok (.newarray .int, 2) := by decide +kernel
theorem dX11_init_205 : decode cX11_init 205 = .ok (.putfield 101, 3) := by decide +kernel
theorem dX11_init_208 : decode cX11_init 208 = .ok (.aload_n 0, 1) := by decide +kernel
theorem dX11_init_209 : decode cX11_init 209 = .ok (.bipush 10, 2) := by decide +kernel
theorem dX11_init_211 : decode cX11_init 211 = .ok (.newarray .int, 2) := by decide +kernel
theorem dX11_init_213 : decode cX11_init 213 = .ok (.putfield 104, 3) := by decide +kernel
theorem dX11_init_216 : decode cX11_init 216 = .ok (.aload_n 0, 1) := by decide +kernel
theorem dX11_init_217 : decode cX11_init 217 = .ok (.bipush 10, 2) := by decide +kernel
theorem dX11_init_219 : decode cX11_init 219 = .ok (.newarray .int, 2) := by decide +kernel
theorem dX11_init_221 : decode cX11_init 221 = .ok (.putfield 107, 3) := by decide +kernel
theorem dX11_init_224 : decode cX11_init 224 = .ok (.aload_n 0, 1) := by decide +kernel
theorem dX11_init_225 : decode cX11_init 225 = .ok (.bipush 17, 2) := by decide +kernel
theorem dX11_init_227 : decode cX11_init 227 = .ok (.newarray .long, 2) := by decide +kernel
theorem dX11_init_229 : decode cX11_init 229 = .ok (.putfield 110, 3) := by decide +kernel
theorem dX11_init_232 : decode cX11_init 232 = .ok (.aload_n 0, 1) := by decide +kernel
theorem dX11_init_233 : decode cX11_init 233 = .ok (.sipush 441, 3) := by decide +kernel
theorem dX11_init_236 : decode cX11_init 236 = .ok (.newarray .boolean, 2) := by decide +kernel
theorem dX11_init_238 : decode cX11_init 238 = .ok (.putfield 113, 3) := by decide +kernel
theorem dX11_init_241 : decode cX11_init 241 = .ok (.aload_n 0, 1) := by decide +kernel
theorem dX11_init_242 : decode cX11_init 242 = .ok (.bipush 80, 2) := by decide +kernel
theorem dX11_init_244 : decode cX11_init 244 = .ok (.newarray .int, 2) := by decide +kernel
theorem dX11_init_246 : decode cX11_init 246 = .ok (.putfield 117, 3) := by decide +kernel
theorem dX11_init_249 : decode cX11_init 249 = .ok (.aload_n 0, 1) := by decide +kernel
theorem dX11_init_250 : decode cX11_init 250 = .ok (.iconst 3, 1) := by decide +kernel
theorem dX11_init_251 : decode cX11_init 251 = .ok (.newarray .boolean, 2) := by decide +kernel
theorem dX11_init_253 : decode cX11_init 253 = .ok (.putfield 120, 3) := by decide +kernel
theorem dX11_init_256 : decode cX11_init 256 = .ok (.aload_n 0, 1) := by decide +kernel
theorem dX11_init_257 : decode cX11_init 257 = .ok (.iconst 3, 1) := by decide +kernel
theorem dX11_init_258 : decode cX11_init 258 = .ok (.newarray .int, 2) := by decide +kernel
theorem dX11_init_260 : decode cX11_init 260 = .ok (.putfield 123, 3) := by decide +kernel
theorem dX11_init_263 : decode cX11_init 263 = .ok (.aload_n 0, 1) := by decide +kernel
theorem dX11_init_264 : decode cX11_init 264 = .ok (.bipush 120, 2) := by decide +kernel
theorem dX11_init_266 : decode cX11_init 266 = .ok (.newarray .int, 2) := by decide +kernel
theorem dX11_init_268 : decode cX11_init 268 = .ok (.putfield 126, 3) := by decide +kernel
theorem dX11_init_271 : decode cX11_init 271 = .ok (.aload_n 0, 1) := by decide +kernel
theorem dX11_init_272 : decode cX11_init 272 = .ok (.getfield 47, 3) := by decide +kernel
theorem dX11_init_275 : decode cX11_init 275 = .ok (.bipush 34, 2) := by decide +kernel
theorem dX11_init_277 : decode cX11_init 277 = .ok (.bipush 9, 2) := by decide +kernel
theorem dX11_init_279 : decode cX11_init 279 = .ok (.iastore, 1) := by decide +kernel
theorem dX11_init_280 : decode cX11_init 280 = .ok (.aload_n 0, 1) := by decide +kernel
theorem dX11_init_281 : decode cX11_init 281 = .ok (.getfield 47, 3) := by decide +kernel
theorem dX11_init_284 : decode cX11_init 284 = .ok (.bipush 35, 2) := by decide +kernel
theorem dX11_init_286 : decode cX11_init 286 = .ok (.bipush 9, 2) := by decide +kernel
theorem dX11_init_288 : decode cX11_init 288 = .ok (.iastore, 1) := by decide +kernel
theorem dX11_init_289 : decode cX11_init 289 = .ok (.aload_n 0, 1) := by decide +kernel
theorem dX11_init_290 : decode cX11_init 290 = .ok (.getfield 47, 3) := by decide +kernel
theorem dX11_init_293 : decode cX11_init 293 = .ok (.bipush 36, 2) := by decide +kernel
theorem dX11_init_295 : decode cX11_init 295 = .ok (.bipush 20, 2) := by decide +kernel
theorem dX11_init_297 : decode cX11_init 297 = .ok (.iastore, 1) := by decide +kernel
theorem dX11_init_298 : decode cX11_init 298 = .ok (.return_, 1) := by decide +kernel
theorem ob_X11_22 : Cond.methodLink RX11 22 Lib.objectInit ∈ xTB := x_tb (tb5 148 (by decide +kernel)) rfl
def w_X11_121 (σ : xW) : xW := xu (xu (xu (xu (xnz (xu (xnz (xu (xnz (xu (xnz (xu (xnz (xu (xnz (xu (xnz (xu (xnz (xu (xnz (xu (xnz (xu (xnz (xu (xnz (xu (xnz (xu (xnz (xu (xnz (xu (xnz (xu (xnz (xu (xnz (xu (xnz (xu (xnz (xu (xnz (xu (xnz (xu (xnz (xu (xnz (xu (xnz (xu (xnz (xu (xnz (xu (xnz (xu (xnz (xu (xnz (xu (xnz (xu (xu (xu (xnz σ 122) 121 2 122) 121 6 1) 121 7 1) 123) 121 8 123) 124) 121 9 124) 125) 121 10 125) 126) 121 11 126) 127) 121 12 127) 128) 121 13 128) 129) 121 14 129) 130) 121 19 130) 131) 121 21 131) 132) 121 22 132) 133) 121 25 133) 134) 121 26 134) 135) 121 27 135) 136) 121 29 136) 137) 121 32 137) 138) 121 33 138) 139) 121 34 139) 140) 121 35 140) 141) 121 37 141) 142) 121 38 142) 143) 121 39 143) 144) 121 40 144) 145) 121 41 145) 146) 121 43 146) 147) 121 44 147) 148) 121 45 148) 149) 121 46 149) 150) 121 47 150) 151) 121 49 151) 152) 121 50 152) 153) 121 51 153) 127 34 9) 127 35 9) 127 36 20
theorem k_X11_121 {σ : xW} : xCN 1 32 2335 mX11_init [vR 121] 122 σ (fun r n' σ' => r = [] ∧ n' = 154 ∧ σ' = w_X11_121 σ) := by
  refine xCN.of [vR 121] (by decide +kernel) (Nat.le_of_ble_eq_true rfl) rfl ?_
  refine n_aln dX11_init_0 rfl rfl (by decide) ?_
  refine n_obj (by decide) dX11_init_1 ob_X11_22 (by decide) rfl ?_
  refine n_aln dX11_init_4 rfl rfl (by decide) ?_
  refine n_bi dX11_init_5 (by decide) ?_
  refine m_newa (bc := 31) (bs := 2311) (len := 24) (n1 := 123) dX11_init_7 rfl ac_2 rfl rfl rfl rfl (by decide) rfl rfl ?_
  refine m_put (x := 122) (t := 132) dX11_init_9 fl_X11_11 rfl rfl (fun _ => ⟨rfl, rfl⟩) (fun _ => ⟨rfl, rfl, _, _, _, rfl, x_tb (tb5 151 (by decide +kernel)) rfl⟩) rfl ?_
  refine n_aln dX11_init_12 rfl rfl (by decide) ?_
  refine n_ic dX11_init_13 ?_
  refine m_put (x := 1) (t := 0) dX11_init_14 fl_X11_28 rfl rfl (fun _ => ⟨rfl, rfl⟩) (fun h => nomatch h) rfl ?_
  refine n_aln dX11_init_17 rfl rfl (by decide) ?_
  refine n_ic dX11_init_18 ?_
  refine m_put (x := 1) (t := 0) dX11_init_19 fl_X11_31 rfl rfl (fun _ => ⟨rfl, rfl⟩) (fun h => nomatch h) rfl ?_
  refine n_aln dX11_init_22 rfl rfl (by decide) ?_
  refine n_bi dX11_init_23 (by decide) ?_
  refine m_newa (bc := 30) (bs := 2291) (len := 20) (n1 := 124) dX11_init_25 rfl ac_1 rfl rfl rfl rfl (by decide) rfl rfl ?_
  refine m_put (x := 123) (t := 133) dX11_init_27 fl_X11_34 rfl rfl (fun _ => ⟨rfl, rfl⟩) (fun _ => ⟨rfl, rfl, _, _, _, rfl, x_tb (tb5 157 (by decide +kernel)) rfl⟩) rfl ?_
  refine n_aln dX11_init_30 rfl rfl (by decide) ?_
  refine n_bi dX11_init_31 (by decide) ?_
  refine m_newa (bc := 29) (bs := 2271) (len := 20) (n1 := 125) dX11_init_33 rfl ac_1 rfl rfl rfl rfl (by decide) rfl rfl ?_
  refine m_put (x := 124) (t := 134) dX11_init_35 fl_X11_38 rfl rfl (fun _ => ⟨rfl, rfl⟩) (fun _ => ⟨rfl, rfl, _, _, _, rfl, x_tb (tb5 158 (by decide +kernel)) rfl⟩) rfl ?_
  refine n_aln dX11_init_38 rfl rfl (by decide) ?_
  refine n_bi dX11_init_39 (by decide) ?_
  refine m_newa (bc := 28) (bs := 2263) (len := 8) (n1 := 126) dX11_init_41 rfl ac_1 rfl rfl rfl rfl (by decide) rfl rfl ?_
  refine m_put (x := 125) (t := 135) dX11_init_43 fl_X11_41 rfl rfl (fun _ => ⟨rfl, rfl⟩) (fun _ => ⟨rfl, rfl, _, _, _, rfl, x_tb (tb5 159 (by decide +kernel)) rfl⟩) rfl ?_
  refine n_aln dX11_init_46 rfl rfl (by decide) ?_
  refine n_bi dX11_init_47 (by decide) ?_
  refine m_newa (bc := 27) (bs := 2255) (len := 8) (n1 := 127) dX11_init_49 rfl ac_1 rfl rfl rfl rfl (by decide) rfl rfl ?_
  refine m_put (x := 126) (t := 136) dX11_init_51 fl_X11_44 rfl rfl (fun _ => ⟨rfl, rfl⟩) (fun _ => ⟨rfl, rfl, _, _, _, rfl, x_tb (tb5 160 (by decide +kernel)) rfl⟩) rfl ?_
  refine n_aln dX11_init_54 rfl rfl (by decide) ?_
  refine n_bi dX11_init_55 (by decide) ?_
  refine m_newa (bc := 26) (bs := 2215) (len := 40) (n1 := 128) dX11_init_57 rfl ac_1 rfl rfl rfl rfl (by decide) rfl rfl ?_
  refine m_put (x := 127) (t := 137) dX11_init_59 fl_X11_47 rfl rfl (fun _ => ⟨rfl, rfl⟩) (fun _ => ⟨rfl, rfl, _, _, _, rfl, x_tb (tb5 161 (by decide +kernel)) rfl⟩) rfl ?_
  refine n_aln dX11_init_62 rfl rfl (by decide) ?_
  refine n_bi dX11_init_63 (by decide) ?_
  refine m_newa (bc := 25) (bs := 2175) (len := 40) (n1 := 129) dX11_init_65 rfl ac_1 rfl rfl rfl rfl (by decide) rfl rfl ?_
  refine m_put (x := 128) (t := 138) dX11_init_67 fl_X11_50 rfl rfl (fun _ => ⟨rfl, rfl⟩) (fun _ => ⟨rfl, rfl, _, _, _, rfl, x_tb (tb5 162 (by decide +kernel)) rfl⟩) rfl ?_
  refine n_aln dX11_init_70 rfl rfl (by decide) ?_
  refine n_bi dX11_init_71 (by decide) ?_
  refine m_newa (bc := 24) (bs := 2095) (len := 80) (n1 := 130) dX11_init_73 rfl ac_1 rfl rfl rfl rfl (by decide) rfl rfl ?_
  refine m_put (x := 129) (t := 139) dX11_init_75 fl_X11_53 rfl rfl (fun _ => ⟨rfl, rfl⟩) (fun _ => ⟨rfl, rfl, _, _, _, rfl, x_tb (tb5 163 (by decide +kernel)) rfl⟩) rfl ?_
  refine n_aln dX11_init_78 rfl rfl (by decide) ?_
  refine n_bi dX11_init_79 (by decide) ?_
  refine m_newa (bc := 23) (bs := 2071) (len := 24) (n1 := 131) dX11_init_81 rfl ac_1 rfl rfl rfl rfl (by decide) rfl rfl ?_
  refine m_put (x := 130) (t := 140) dX11_init_83 fl_X11_56 rfl rfl (fun _ => ⟨rfl, rfl⟩) (fun _ => ⟨rfl, rfl, _, _, _, rfl, x_tb (tb5 168 (by decide +kernel)) rfl⟩) rfl ?_
  refine n_aln dX11_init_86 rfl rfl (by decide) ?_
  refine n_bi dX11_init_87 (by decide) ?_
  refine m_newa (bc := 22) (bs := 1991) (len := 80) (n1 := 132) dX11_init_89 rfl ac_1 rfl rfl rfl rfl (by decide) rfl rfl ?_
  refine m_put (x := 131) (t := 141) dX11_init_91 fl_X11_59 rfl rfl (fun _ => ⟨rfl, rfl⟩) (fun _ => ⟨rfl, rfl, _, _, _, rfl, x_tb (tb5 170 (by decide +kernel)) rfl⟩) rfl ?_
  refine n_aln dX11_init_94 rfl rfl (by decide) ?_
  refine n_bi dX11_init_95 (by decide) ?_
  refine m_newa (bc := 21) (bs := 1911) (len := 80) (n1 := 133) dX11_init_97 rfl ac_1 rfl rfl rfl rfl (by decide) rfl rfl ?_
  refine m_put (x := 132) (t := 142) dX11_init_99 fl_X11_62 rfl rfl (fun _ => ⟨rfl, rfl⟩) (fun _ => ⟨rfl, rfl, _, _, _, rfl, x_tb (tb5 171 (by decide +kernel)) rfl⟩) rfl ?_
  refine n_aln dX11_init_102 rfl rfl (by decide) ?_
  refine n_bi dX11_init_103 (by decide) ?_
  refine m_newa (bc := 20) (bs := 1831) (len := 80) (n1 := 134) dX11_init_105 rfl ac_1 rfl rfl rfl rfl (by decide) rfl rfl ?_
  refine m_put (x := 133) (t := 143) dX11_init_107 fl_X11_65 rfl rfl (fun _ => ⟨rfl, rfl⟩) (fun _ => ⟨rfl, rfl, _, _, _, rfl, x_tb (tb5 174 (by decide +kernel)) rfl⟩) rfl ?_
  refine n_aln dX11_init_110 rfl rfl (by decide) ?_
  refine n_bi dX11_init_111 (by decide) ?_
  refine m_newa (bc := 19) (bs := 1824) (len := 7) (n1 := 135) dX11_init_113 rfl ac_1 rfl rfl rfl rfl (by decide) rfl rfl ?_
  refine m_put (x := 134) (t := 144) dX11_init_115 fl_X11_68 rfl rfl (fun _ => ⟨rfl, rfl⟩) (fun _ => ⟨rfl, rfl, _, _, _, rfl, x_tb (tb5 175 (by decide +kernel)) rfl⟩) rfl ?_
  refine n_aln dX11_init_118 rfl rfl (by decide) ?_
  refine n_bi dX11_init_119 (by decide) ?_
  refine m_newa (bc := 18) (bs := 1816) (len := 8) (n1 := 136) dX11_init_121 rfl ac_1 rfl rfl rfl rfl (by decide) rfl rfl ?_
  refine m_put (x := 135) (t := 145) dX11_init_123 fl_X11_71 rfl rfl (fun _ => ⟨rfl, rfl⟩) (fun _ => ⟨rfl, rfl, _, _, _, rfl, x_tb (tb5 176 (by decide +kernel)) rfl⟩) rfl ?_
  refine n_aln dX11_init_126 rfl rfl (by decide) ?_
  refine n_si dX11_init_127 (by decide) ?_
  refine m_newa (bc := 17) (bs := 1176) (len := 640) (n1 := 137) dX11_init_130 rfl ac_1 rfl rfl rfl rfl (by decide) rfl rfl ?_
  refine m_put (x := 136) (t := 146) dX11_init_132 fl_X11_74 rfl rfl (fun _ => ⟨rfl, rfl⟩) (fun _ => ⟨rfl, rfl, _, _, _, rfl, x_tb (tb5 178 (by decide +kernel)) rfl⟩) rfl ?_
  refine n_aln dX11_init_135 rfl rfl (by decide) ?_
  refine n_bi dX11_init_136 (by decide) ?_
  refine m_newa (bc := 16) (bs := 1116) (len := 60) (n1 := 138) dX11_init_138 rfl ac_1 rfl rfl rfl rfl (by decide) rfl rfl ?_
  refine m_put (x := 137) (t := 147) dX11_init_140 fl_X11_77 rfl rfl (fun _ => ⟨rfl, rfl⟩) (fun _ => ⟨rfl, rfl, _, _, _, rfl, x_tb (tb5 181 (by decide +kernel)) rfl⟩) rfl ?_
  refine n_aln dX11_init_143 rfl rfl (by decide) ?_
  refine n_bi dX11_init_144 (by decide) ?_
  refine m_newa (bc := 15) (bs := 1056) (len := 60) (n1 := 139) dX11_init_146 rfl ac_1 rfl rfl rfl rfl (by decide) rfl rfl ?_
  refine m_put (x := 138) (t := 148) dX11_init_148 fl_X11_80 rfl rfl (fun _ => ⟨rfl, rfl⟩) (fun _ => ⟨rfl, rfl, _, _, _, rfl, x_tb (tb5 182 (by decide +kernel)) rfl⟩) rfl ?_
  refine n_aln dX11_init_151 rfl rfl (by decide) ?_
  refine n_bi dX11_init_152 (by decide) ?_
  refine m_newa (bc := 14) (bs := 996) (len := 60) (n1 := 140) dX11_init_154 rfl ac_1 rfl rfl rfl rfl (by decide) rfl rfl ?_
  refine m_put (x := 139) (t := 149) dX11_init_156 fl_X11_83 rfl rfl (fun _ => ⟨rfl, rfl⟩) (fun _ => ⟨rfl, rfl, _, _, _, rfl, x_tb (tb5 183 (by decide +kernel)) rfl⟩) rfl ?_
  refine n_aln dX11_init_159 rfl rfl (by decide) ?_
  refine n_bi dX11_init_160 (by decide) ?_
  refine m_newa (bc := 13) (bs := 936) (len := 60) (n1 := 141) dX11_init_162 rfl ac_1 rfl rfl rfl rfl (by decide) rfl rfl ?_
  refine m_put (x := 140) (t := 150) dX11_init_164 fl_X11_86 rfl rfl (fun _ => ⟨rfl, rfl⟩) (fun _ => ⟨rfl, rfl, _, _, _, rfl, x_tb (tb5 184 (by decide +kernel)) rfl⟩) rfl ?_
  refine n_aln dX11_init_167 rfl rfl (by decide) ?_
  refine n_bi dX11_init_168 (by decide) ?_
  refine m_newa (bc := 12) (bs := 928) (len := 8) (n1 := 142) dX11_init_170 rfl ac_1 rfl rfl rfl rfl (by decide) rfl rfl ?_
  refine m_put (x := 141) (t := 151) dX11_init_172 fl_X11_89 rfl rfl (fun _ => ⟨rfl, rfl⟩) (fun _ => ⟨rfl, rfl, _, _, _, rfl, x_tb (tb5 186 (by decide +kernel)) rfl⟩) rfl ?_
  refine n_aln dX11_init_175 rfl rfl (by decide) ?_
  refine n_si dX11_init_176 (by decide) ?_
  refine m_newa (bc := 11) (bs := 708) (len := 220) (n1 := 143) dX11_init_179 rfl ac_1 rfl rfl rfl rfl (by decide) rfl rfl ?_
  refine m_put (x := 142) (t := 152) dX11_init_181 fl_X11_92 rfl rfl (fun _ => ⟨rfl, rfl⟩) (fun _ => ⟨rfl, rfl, _, _, _, rfl, x_tb (tb5 187 (by decide +kernel)) rfl⟩) rfl ?_
  refine n_aln dX11_init_184 rfl rfl (by decide) ?_
  refine n_bi dX11_init_185 (by decide) ?_
  refine m_newa (bc := 10) (bs := 700) (len := 8) (n1 := 144) dX11_init_187 rfl ac_1 rfl rfl rfl rfl (by decide) rfl rfl ?_
  refine m_put (x := 143) (t := 153) dX11_init_189 fl_X11_95 rfl rfl (fun _ => ⟨rfl, rfl⟩) (fun _ => ⟨rfl, rfl, _, _, _, rfl, x_tb (tb5 188 (by decide +kernel)) rfl⟩) rfl ?_
  refine n_aln dX11_init_192 rfl rfl (by decide) ?_
  refine n_bi dX11_init_193 (by decide) ?_
  refine m_newa (bc := 9) (bs := 692) (len := 8) (n1 := 145) dX11_init_195 rfl ac_1 rfl rfl rfl rfl (by decide) rfl rfl ?_
  refine m_put (x := 144) (t := 154) dX11_init_197 fl_X11_98 rfl rfl (fun _ => ⟨rfl, rfl⟩) (fun _ => ⟨rfl, rfl, _, _, _, rfl, x_tb (tb5 189 (by decide +kernel)) rfl⟩) rfl ?_
  refine n_aln dX11_init_200 rfl rfl (by decide) ?_
  refine n_bi dX11_init_201 (by decide) ?_
  refine m_newa (bc := 8) (bs := 684) (len := 8) (n1 := 146) dX11_init_203 rfl ac_1 rfl rfl rfl rfl (by decide) rfl rfl ?_
  refine m_put (x := 145) (t := 155) dX11_init_205 fl_X11_101 rfl rfl (fun _ => ⟨rfl, rfl⟩) (fun _ => ⟨rfl, rfl, _, _, _, rfl, x_tb (tb5 190 (by decide +kernel)) rfl⟩) rfl ?_
  refine n_aln dX11_init_208 rfl rfl (by decide) ?_
  refine n_bi dX11_init_209 (by decide) ?_
  refine m_newa (bc := 7) (bs := 674) (len := 10) (n1 := 147) dX11_init_211 rfl ac_1 rfl rfl rfl rfl (by decide) rfl rfl ?_
  refine m_put (x := 146) (t := 156) dX11_init_213 fl_X11_104 rfl rfl (fun _ => ⟨rfl, rfl⟩) (fun _ => ⟨rfl, rfl, _, _, _, rfl, x_tb (tb5 192 (by decide +kernel)) rfl⟩) rfl ?_
  refine n_aln dX11_init_216 rfl rfl (by decide) ?_
  refine n_bi dX11_init_217 (by decide) ?_
  refine m_newa (bc := 6) (bs := 664) (len := 10) (n1 := 148) dX11_init_219 rfl ac_1 rfl rfl rfl rfl (by decide) rfl rfl ?_
  refine m_put (x := 147) (t := 157) dX11_init_221 fl_X11_107 rfl rfl (fun _ => ⟨rfl, rfl⟩) (fun _ => ⟨rfl, rfl, _, _, _, rfl, x_tb (tb5 193 (by decide +kernel)) rfl⟩) rfl ?_
  refine n_aln dX11_init_224 rfl rfl (by decide) ?_
  refine n_bi dX11_init_225 (by decide) ?_
  refine m_newa (bc := 5) (bs := 647) (len := 17) (n1 := 149) dX11_init_227 rfl ac_2 rfl rfl rfl rfl (by decide) rfl rfl ?_
  refine m_put (x := 148) (t := 158) dX11_init_229 fl_X11_110 rfl rfl (fun _ => ⟨rfl, rfl⟩) (fun _ => ⟨rfl, rfl, _, _, _, rfl, x_tb (tb5 194 (by decide +kernel)) rfl⟩) rfl ?_
  refine n_aln dX11_init_232 rfl rfl (by decide) ?_
  refine n_si dX11_init_233 (by decide) ?_
  refine m_newa (bc := 4) (bs := 206) (len := 441) (n1 := 150) dX11_init_236 rfl ac_3 rfl rfl rfl rfl (by decide) rfl rfl ?_
  refine m_put (x := 149) (t := 159) dX11_init_238 fl_X11_113 rfl rfl (fun _ => ⟨rfl, rfl⟩) (fun _ => ⟨rfl, rfl, _, _, _, rfl, x_tb (tb5 195 (by decide +kernel)) rfl⟩) rfl ?_
  refine n_aln dX11_init_241 rfl rfl (by decide) ?_
  refine n_bi dX11_init_242 (by decide) ?_
  refine m_newa (bc := 3) (bs := 126) (len := 80) (n1 := 151) dX11_init_244 rfl ac_1 rfl rfl rfl rfl (by decide) rfl rfl ?_
  refine m_put (x := 150) (t := 160) dX11_init_246 fl_X11_117 rfl rfl (fun _ => ⟨rfl, rfl⟩) (fun _ => ⟨rfl, rfl, _, _, _, rfl, x_tb (tb5 196 (by decide +kernel)) rfl⟩) rfl ?_
  refine n_aln dX11_init_249 rfl rfl (by decide) ?_
  refine n_ic dX11_init_250 ?_
  refine m_newa (bc := 2) (bs := 123) (len := 3) (n1 := 152) dX11_init_251 rfl ac_3 rfl rfl rfl rfl (by decide) rfl rfl ?_
  refine m_put (x := 151) (t := 161) dX11_init_253 fl_X11_120 rfl rfl (fun _ => ⟨rfl, rfl⟩) (fun _ => ⟨rfl, rfl, _, _, _, rfl, x_tb (tb5 198 (by decide +kernel)) rfl⟩) rfl ?_
  refine n_aln dX11_init_256 rfl rfl (by decide) ?_
  refine n_ic dX11_init_257 ?_
  refine m_newa (bc := 1) (bs := 120) (len := 3) (n1 := 153) dX11_init_258 rfl ac_1 rfl rfl rfl rfl (by decide) rfl rfl ?_
  refine m_put (x := 152) (t := 162) dX11_init_260 fl_X11_123 rfl rfl (fun _ => ⟨rfl, rfl⟩) (fun _ => ⟨rfl, rfl, _, _, _, rfl, x_tb (tb5 199 (by decide +kernel)) rfl⟩) rfl ?_
  refine n_aln dX11_init_263 rfl rfl (by decide) ?_
  refine n_bi dX11_init_264 (by decide) ?_
  refine m_newa (bc := 0) (bs := 0) (len := 120) (n1 := 154) dX11_init_266 rfl ac_1 rfl rfl rfl rfl (by decide) rfl rfl ?_
  refine m_put (x := 153) (t := 163) dX11_init_268 fl_X11_126 rfl rfl (fun _ => ⟨rfl, rfl⟩) (fun _ => ⟨rfl, rfl, _, _, _, rfl, x_tb (tb5 200 (by decide +kernel)) rfl⟩) rfl ?_
  refine n_aln dX11_init_271 rfl rfl (by decide) ?_
  refine n_get0 (t := 137) (v := vR 127) dX11_init_272 fl_X11_47 rfl rfl ?_
  refine n_bi dX11_init_275 (by decide) ?_
  refine n_bi dX11_init_277 (by decide) ?_
  refine n_iast 40 dX11_init_279 rfl ⟨by decide, by decide⟩ (by decide) rfl ?_
  refine n_aln dX11_init_280 rfl rfl (by decide) ?_
  refine n_get0 (t := 137) (v := vR 127) dX11_init_281 fl_X11_47 rfl rfl ?_
  refine n_bi dX11_init_284 (by decide) ?_
  refine n_bi dX11_init_286 (by decide) ?_
  refine n_iast 40 dX11_init_288 rfl ⟨by decide, by decide⟩ (by decide) rfl ?_
  refine n_aln dX11_init_289 rfl rfl (by decide) ?_
  refine n_get0 (t := 137) (v := vR 127) dX11_init_290 fl_X11_47 rfl rfl ?_
  refine n_bi dX11_init_293 (by decide) ?_
  refine n_bi dX11_init_295 (by decide) ?_
  refine n_iast 40 dX11_init_297 rfl ⟨by decide, by decide⟩ (by decide) rfl ?_
  exact n_ret (r := []) dX11_init_298 trivial ⟨rfl, rfl, rfl⟩ rfl
