theorem dL_law_894 : decode cL_law 894 = .ok (.aload_n 1, 1) := by decide +kernel
theorem dL_law_895 : decode cL_law 895 = .ok (.invokevirtual 131, 3) := by decide +kernel
theorem dL_law_898 : decode cL_law 898 = .ok (.aload_n 2, 1) := by decide +kernel
theorem dL_law_899 : decode cL_law 899 = .ok (.invokevirtual 134, 3) := by decide +kernel
theorem dL_law_902 : decode cL_law 902 = .ok (.if_icmp .eq 538, 3) := by decide +kernel
theorem dL_law_905 : decode cL_law 905 = .ok (.iconst 0, 1) := by decide +kernel
theorem dL_law_906 : decode cL_law 906 = .ok (.ireturn, 1) := by decide +kernel
theorem law_c24 {Ln : Nat} {xs : Nat → Int32} {i bc bs : Nat} {B : Int} {σ : xW} {K : List xV → Nat → xW → Prop} (hLn : Ln ≤ 2560) (hi : 5 * i + 5 ≤ Ln) (hB : 0 ≤ B ∧ B ≤ 1000000) (h : XR B σ σ) (kk : xKK Ln xs i bc bs B K) : xZ (xGL Ln xs) 330 (bc + 100) (bs + 400) mL_law 894 [vT 100, vR 0, vR 121, vR 154, vI (5 * (i : Int)), vX, vX, vX] [] 155 σ K := by
  obtain ⟨r, σ1, τ1, hF, hM, hX⟩ := xstep (cf := F_X10_lasts ) (mf := F_X11_lasts ) op_lasts (fun σ q hq => xfm_hi (fr_X10_lasts hq) (by decide +kernel)) (fun τ q hq => xfm_lo (fr_X11_lasts hq) (by decide +kernel)) hB h
  refine z_budget (bc' := bc + 0 + 0) (bs' := bs + 0 + 0) (by omega) (by omega) ?_
  refine z_aln dL_law_894 rfl rfl (by decide) ?_
  refine z_callV xGL_s (bc := bc + 0) (bs := bs + 0) (c := 0) (as := []) (S := []) dL_law_895 ml_L_131 rfl (s_X10_lasts hF) rfl (by decide) (by decide) (fun r' n' σ' _ hK => ?_)
  obtain ⟨rfl, rfl, rfl⟩ := hK
  refine z_aln dL_law_898 rfl rfl (by decide) ?_
  refine z_callV xGL_s (bc := bc) (bs := bs) (c := 121) (as := []) (S := [vI r]) dL_law_899 ml_L_134 rfl (s_X11_lasts hM) rfl (by decide) (Nat.le_of_ble_eq_true rfl) (fun r' n' σ' _ hK => ?_)
  obtain ⟨rfl, rfl, rfl⟩ := hK
  exact z_wr2 rfl rfl (z_ceq dL_law_902 (tgt := 1440) rfl (I32_xw _) (I32_xw _) (fun _ => kk _ hX) (fun hne => absurd rfl hne))
theorem dL_law_907 : decode cL_law 907 = .ok (.aload_n 1, 1) := by decide +kernel
theorem dL_law_908 : decode cL_law 908 = .ok (.invokevirtual 135, 3) := by decide +kernel
theorem dL_law_911 : decode cL_law 911 = .ok (.aload_n 2, 1) := by decide +kernel
theorem dL_law_912 : decode cL_law 912 = .ok (.invokevirtual 138, 3) := by decide +kernel
theorem dL_law_915 : decode cL_law 915 = .ok (.if_icmp .eq 525, 3) := by decide +kernel
theorem dL_law_918 : decode cL_law 918 = .ok (.iconst 0, 1) := by decide +kernel
theorem dL_law_919 : decode cL_law 919 = .ok (.ireturn, 1) := by decide +kernel
theorem law_c25 {Ln : Nat} {xs : Nat → Int32} {i bc bs : Nat} {B : Int} {σ : xW} {K : List xV → Nat → xW → Prop} (hLn : Ln ≤ 2560) (hi : 5 * i + 5 ≤ Ln) (hB : 0 ≤ B ∧ B ≤ 1000000) (h : XR B σ σ) (kk : xKK Ln xs i bc bs B K) : xZ (xGL Ln xs) 330 (bc + 100) (bs + 400) mL_law 907 [vT 100, vR 0, vR 121, vR 154, vI (5 * (i : Int)), vX, vX, vX] [] 155 σ K := by
  obtain ⟨r, σ1, τ1, hF, hM, hX⟩ := xstep (cf := F_X10_fewest ) (mf := F_X11_fewest ) op_fewest (fun σ q hq => xfm_hi (fr_X10_fewest hq) (by decide +kernel)) (fun τ q hq => xfm_lo (fr_X11_fewest hq) (by decide +kernel)) hB h
  refine z_budget (bc' := bc + 0 + 0) (bs' := bs + 0 + 0) (by omega) (by omega) ?_
  refine z_aln dL_law_907 rfl rfl (by decide) ?_
  refine z_callV xGL_s (bc := bc + 0) (bs := bs + 0) (c := 0) (as := []) (S := []) dL_law_908 ml_L_135 rfl (s_X10_fewest hF) rfl (by decide) (by decide) (fun r' n' σ' _ hK => ?_)
  obtain ⟨rfl, rfl, rfl⟩ := hK
  refine z_aln dL_law_911 rfl rfl (by decide) ?_
  refine z_callV xGL_s (bc := bc) (bs := bs) (c := 121) (as := []) (S := [vI r]) dL_law_912 ml_L_138 rfl (s_X11_fewest hM) rfl (by decide) (Nat.le_of_ble_eq_true rfl) (fun r' n' σ' _ hK => ?_)
  obtain ⟨rfl, rfl, rfl⟩ := hK
  exact z_wr2 rfl rfl (z_ceq dL_law_915 (tgt := 1440) rfl (I32_xw _) (I32_xw _) (fun _ => kk _ hX) (fun hne => absurd rfl hne))
theorem dL_law_920 : decode cL_law 920 = .ok (.aload_n 1, 1) := by decide +kernel
theorem dL_law_921 : decode cL_law 921 = .ok (.invokevirtual 139, 3) := by decide +kernel
theorem dL_law_924 : decode cL_law 924 = .ok (.aload_n 2, 1) := by decide +kernel
theorem dL_law_925 : decode cL_law 925 = .ok (.invokevirtual 142, 3) := by decide +kernel
theorem dL_law_928 : decode cL_law 928 = .ok (.if_icmp .eq 512, 3) := by decide +kernel
theorem dL_law_931 : decode cL_law 931 = .ok (.iconst 0, 1) := by decide +kernel
theorem dL_law_932 : decode cL_law 932 = .ok (.ireturn, 1) := by decide +kernel
theorem law_c26 {Ln : Nat} {xs : Nat → Int32} {i bc bs : Nat} {B : Int} {σ : xW} {K : List xV → Nat → xW → Prop} (hLn : Ln ≤ 2560) (hi : 5 * i + 5 ≤ Ln) (hB : 0 ≤ B ∧ B ≤ 1000000) (h : XR B σ σ) (kk : xKK Ln xs i bc bs B K) : xZ (xGL Ln xs) 330 (bc + 100) (bs + 400) mL_law 920 [vT 100, vR 0, vR 121, vR 154, vI (5 * (i : Int)), vX, vX, vX] [] 155 σ K := by
  obtain ⟨r, σ1, τ1, hF, hM, hX⟩ := xstep (cf := F_X10_longest ) (mf := F_X11_longest ) op_longest (fun σ q hq => xfm_hi (fr_X10_longest hq) (by decide +kernel)) (fun τ q hq => xfm_lo (fr_X11_longest hq) (by decide +kernel)) hB h
  refine z_budget (bc' := bc + 0 + 0) (bs' := bs + 0 + 0) (by omega) (by omega) ?_
  refine z_aln dL_law_920 rfl rfl (by decide) ?_
  refine z_callV xGL_s (bc := bc + 0) (bs := bs + 0) (c := 0) (as := []) (S := []) dL_law_921 ml_L_139 rfl (s_X10_longest hF) rfl (by decide) (by decide) (fun r' n' σ' _ hK => ?_)
  obtain ⟨rfl, rfl, rfl⟩ := hK
  refine z_aln dL_law_924 rfl rfl (by decide) ?_
  refine z_callV xGL_s (bc := bc) (bs := bs) (c := 121) (as := []) (S := [vI r]) dL_law_925 ml_L_142 rfl (s_X11_longest hM) rfl (by decide) (Nat.le_of_ble_eq_true rfl) (fun r' n' σ' _ hK => ?_)
  obtain ⟨rfl, rfl, rfl⟩ := hK
  exact z_wr2 rfl rfl (z_ceq dL_law_928 (tgt := 1440) rfl (I32_xw _) (I32_xw _) (fun _ => kk _ hX) (fun hne => absurd rfl hne))
theorem dL_law_933 : decode cL_law 933 = .ok (.aload_n 1, 1) := by decide +kernel
theorem dL_law_934 : decode cL_law 934 = .ok (.invokevirtual 143, 3) := by decide +kernel
theorem dL_law_937 : decode cL_law 937 = .ok (.aload_n 2, 1) := by decide +kernel
theorem dL_law_938 : decode cL_law 938 = .ok (.invokevirtual 146, 3) := by decide +kernel
theorem dL_law_941 : decode cL_law 941 = .ok (.if_icmp .eq 499, 3) := by decide +kernel
theorem dL_law_944 : decode cL_law 944 = .ok (.iconst 0, 1) := by decide +kernel
theorem dL_law_945 : decode cL_law 945 = .ok (.ireturn, 1) := by decide +kernel
theorem law_c27 {Ln : Nat} {xs : Nat → Int32} {i bc bs : Nat} {B : Int} {σ : xW} {K : List xV → Nat → xW → Prop} (hLn : Ln ≤ 2560) (hi : 5 * i + 5 ≤ Ln) (hB : 0 ≤ B ∧ B ≤ 1000000) (h : XR B σ σ) (kk : xKK Ln xs i bc bs B K) : xZ (xGL Ln xs) 330 (bc + 100) (bs + 400) mL_law 933 [vT 100, vR 0, vR 121, vR 154, vI (5 * (i : Int)), vX, vX, vX] [] 155 σ K := by
  obtain ⟨r, σ1, τ1, hF, hM, hX⟩ := xstep (cf := F_X10_best ) (mf := F_X11_best ) op_best (fun σ q hq => xfm_hi (fr_X10_best hq) (by decide +kernel)) (fun τ q hq => xfm_lo (fr_X11_best hq) (by decide +kernel)) hB h
  refine z_budget (bc' := bc + 0 + 0) (bs' := bs + 0 + 0) (by omega) (by omega) ?_
  refine z_aln dL_law_933 rfl rfl (by decide) ?_
  refine z_callV xGL_s (bc := bc + 0) (bs := bs + 0) (c := 0) (as := []) (S := []) dL_law_934 ml_L_143 rfl (s_X10_best hF) rfl (by decide) (by decide) (fun r' n' σ' _ hK => ?_)
  obtain ⟨rfl, rfl, rfl⟩ := hK
  refine z_aln dL_law_937 rfl rfl (by decide) ?_
  refine z_callV xGL_s (bc := bc) (bs := bs) (c := 121) (as := []) (S := [vI r]) dL_law_938 ml_L_146 rfl (s_X11_best hM) rfl (by decide) (Nat.le_of_ble_eq_true rfl) (fun r' n' σ' _ hK => ?_)
  obtain ⟨rfl, rfl, rfl⟩ := hK
  exact z_wr2 rfl rfl (z_ceq dL_law_941 (tgt := 1440) rfl (I32_xw _) (I32_xw _) (fun _ => kk _ hX) (fun hne => absurd rfl hne))
theorem dL_law_946 : decode cL_law 946 = .ok (.aload_n 1, 1) := by decide +kernel
theorem dL_law_947 : decode cL_law 947 = .ok (.invokevirtual 147, 3) := by decide +kernel
theorem dL_law_950 : decode cL_law 950 = .ok (.aload_n 2, 1) := by decide +kernel
theorem dL_law_951 : decode cL_law 951 = .ok (.invokevirtual 150, 3) := by decide +kernel
theorem dL_law_954 : decode cL_law 954 = .ok (.if_icmp .eq 486, 3) := by decide +kernel
theorem dL_law_957 : decode cL_law 957 = .ok (.iconst 0, 1) := by decide +kernel
theorem dL_law_958 : decode cL_law 958 = .ok (.ireturn, 1) := by decide +kernel
theorem law_c28 {Ln : Nat} {xs : Nat → Int32} {i bc bs : Nat} {B : Int} {σ : xW} {K : List xV → Nat → xW → Prop} (hLn : Ln ≤ 2560) (hi : 5 * i + 5 ≤ Ln) (hB : 0 ≤ B ∧ B ≤ 1000000) (h : XR B σ σ) (kk : xKK Ln xs i bc bs B K) : xZ (xGL Ln xs) 330 (bc + 100) (bs + 400) mL_law 946 [vT 100, vR 0, vR 121, vR 154, vI (5 * (i : Int)), vX, vX, vX] [] 155 σ K := by
  obtain ⟨r, σ1, τ1, hF, hM, hX⟩ := xstep (cf := F_X10_middle ) (mf := F_X11_middle ) op_middle (fun σ q hq => xfm_hi (fr_X10_middle hq) (by decide +kernel)) (fun τ q hq => xfm_lo (fr_X11_middle hq) (by decide +kernel)) hB h
  refine z_budget (bc' := bc + 0 + 0) (bs' := bs + 0 + 0) (by omega) (by omega) ?_
  refine z_aln dL_law_946 rfl rfl (by decide) ?_
  refine z_callV xGL_s (bc := bc + 0) (bs := bs + 0) (c := 0) (as := []) (S := []) dL_law_947 ml_L_147 rfl (s_X10_middle hF) rfl (by decide) (by decide) (fun r' n' σ' _ hK => ?_)
  obtain ⟨rfl, rfl, rfl⟩ := hK
  refine z_aln dL_law_950 rfl rfl (by decide) ?_
  refine z_callV xGL_s (bc := bc) (bs := bs) (c := 121) (as := []) (S := [vI r]) dL_law_951 ml_L_150 rfl (s_X11_middle hM) rfl (by decide) (Nat.le_of_ble_eq_true rfl) (fun r' n' σ' _ hK => ?_)
  obtain ⟨rfl, rfl, rfl⟩ := hK
  exact z_wr2 rfl rfl (z_ceq dL_law_954 (tgt := 1440) rfl (I32_xw _) (I32_xw _) (fun _ => kk _ hX) (fun hne => absurd rfl hne))
theorem dL_law_959 : decode cL_law 959 = .ok (.aload_n 1, 1) := by decide +kernel
theorem dL_law_960 : decode cL_law 960 = .ok (.aload_n 0, 1) := by decide +kernel
theorem dL_law_961 : decode cL_law 961 = .ok (.iload 4, 2) := by decide +kernel
theorem dL_law_963 : decode cL_law 963 = .ok (.iconst 1, 1) := by decide +kernel
theorem dL_law_964 : decode cL_law 964 = .ok (.iadd, 1) := by decide +kernel
theorem dL_law_965 : decode cL_law 965 = .ok (.iaload, 1) := by decide +kernel
theorem dL_law_966 : decode cL_law 966 = .ok (.invokevirtual 151, 3) := by decide +kernel
theorem dL_law_969 : decode cL_law 969 = .ok (.aload_n 2, 1) := by decide +kernel
theorem dL_law_970 : decode cL_law 970 = .ok (.aload_n 0, 1) := by decide +kernel
theorem dL_law_971 : decode cL_law 971 = .ok (.iload 4, 2) := by decide +kernel
theorem dL_law_973 : decode cL_law 973 = .ok (.iconst 1, 1) := by decide +kernel
theorem dL_law_974 : decode cL_law 974 = .ok (.iadd, 1) := by decide +kernel
theorem dL_law_975 : decode cL_law 975 = .ok (.iaload, 1) := by decide +kernel
theorem dL_law_976 : decode cL_law 976 = .ok (.invokevirtual 154, 3) := by decide +kernel
theorem dL_law_979 : decode cL_law 979 = .ok (.if_icmp .eq 461, 3) := by decide +kernel
theorem dL_law_982 : decode cL_law 982 = .ok (.iconst 0, 1) := by decide +kernel
theorem dL_law_983 : decode cL_law 983 = .ok (.ireturn, 1) := by decide +kernel
theorem law_c29 {Ln : Nat} {xs : Nat → Int32} {i bc bs : Nat} {B : Int} {σ : xW} {K : List xV → Nat → xW → Prop} (hLn : Ln ≤ 2560) (hi : 5 * i + 5 ≤ Ln) (hB : 0 ≤ B ∧ B ≤ 1000000) (h : XR B σ σ) (kk : xKK Ln xs i bc bs B K) : xZ (xGL Ln xs) 330 (bc + 100) (bs + 400) mL_law 959 [vT 100, vR 0, vR 121, vR 154, vI (5 * (i : Int)), vX, vX, vX] [] 155 σ K := by
  obtain ⟨r, σ1, τ1, hF, hM, hX⟩ := xstep (cf := F_X10_holds (xs (5 * (i : Int) + 1).toNat).toInt) (mf := F_X11_holds (xs (5 * (i : Int) + 1).toNat).toInt) (op_holds (I32_toInt _)) (fun σ q hq => xfm_hi (fr_X10_holds hq) (by decide +kernel)) (fun τ q hq => xfm_lo (fr_X11_holds hq) (by decide +kernel)) hB h
  refine z_budget (bc' := bc + 0 + 0) (bs' := bs + 0 + 0) (by omega) (by omega) ?_
  refine z_aln dL_law_959 rfl rfl (by decide) ?_
  refine z_tln dL_law_960 rfl rfl (z_il dL_law_961 rfl (z_ic dL_law_963 (z_iadd dL_law_964 (z_sld dL_law_965 ⟨by omega, by omega⟩ hLn ?_))))
  refine z_callV xGL_s (bc := bc + 0) (bs := bs + 0) (c := 0) (as := [vI (xs (5 * (i : Int) + 1).toNat).toInt]) (S := []) dL_law_966 ml_L_151 rfl (s_X10_holds hF) rfl (by decide) (by decide) (fun r' n' σ' _ hK => ?_)
  obtain ⟨rfl, rfl, rfl⟩ := hK
  refine z_aln dL_law_969 rfl rfl (by decide) ?_
  refine z_tln dL_law_970 rfl rfl (z_il dL_law_971 rfl (z_ic dL_law_973 (z_iadd dL_law_974 (z_sld dL_law_975 ⟨by omega, by omega⟩ hLn ?_))))
  refine z_callV xGL_s (bc := bc) (bs := bs) (c := 121) (as := [vI (xs (5 * (i : Int) + 1).toNat).toInt]) (S := [vI r]) dL_law_976 ml_L_154 rfl (s_X11_holds hM) rfl (by decide) (Nat.le_of_ble_eq_true rfl) (fun r' n' σ' _ hK => ?_)
  obtain ⟨rfl, rfl, rfl⟩ := hK
  exact z_wr2 rfl rfl (z_ceq dL_law_979 (tgt := 1440) rfl (I32_xw _) (I32_xw _) (fun _ => kk _ hX) (fun hne => absurd rfl hne))
theorem dL_law_984 : decode cL_law 984 = .ok (.aload_n 1, 1) := by decide +kernel
theorem dL_law_985 : decode cL_law 985 = .ok (.invokevirtual 155, 3) := by decide +kernel
theorem dL_law_988 : decode cL_law 988 = .ok (.aload_n 2, 1) := by decide +kernel
theorem dL_law_989 : decode cL_law 989 = .ok (.invokevirtual 158, 3) := by decide +kernel
theorem dL_law_992 : decode cL_law 992 = .ok (.if_icmp .eq 448, 3) := by decide +kernel
theorem dL_law_995 : decode cL_law 995 = .ok (.iconst 0, 1) := by decide +kernel
theorem dL_law_996 : decode cL_law 996 = .ok (.ireturn, 1) := by decide +kernel
theorem law_c30 {Ln : Nat} {xs : Nat → Int32} {i bc bs : Nat} {B : Int} {σ : xW} {K : List xV → Nat → xW → Prop} (hLn : Ln ≤ 2560) (hi : 5 * i + 5 ≤ Ln) (hB : 0 ≤ B ∧ B ≤ 1000000) (h : XR B σ σ) (kk : xKK Ln xs i bc bs B K) : xZ (xGL Ln xs) 330 (bc + 100) (bs + 400) mL_law 984 [vT 100, vR 0, vR 121, vR 154, vI (5 * (i : Int)), vX, vX, vX] [] 155 σ K := by
  obtain ⟨r, σ1, τ1, hF, hM, hX⟩ := xstep (cf := F_X10_hands ) (mf := F_X11_hands ) op_hands (fun σ q hq => xfm_hi (fr_X10_hands hq) (by decide +kernel)) (fun τ q hq => xfm_lo (fr_X11_hands hq) (by decide +kernel)) hB h
  refine z_budget (bc' := bc + 0 + 0) (bs' := bs + 0 + 0) (by omega) (by omega) ?_
  refine z_aln dL_law_984 rfl rfl (by decide) ?_
  refine z_callV xGL_s (bc := bc + 0) (bs := bs + 0) (c := 0) (as := []) (S := []) dL_law_985 ml_L_155 rfl (s_X10_hands hF) rfl (by decide) (by decide) (fun r' n' σ' _ hK => ?_)
  obtain ⟨rfl, rfl, rfl⟩ := hK
  refine z_aln dL_law_988 rfl rfl (by decide) ?_
  refine z_callV xGL_s (bc := bc) (bs := bs) (c := 121) (as := []) (S := [vI r]) dL_law_989 ml_L_158 rfl (s_X11_hands hM) rfl (by decide) (Nat.le_of_ble_eq_true rfl) (fun r' n' σ' _ hK => ?_)
  obtain ⟨rfl, rfl, rfl⟩ := hK
  exact z_wr2 rfl rfl (z_ceq dL_law_992 (tgt := 1440) rfl (I32_xw _) (I32_xw _) (fun _ => kk _ hX) (fun hne => absurd rfl hne))
theorem dL_law_997 : decode cL_law 997 = .ok (.aload_n 1, 1) := by decide +kernel
theorem dL_law_998 : decode cL_law 998 = .ok (.aload_n 0, 1) := by decide +kernel
theorem dL_law_999 : decode cL_law 999 = .ok (.iload 4, 2) := by decide +kernel
theorem dL_law_1001 : decode cL_law 1001 = .ok (.iconst 1, 1) := by decide +kernel
theorem dL_law_1002 : decode cL_law 1002 = .ok (.iadd, 1) := by decide +kernel
theorem dL_law_1003 : decode cL_law 1003 = .ok (.iaload, 1) := by decide +kernel
theorem dL_law_1004 : decode cL_law 1004 = .ok (.invokevirtual 159, 3) := by decide +kernel
theorem dL_law_1007 : decode cL_law 1007 = .ok (.aload_n 2, 1) := by decide +kernel
theorem dL_law_1008 : decode cL_law 1008 = .ok (.aload_n 0, 1) := by decide +kernel
theorem dL_law_1009 : decode cL_law 1009 = .ok (.iload 4, 2) := by decide +kernel
theorem dL_law_1011 : decode cL_law 1011 = .ok (.iconst 1, 1) := by decide +kernel
theorem dL_law_1012 : decode cL_law 1012 = .ok (.iadd, 1) := by decide +kernel
theorem dL_law_1013 : decode cL_law 1013 = .ok (.iaload, 1) := by decide +kernel
theorem dL_law_1014 : decode cL_law 1014 = .ok (.invokevirtual 162, 3) := by decide +kernel
theorem dL_law_1017 : decode cL_law 1017 = .ok (.if_icmp .eq 423, 3) := by decide +kernel
theorem dL_law_1020 : decode cL_law 1020 = .ok (.iconst 0, 1) := by decide +kernel
theorem dL_law_1021 : decode cL_law 1021 = .ok (.ireturn, 1) := by decide +kernel
theorem law_c31 {Ln : Nat} {xs : Nat → Int32} {i bc bs : Nat} {B : Int} {σ : xW} {K : List xV → Nat → xW → Prop} (hLn : Ln ≤ 2560) (hi : 5 * i + 5 ≤ Ln) (hB : 0 ≤ B ∧ B ≤ 1000000) (h : XR B σ σ) (kk : xKK Ln xs i bc bs B K) : xZ (xGL Ln xs) 330 (bc + 100) (bs + 400) mL_law 997 [vT 100, vR 0, vR 121, vR 154, vI (5 * (i : Int)), vX, vX, vX] [] 155 σ K := by
  obtain ⟨r, σ1, τ1, hF, hM, hX⟩ := xstep (cf := F_X10_echo (xs (5 * (i : Int) + 1).toNat).toInt) (mf := F_X11_echo (xs (5 * (i : Int) + 1).toNat).toInt) (op_echo (I32_toInt _)) (fun σ q hq => xfm_hi (fr_X10_echo hq) (by decide +kernel)) (fun τ q hq => xfm_lo (fr_X11_echo hq) (by decide +kernel)) hB h
  refine z_budget (bc' := bc + 0 + 0) (bs' := bs + 0 + 0) (by omega) (by omega) ?_
  refine z_aln dL_law_997 rfl rfl (by decide) ?_
  refine z_tln dL_law_998 rfl rfl (z_il dL_law_999 rfl (z_ic dL_law_1001 (z_iadd dL_law_1002 (z_sld dL_law_1003 ⟨by omega, by omega⟩ hLn ?_))))
  refine z_callV xGL_s (bc := bc + 0) (bs := bs + 0) (c := 0) (as := [vI (xs (5 * (i : Int) + 1).toNat).toInt]) (S := []) dL_law_1004 ml_L_159 rfl (s_X10_echo hF) rfl (by decide) (by decide) (fun r' n' σ' _ hK => ?_)
  obtain ⟨rfl, rfl, rfl⟩ := hK
  refine z_aln dL_law_1007 rfl rfl (by decide) ?_
  refine z_tln dL_law_1008 rfl rfl (z_il dL_law_1009 rfl (z_ic dL_law_1011 (z_iadd dL_law_1012 (z_sld dL_law_1013 ⟨by omega, by omega⟩ hLn ?_))))
  refine z_callV xGL_s (bc := bc) (bs := bs) (c := 121) (as := [vI (xs (5 * (i : Int) + 1).toNat).toInt]) (S := [vI r]) dL_law_1014 ml_L_162 rfl (s_X11_echo hM) rfl (by decide) (Nat.le_of_ble_eq_true rfl) (fun r' n' σ' _ hK => ?_)
  obtain ⟨rfl, rfl, rfl⟩ := hK
  exact z_wr2 rfl rfl (z_ceq dL_law_1017 (tgt := 1440) rfl (I32_xw _) (I32_xw _) (fun _ => kk _ hX) (fun hne => absurd rfl hne))
theorem dL_law_1022 : decode cL_law 1022 = .ok (.aload_n 1, 1) := by decide +kernel
theorem dL_law_1023 : decode cL_law 1023 = .ok (.invokevirtual 163, 3) := by decide +kernel
theorem dL_law_1026 : decode cL_law 1026 = .ok (.aload_n 2, 1) := by decide +kernel
theorem dL_law_1027 : decode cL_law 1027 = .ok (.invokevirtual 166, 3) := by decide +kernel
theorem dL_law_1030 : decode cL_law 1030 = .ok (.if_icmp .eq 410, 3) := by decide +kernel
theorem dL_law_1033 : decode cL_law 1033 = .ok (.iconst 0, 1) := by decide +kernel
theorem dL_law_1034 : decode cL_law 1034 = .ok (.ireturn, 1) := by decide +kernel
theorem law_c32 {Ln : Nat} {xs : Nat → Int32} {i bc bs : Nat} {B : Int} {σ : xW} {K : List xV → Nat → xW → Prop} (hLn : Ln ≤ 2560) (hi : 5 * i + 5 ≤ Ln) (hB : 0 ≤ B ∧ B ≤ 1000000) (h : XR B σ σ) (kk : xKK Ln xs i bc bs B K) : xZ (xGL Ln xs) 330 (bc + 100) (bs + 400) mL_law 1022 [vT 100, vR 0, vR 121, vR 154, vI (5 * (i : Int)), vX, vX, vX] [] 155 σ K := by
  obtain ⟨r, σ1, τ1, hF, hM, hX⟩ := xstep (cf := F_X10_together ) (mf := F_X11_together ) op_together (fun σ q hq => xfm_hi (fr_X10_together hq) (by decide +kernel)) (fun τ q hq => xfm_lo (fr_X11_together hq) (by decide +kernel)) hB h
  refine z_budget (bc' := bc + 0 + 0) (bs' := bs + 0 + 0) (by omega) (by omega) ?_
  refine z_aln dL_law_1022 rfl rfl (by decide) ?_
  refine z_callV xGL_s (bc := bc + 0) (bs := bs + 0) (c := 0) (as := []) (S := []) dL_law_1023 ml_L_163 rfl (s_X10_together hF) rfl (by decide) (by decide) (fun r' n' σ' _ hK => ?_)
  obtain ⟨rfl, rfl, rfl⟩ := hK
  refine z_aln dL_law_1026 rfl rfl (by decide) ?_
  refine z_callV xGL_s (bc := bc) (bs := bs) (c := 121) (as := []) (S := [vI r]) dL_law_1027 ml_L_166 rfl (s_X11_together hM) rfl (by decide) (Nat.le_of_ble_eq_true rfl) (fun r' n' σ' _ hK => ?_)
  obtain ⟨rfl, rfl, rfl⟩ := hK
  exact z_wr2 rfl rfl (z_ceq dL_law_1030 (tgt := 1440) rfl (I32_xw _) (I32_xw _) (fun _ => kk _ hX) (fun hne => absurd rfl hne))
theorem dL_law_1035 : decode cL_law 1035 = .ok (.aload_n 1, 1) := by decide +kernel
theorem dL_law_1036 : decode cL_law 1036 = .ok (.aload_n 0, 1) := by decide +kernel
theorem dL_law_1037 : decode cL_law 1037 = .ok (.iload 4, 2) := by decide +kernel
theorem dL_law_1039 : decode cL_law 1039 = .ok (.iconst 1, 1) := by decide +kernel
theorem dL_law_1040 : decode cL_law 1040 = .ok (.iadd, 1) := by decide +kernel
theorem dL_law_1041 : decode cL_law 1041 = .ok (.iaload, 1) := by decide +kernel
theorem dL_law_1042 : decode cL_law 1042 = .ok (.aload_n 0, 1) := by decide +kernel
theorem dL_law_1043 : decode cL_law 1043 = .ok (.iload 4, 2) := by decide +kernel
theorem dL_law_1045 : decode cL_law 1045 = .ok (.iconst 2, 1) := by decide +kernel
theorem dL_law_1046 : decode cL_law 1046 = .ok (.iadd, 1) := by decide +kernel
theorem dL_law_1047 : decode cL_law 1047 = .ok (.iaload, 1) := by decide +kernel
theorem dL_law_1048 : decode cL_law 1048 = .ok (.invokevirtual 167, 3) := by decide +kernel
theorem dL_law_1051 : decode cL_law 1051 = .ok (.aload_n 2, 1) := by decide +kernel
theorem dL_law_1052 : decode cL_law 1052 = .ok (.aload_n 0, 1) := by decide +kernel
theorem dL_law_1053 : decode cL_law 1053 = .ok (.iload 4, 2) := by decide +kernel
theorem dL_law_1055 : decode cL_law 1055 = .ok (.iconst 1, 1) := by decide +kernel
theorem dL_law_1056 : decode cL_law 1056 = .ok (.iadd, 1) := by decide +kernel
theorem dL_law_1057 : decode cL_law 1057 = .ok (.iaload, 1) := by decide +kernel
theorem dL_law_1058 : decode cL_law 1058 = .ok (.aload_n 0, 1) := by decide +kernel
theorem dL_law_1059 : decode cL_law 1059 = .ok (.iload 4, 2) := by decide +kernel
theorem dL_law_1061 : decode cL_law 1061 = .ok (.iconst 2, 1) := by decide +kernel
theorem dL_law_1062 : decode cL_law 1062 = .ok (.iadd, 1) := by decide +kernel
theorem dL_law_1063 : decode cL_law 1063 = .ok (.iaload, 1) := by decide +kernel
theorem dL_law_1064 : decode cL_law 1064 = .ok (.invokevirtual 170, 3) := by decide +kernel
theorem dL_law_1067 : decode cL_law 1067 = .ok (.if_icmp .eq 373, 3) := by decide +kernel
theorem dL_law_1070 : decode cL_law 1070 = .ok (.iconst 0, 1) := by decide +kernel
theorem dL_law_1071 : decode cL_law 1071 = .ok (.ireturn, 1) := by decide +kernel
theorem law_c33 {Ln : Nat} {xs : Nat → Int32} {i bc bs : Nat} {B : Int} {σ : xW} {K : List xV → Nat → xW → Prop} (hLn : Ln ≤ 2560) (hi : 5 * i + 5 ≤ Ln) (hB : 0 ≤ B ∧ B ≤ 1000000) (h : XR B σ σ) (kk : xKK Ln xs i bc bs B K) : xZ (xGL Ln xs) 330 (bc + 100) (bs + 400) mL_law 1035 [vT 100, vR 0, vR 121, vR 154, vI (5 * (i : Int)), vX, vX, vX] [] 155 σ K := by
  obtain ⟨r, σ1, τ1, hF, hM, hX⟩ := xstep (cf := F_X10_heard (xs (5 * (i : Int) + 1).toNat).toInt (xs (5 * (i : Int) + 2).toNat).toInt) (mf := F_X11_heard (xs (5 * (i : Int) + 1).toNat).toInt (xs (5 * (i : Int) + 2).toNat).toInt) (op_heard (I32_toInt _) (I32_toInt _)) (fun σ q hq => xfm_hi (fr_X10_heard hq) (by decide +kernel)) (fun τ q hq => xfm_lo (fr_X11_heard hq) (by decide +kernel)) hB h
  refine z_budget (bc' := bc + 0 + 0) (bs' := bs + 0 + 0) (by omega) (by omega) ?_
  refine z_aln dL_law_1035 rfl rfl (by decide) ?_
  refine z_tln dL_law_1036 rfl rfl (z_il dL_law_1037 rfl (z_ic dL_law_1039 (z_iadd dL_law_1040 (z_sld dL_law_1041 ⟨by omega, by omega⟩ hLn ?_))))
  refine z_tln dL_law_1042 rfl rfl (z_il dL_law_1043 rfl (z_ic dL_law_1045 (z_iadd dL_law_1046 (z_sld dL_law_1047 ⟨by omega, by omega⟩ hLn ?_))))
  refine z_callV xGL_s (bc := bc + 0) (bs := bs + 0) (c := 0) (as := [vI (xs (5 * (i : Int) + 1).toNat).toInt, vI (xs (5 * (i : Int) + 2).toNat).toInt]) (S := []) dL_law_1048 ml_L_167 rfl (s_X10_heard hF) rfl (by decide) (by decide) (fun r' n' σ' _ hK => ?_)
  obtain ⟨rfl, rfl, rfl⟩ := hK
  refine z_aln dL_law_1051 rfl rfl (by decide) ?_
  refine z_tln dL_law_1052 rfl rfl (z_il dL_law_1053 rfl (z_ic dL_law_1055 (z_iadd dL_law_1056 (z_sld dL_law_1057 ⟨by omega, by omega⟩ hLn ?_))))
  refine z_tln dL_law_1058 rfl rfl (z_il dL_law_1059 rfl (z_ic dL_law_1061 (z_iadd dL_law_1062 (z_sld dL_law_1063 ⟨by omega, by omega⟩ hLn ?_))))
  refine z_callV xGL_s (bc := bc) (bs := bs) (c := 121) (as := [vI (xs (5 * (i : Int) + 1).toNat).toInt, vI (xs (5 * (i : Int) + 2).toNat).toInt]) (S := [vI r]) dL_law_1064 ml_L_170 rfl (s_X11_heard hM) rfl (by decide) (Nat.le_of_ble_eq_true rfl) (fun r' n' σ' _ hK => ?_)
  obtain ⟨rfl, rfl, rfl⟩ := hK
  exact z_wr2 rfl rfl (z_ceq dL_law_1067 (tgt := 1440) rfl (I32_xw _) (I32_xw _) (fun _ => kk _ hX) (fun hne => absurd rfl hne))
theorem dL_law_1072 : decode cL_law 1072 = .ok (.aload_n 1, 1) := by decide +kernel
theorem dL_law_1073 : decode cL_law 1073 = .ok (.invokevirtual 171, 3) := by decide +kernel
theorem dL_law_1076 : decode cL_law 1076 = .ok (.aload_n 2, 1) := by decide +kernel
theorem dL_law_1077 : decode cL_law 1077 = .ok (.invokevirtual 174, 3) := by decide +kernel
theorem dL_law_1080 : decode cL_law 1080 = .ok (.if_icmp .eq 360, 3) := by decide +kernel
theorem dL_law_1083 : decode cL_law 1083 = .ok (.iconst 0, 1) := by decide +kernel
theorem dL_law_1084 : decode cL_law 1084 = .ok (.ireturn, 1) := by decide +kernel
theorem law_c34 {Ln : Nat} {xs : Nat → Int32} {i bc bs : Nat} {B : Int} {σ : xW} {K : List xV → Nat → xW → Prop} (hLn : Ln ≤ 2560) (hi : 5 * i + 5 ≤ Ln) (hB : 0 ≤ B ∧ B ≤ 1000000) (h : XR B σ σ) (kk : xKK Ln xs i bc bs B K) : xZ (xGL Ln xs) 330 (bc + 100) (bs + 400) mL_law 1072 [vT 100, vR 0, vR 121, vR 154, vI (5 * (i : Int)), vX, vX, vX] [] 155 σ K := by
  obtain ⟨r, σ1, τ1, hF, hM, hX⟩ := xstep (cf := F_X10_forget ) (mf := F_X11_forget ) op_forget (fun σ q hq => xfm_hi (fr_X10_forget hq) (by decide +kernel)) (fun τ q hq => xfm_lo (fr_X11_forget hq) (by decide +kernel)) hB h
  refine z_budget (bc' := bc + 0 + 0) (bs' := bs + 0 + 0) (by omega) (by omega) ?_
  refine z_aln dL_law_1072 rfl rfl (by decide) ?_
  refine z_callV xGL_s (bc := bc + 0) (bs := bs + 0) (c := 0) (as := []) (S := []) dL_law_1073 ml_L_171 rfl (s_X10_forget hF) rfl (by decide) (by decide) (fun r' n' σ' _ hK => ?_)
  obtain ⟨rfl, rfl, rfl⟩ := hK
  refine z_aln dL_law_1076 rfl rfl (by decide) ?_
  refine z_callV xGL_s (bc := bc) (bs := bs) (c := 121) (as := []) (S := [vI r]) dL_law_1077 ml_L_174 rfl (s_X11_forget hM) rfl (by decide) (Nat.le_of_ble_eq_true rfl) (fun r' n' σ' _ hK => ?_)
  obtain ⟨rfl, rfl, rfl⟩ := hK
  exact z_wr2 rfl rfl (z_ceq dL_law_1080 (tgt := 1440) rfl (I32_xw _) (I32_xw _) (fun _ => kk _ hX) (fun hne => absurd rfl hne))
theorem dL_law_1085 : decode cL_law 1085 = .ok (.aload_n 1, 1) := by decide +kernel
theorem dL_law_1086 : decode cL_law 1086 = .ok (.invokevirtual 175, 3) := by decide +kernel
theorem dL_law_1089 : decode cL_law 1089 = .ok (.aload_n 2, 1) := by decide +kernel
theorem dL_law_1090 : decode cL_law 1090 = .ok (.invokevirtual 178, 3) := by decide +kernel
theorem dL_law_1093 : decode cL_law 1093 = .ok (.if_icmp .eq 347, 3) := by decide +kernel
theorem dL_law_1096 : decode cL_law 1096 = .ok (.iconst 0, 1) := by decide +kernel
theorem dL_law_1097 : decode cL_law 1097 = .ok (.ireturn, 1) := by decide +kernel
theorem law_c35 {Ln : Nat} {xs : Nat → Int32} {i bc bs : Nat} {B : Int} {σ : xW} {K : List xV → Nat → xW → Prop} (hLn : Ln ≤ 2560) (hi : 5 * i + 5 ≤ Ln) (hB : 0 ≤ B ∧ B ≤ 1000000) (h : XR B σ σ) (kk : xKK Ln xs i bc bs B K) : xZ (xGL Ln xs) 330 (bc + 100) (bs + 400) mL_law 1085 [vT 100, vR 0, vR 121, vR 154, vI (5 * (i : Int)), vX, vX, vX] [] 155 σ K := by
  obtain ⟨r, σ1, τ1, hF, hM, hX⟩ := xstep (cf := F_X10_fits ) (mf := F_X11_fits ) op_fits (fun σ q hq => xfm_hi (fr_X10_fits hq) (by decide +kernel)) (fun τ q hq => xfm_lo (fr_X11_fits hq) (by decide +kernel)) hB h
  refine z_budget (bc' := bc + 0 + 0) (bs' := bs + 0 + 0) (by omega) (by omega) ?_
  refine z_aln dL_law_1085 rfl rfl (by decide) ?_
  refine z_callV xGL_s (bc := bc + 0) (bs := bs + 0) (c := 0) (as := []) (S := []) dL_law_1086 ml_L_175 rfl (s_X10_fits hF) rfl (by decide) (by decide) (fun r' n' σ' _ hK => ?_)
  obtain ⟨rfl, rfl, rfl⟩ := hK
  refine z_aln dL_law_1089 rfl rfl (by decide) ?_
  refine z_callV xGL_s (bc := bc) (bs := bs) (c := 121) (as := []) (S := [vI r]) dL_law_1090 ml_L_178 rfl (s_X11_fits hM) rfl (by decide) (Nat.le_of_ble_eq_true rfl) (fun r' n' σ' _ hK => ?_)
  obtain ⟨rfl, rfl, rfl⟩ := hK
  exact z_wr2 rfl rfl (z_ceq dL_law_1093 (tgt := 1440) rfl (I32_xw _) (I32_xw _) (fun _ => kk _ hX) (fun hne => absurd rfl hne))
