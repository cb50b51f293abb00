/-! the law -/
abbrev mL_law : xMD := (yL_law, cL_law, 8, some .boolean)
def xGL (Ln : Nat) (xs : Nat → Int32) : xGt := fun E _ l _ _ s _ _ _ _ _ _ _ _ _ _ => (l.flags = flags0 ∧ xL2 E s) ∧ va_X (E.2.1 100) Ln xs s s.heap ∧ E.2.1 100 < s.heap.size ∧ E.1 = s.heap.size
theorem xGL_s {Ln : Nat} {xs : Nat → Int32} : xGs (xGL Ln xs) := fun _ _ _ _ _ _ _ _ _ _ _ _ _ _ _ _ _ _ h => h
theorem xGL_f {Ln : Nat} {xs : Nat → Int32} : xGf (xGL Ln xs) := fun _ _ _ _ _ _ _ _ _ _ _ _ _ _ _ _ h => h.1
section ZL
variable {d bc bs : Nat} {Y : xMD} {pc : Nat} {L S : List xV} {n : Nat} {σ : xW} {K : List xV → Nat → xW → Prop} {Ln : Nat} {xs : Nat → Int32}
theorem z_sld {j : Int} (hd : decode Y.2.1 pc = .ok (.iaload, 1)) (hj : 0 ≤ j ∧ j < Ln) (hLn : Ln ≤ 2560) (k : xZ (xGL Ln xs) d bc bs Y (pc + 1) L (vI (xs j.toNat).toInt :: S) n σ K) : xZ (xGL Ln xs) d bc bs Y pc L (vI j :: vT 100 :: S) n σ K := by
  intro E p l e R s m args below meth c mc ms Q F H locs hG cells slots ls hH hS h1 h2 hl
  have k2 := k E p l e R s m args below meth c mc ms Q F H locs hG cells slots ls hH hS h1 h2 hl
  obtain ⟨-, gX, gb, gE⟩ := hG
  obtain ⟨c1, c2⟩ := xclamp hj.1 hj.2 (by omega)
  refine va_sld F.1 F.2.1 gX gb (fun h => ?_) hS (i := Int32.ofInt j) c2 hd ?_
  · have h : E.1 ≤ E.2.1 100 := h
    omega
  · rw [c1]
    have e : xr E (vI (xs j.toNat).toInt) = .int (xs j.toNat) := congrArg Value.int (Int32.ofInt_toInt _)
    rw [List.map_cons, e] at k2
    exact k2
theorem z_slen (hd : decode Y.2.1 pc = .ok (.arraylength, 1)) (k : xZ (xGL Ln xs) d bc bs Y (pc + 1) L (vI (Ln : Int) :: S) n σ K) : xZ (xGL Ln xs) d bc bs Y pc L (vT 100 :: S) n σ K := by
  intro E p l e R s m args below meth c mc ms Q F H locs hG cells slots ls hH hS h1 h2 hl
  have k2 := k E p l e R s m args below meth c mc ms Q F H locs hG cells slots ls hH hS h1 h2 hl
  obtain ⟨-, gX, gb, gE⟩ := hG
  refine va_slen F.1 F.2.1 gX gb (fun h => ?_) hS hd ?_
  · have h : E.1 ≤ E.2.1 100 := h
    omega
  · have e : xr E (vI (Ln : Int)) = .int (Int32.ofNat Ln) := congrArg Value.int Int32.ofInt_eq_ofNat
    rw [List.map_cons, e] at k2
    exact k2
end ZL
theorem XR_loc {B : Int} {σ τ σ' τ' : xW} (hs : ∀ c, c < 121 → σ' c = σ c) (ht : ∀ c, 121 ≤ c → c < 154 → τ' c = τ c) (h : XR B σ τ) : XR B σ' τ' := by
  obtain ⟨h1, h2, h3, h4, h5, h6, h7, h8, h9, h10⟩ := h
  have t0 := ht 121 (by decide) (by decide)
  refine ⟨?_, ?_, ?_, ?_, ?_, ?_, ?_, ?_, ?_, ?_⟩
  · unfold Xtext at h1 ⊢
    rw [hs 1 (by decide), hs 2 (by decide), t0, ht 129 (by decide) (by decide)]
    exact h1
  · unfold Xrow at h2 ⊢
    rw [hs 3 (by decide), hs 4 (by decide), t0, ht 122 (by decide) (by decide)]
    exact h2
  · unfold Xsky at h3 ⊢
    rw [hs 5 (by decide), hs 6 (by decide), hs 7 (by decide), hs 8 (by decide), t0, ht 123 (by decide) (by decide), ht 124 (by decide) (by decide)]
    exact h3
  · unfold Xrule at h4 ⊢
    have q := h4.1
    rw [hs 0 (by decide), hs (σ 0 4) (by omega), hs (σ 0 4 + 1) (by omega), t0, ht 131 (by decide) (by decide)]
    exact h4
  · unfold Xplan at h5 ⊢
    rw [hs 0 (by decide), hs 92 (by decide), hs 93 (by decide), hs 94 (by decide), t0, ht 125 (by decide) (by decide), ht 126 (by decide) (by decide)]
    exact h5
  · unfold Xtown at h6 ⊢
    rw [hs 0 (by decide), hs 92 (by decide), hs 17 (by decide), hs 18 (by decide), hs 19 (by decide), hs 20 (by decide), ht 127 (by decide) (by decide)]
    exact h6
  · unfold Xpast at h7 ⊢
    obtain ⟨q1, q2, q3, q4⟩ := h7
    rw [hs 0 (by decide), hs 92 (by decide), hs 21 (by decide), t0, ht 136 (by decide) (by decide)]
    refine ⟨q1, q2, q3, fun j j1 j2 => ?_⟩
    have hp : xpt σ' j = xpt σ j := by unfold xpt; rw [hs 21 (by decide)]
    have hb : 23 ≤ xpt σ j ∧ xpt σ j ≤ 83 := by unfold xpt; omega
    rw [hp, hs (xpt σ j) (by omega), hs (xpt σ j + 1) (by omega), hs (xpt σ j + 2) (by omega), hs (xpt σ j + 3) (by omega)]
    exact q4 j j1 j2
  · unfold Xkept at h8 ⊢
    obtain ⟨q1, q2⟩ := h8
    rw [hs 0 (by decide), hs 92 (by decide), hs 88 (by decide), t0, ht 151 (by decide) (by decide), ht 152 (by decide) (by decide), ht 153 (by decide) (by decide)]
    refine ⟨q1, fun i i1 i2 => ?_⟩
    rw [hs (109 + 4 * i) (by omega), hs (109 + 4 * i + 1) (by omega), hs (109 + 4 * i + 2) (by omega), hs (109 + 4 * i + 3) (by omega)]
    exact q2 i i1 i2
  · unfold Xrep at h9 ⊢
    rw [hs 0 (by decide), hs 100 (by decide), hs 101 (by decide), hs 102 (by decide), t0, ht 146 (by decide) (by decide), ht 147 (by decide) (by decide)]
    exact h9
  · unfold Xforts at h10 ⊢
    rw [hs 105 (by decide), hs 106 (by decide)]
    exact h10
theorem xstep {cf mf : xW → Option (Int × xW)} (ho : XO cf mf) (hc : ∀ σ q, cf σ = some q → ∀ c, 121 ≤ c → q.2 c = σ c) (hm : ∀ τ q, mf τ = some q → ∀ c, (c < 121 ∨ c = 154) → q.2 c = τ c) {B : Int} {σ : xW} (hB : 0 ≤ B ∧ B ≤ 1000000) (h : XR B σ σ) : ∃ r σ1 τ1, cf σ = some (r, σ1) ∧ mf σ1 = some (r, τ1) ∧ XR (B + 300) τ1 τ1 := by
  obtain ⟨r, σ1, τ0, h1, -, -⟩ := ho B σ σ hB.1 hB.2 h
  have hσ1 := hc σ _ h1
  obtain ⟨r', σ1', τ1, g1, g2, g3⟩ := ho B σ σ1 hB.1 hB.2 (XR_loc (fun _ _ => rfl) (fun c a _ => hσ1 c a) h)
  rw [h1] at g1
  cases g1
  exact ⟨r, σ1, τ1, h1, g2, XR_loc (fun c hc => hm _ _ g2 c (Or.inl hc)) (fun _ _ _ => rfl) g3⟩
theorem xstepP {cf : xW → Option Int} {mf : xW → Option (Int × xW)} (ho : XOp cf mf) (hm : ∀ τ q, mf τ = some q → ∀ c, (c < 121 ∨ c = 154) → q.2 c = τ c) {B : Int} {σ : xW} (hB : 0 ≤ B ∧ B ≤ 1000000) (h : XR B σ σ) : ∃ r τ1, cf σ = some r ∧ mf σ = some (r, τ1) ∧ XR (B + 300) τ1 τ1 := by
  obtain ⟨r, τ1, g1, g2, g3⟩ := ho B σ σ hB.1 hB.2 h
  exact ⟨r, τ1, g1, g2, XR_loc (fun c hc => hm _ _ g2 c (Or.inl hc)) (fun _ _ _ => rfl) g3⟩
theorem xu154 (σ : xW) (v : Int) {c : Int} (h : c ≠ 154) : xu σ 154 0 v c = σ c := xu_row σ 0 v h
theorem xstepT {valid : xW → Prop} {cf mf : xW → Option (Int × xW)} (f : Int → Int) (ho : XOt valid cf mf) (hc : ∀ σ q, cf σ = some q → ∀ c, 121 ≤ c → q.2 c = σ c) (hm : ∀ τ q, mf τ = some q → ∀ c, (c < 121 ∨ c = 154) → q.2 c = τ c) {B : Int} {σ : xW} (hB : 0 ≤ B ∧ B ≤ 1000000) (h : XR B σ σ) (hv : valid σ) : ∃ r σ1 τ1, cf σ = some (r, σ1) ∧ mf (xu σ1 154 0 (f r)) = some (r, τ1) ∧ τ1 121 0 = 0 ∧ τ1 154 0 = f r ∧ XR (B + 300) τ1 τ1 := by
  obtain ⟨r, σ1, τ0, h1, -, -, -⟩ := (ho B σ σ hB.1 hB.2 h).1 hv
  have hσ1 := hc σ _ h1
  obtain ⟨r', σ1', τ1, g1, g2, g3, g4⟩ := (ho B σ (xu σ1 154 0 (f r)) hB.1 hB.2 (XR_loc (fun _ _ => rfl) (fun c a b => (xu154 σ1 (f r) (by omega)).trans (hσ1 c a)) h)).1 hv
  rw [h1] at g1
  cases g1
  refine ⟨r, σ1, τ1, h1, g2, g3, ?_, XR_loc (fun c hc => (hm _ _ g2 c (Or.inl hc)).trans (xu154 σ1 (f r) (by omega))) (fun _ _ _ => rfl) g4⟩
  exact (congrFun (hm _ _ g2 154 (Or.inr rfl)) 0).trans (xu_same _ _ _ _)
theorem xstepTn {valid : xW → Prop} {cf mf : xW → Option (Int × xW)} (ho : XOt valid cf mf) (hm : ∀ τ q, mf τ = some q → ∀ c, (c < 121 ∨ c = 154) → q.2 c = τ c) {B : Int} {σ : xW} (hB : 0 ≤ B ∧ B ≤ 1000000) (h : XR B σ σ) (hv : ¬ valid σ) : ∃ r τ1, mf σ = some (r, τ1) ∧ τ1 121 0 = 1 ∧ XR (B + 300) τ1 τ1 := by
  obtain ⟨r, τ1, g1, g2, g3⟩ := (ho B σ σ hB.1 hB.2 h).2 hv
  exact ⟨r, τ1, g1, g2, XR_loc (fun c hc => hm _ _ g1 c (Or.inl hc)) (fun _ _ _ => rfl) g3⟩
theorem xcmp_self (a : Int) : xcmp a a = 0 := by unfold xcmp; rw [if_neg (by omega), if_pos rfl]
theorem xand_63 (a : Int) : 0 ≤ xand a 63 ∧ xand a 63 ≤ 63 := by
  have h : ((Int32.ofInt a).toBitVec &&& 63#32).toNat ≤ 63 := by
    rw [BitVec.toNat_and]
    exact Nat.and_le_right
  have e : xand a 63 = (((Int32.ofInt a).toBitVec &&& 63#32).toNat : Int) := by
    show ((Int32.ofInt a).toBitVec &&& 63#32).toInt = _
    rw [BitVec.toInt_eq_toNat_cond, if_pos (by omega)]
  rw [e]
  omega
/-- what goes on behind a case -/
def xKK (Ln : Nat) (xs : Nat → Int32) (i bc bs : Nat) (B : Int) (K : List xV → Nat → xW → Prop) : Prop := ∀ σ', XR (B + 300) σ' σ' → xZ (xGL Ln xs) 330 bc bs mL_law 1440 [vT 100, vR 0, vR 121, vR 154, vI (5 * (i : Int)), vX, vX, vX] [] 155 σ' K
theorem dL_law_0 : decode cL_law 0 = .ok (.new 8, 3) := by decide +kernel
theorem dL_law_3 : decode cL_law 3 = .ok (.dup, 1) := by decide +kernel
theorem dL_law_4 : decode cL_law 4 = .ok (.invokespecial 22, 3) := by decide +kernel
theorem dL_law_7 : decode cL_law 7 = .ok (.astore_n 1, 1) := by decide +kernel
theorem dL_law_8 : decode cL_law 8 = .ok (.new 23, 3) := by decide +kernel
theorem dL_law_11 : decode cL_law 11 = .ok (.dup, 1) := by decide +kernel
theorem dL_law_12 : decode cL_law 12 = .ok (.invokespecial 25, 3) := by decide +kernel
theorem dL_law_15 : decode cL_law 15 = .ok (.astore_n 2, 1) := by decide +kernel
theorem dL_law_16 : decode cL_law 16 = .ok (.iconst 1, 1) := by decide +kernel
theorem dL_law_17 : decode cL_law 17 = .ok (.newarray .long, 2) := by decide +kernel
theorem dL_law_19 : decode cL_law 19 = .ok (.astore_n 3, 1) := by decide +kernel
theorem dL_law_20 : decode cL_law 20 = .ok (.iconst 0, 1) := by decide +kernel
theorem dL_law_21 : decode cL_law 21 = .ok (.istore 4, 2) := by decide +kernel
theorem dL_law_23 : decode cL_law 23 = .ok (.iload 4, 2) := by decide +kernel
theorem dL_law_25 : decode cL_law 25 = .ok (.aload_n 0, 1) := by decide +kernel
theorem dL_law_26 : decode cL_law 26 = .ok (.arraylength, 1) := by decide +kernel
theorem dL_law_27 : decode cL_law 27 = .ok (.iconst 5, 1) := by decide +kernel
theorem dL_law_28 : decode cL_law 28 = .ok (.isub, 1) := by decide +kernel
theorem dL_law_29 : decode cL_law 29 = .ok (.if_icmp .gt 1417, 3) := by decide +kernel
theorem dL_law_32 : decode cL_law 32 = .ok (.aload_n 0, 1) := by decide +kernel
theorem dL_law_33 : decode cL_law 33 = .ok (.iload 4, 2) := by decide +kernel
theorem dL_law_35 : decode cL_law 35 = .ok (.iaload, 1) := by decide +kernel
theorem dL_law_36 : decode cL_law 36 = .ok (.bipush 63, 2) := by decide +kernel
theorem dL_law_38 : decode cL_law 38 = .ok (.iand, 1) := by decide +kernel
theorem dL_law_39 : decode cL_law 39 = .ok (.tableswitch 1401 0 47 #[205, 230, 255, 268, 281, 294, 307, 320, 388, 456, 517, 542, 567, 604, 653, 690, 727, 740, 753, 766, 779, 792, 817, 842, 855, 868, 881, 894, 907, 920, 945, 958, 983, 996, 1033, 1046, 1059, 1072, 1097, 1110, 1159, 1196, 1209, 1234, 1271, 1296, 1321, 1346], 205) := by decide +kernel
