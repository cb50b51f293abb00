/-! the class's plan of a day; the reference's clashes of a row -/
/-- minute of deed d's begin -/
def xbe (m : Int) (cd : Int → Int) (σ : xW) (gun day : Int) : Int → Int := fun d => xhm m cd (xday (σ 5 1) (σ 6) day) (xday (σ 7 1) (σ 8) day) day gun (σ 18 (σ 93 d))
/-- pairs that clash, the gun at a place, on a day -/
def xpr (m : Int) (cd : Int → Int) (σ : xW) (gun day : Int) : Int := xPp (xq (σ 94) (xbe m cd σ gun day) (σ 20)) (σ 92 0).toNat
theorem XR_rule {B : Int} {σ τ : xW} (h : XR B σ τ) : (σ 0 4 = 9 ∨ σ 0 4 = 13) ∧ σ 0 4 ∈ xRules ∧ XRC (σ (σ 0 4) 1) (σ (σ 0 4 + 1)) (τ 121 23) (τ 131) := by
  have h4 := h.2.2.2.1
  refine ⟨by rcases h4.1 with ⟨a, b⟩ | ⟨a, b⟩ <;> simp [a], ?_, h4.2⟩
  rcases h4.1 with ⟨a, b⟩ | ⟨a, b⟩ <;> rw [a] <;> decide
theorem xpr_r (m : Int) (cd : Int → Int) (σ : xW) (gun day : Int) (h : 0 ≤ σ 92 0 ∧ σ 92 0 ≤ 8) : 0 ≤ xpr m cd σ gun day ∧ xpr m cd σ gun day ≤ 64 := by
  have hp := xPp_r (xq (σ 94) (xbe m cd σ gun day) (σ 20)) (σ 92 0).toNat
  have : (((σ 92 0).toNat : Nat) : Int) * (((σ 92 0).toNat : Nat) : Int) ≤ 8 * 8 := Int.mul_le_mul (by omega) (by omega) (by omega) (by omega)
  unfold xpr
  omega
/-- the class's world as it must be to plan in it; m, cd: the rule r -/
def Xcw (m : Int) (cd : Int → Int) (r : Int) (s : xW) : Prop := (r = 9 ∨ r = 13) ∧ XRC (s r 1) (s (r + 1)) m cd ∧ (1 ≤ s 5 1 ∧ s 5 1 ≤ 20) ∧ (1 ≤ s 7 1 ∧ s 7 1 ≤ 20) ∧ (∀ i, 0 ≤ s 8 i ∧ s 8 i ≤ 9) ∧ (0 ≤ s 0 14 ∧ s 0 14 ≤ 8) ∧ (0 ≤ s 92 0 ∧ s 92 0 ≤ 8) ∧ (∀ d, 0 ≤ d → d < s 92 0 → (0 ≤ s 93 d ∧ s 93 d < s 0 14) ∧ (1 ≤ s 94 d ∧ s 94 d ≤ 15)) ∧ (∀ h, 0 ≤ h → h < 8 → 0 ≤ s 18 h ∧ s 18 h ≤ 99) ∧ (∀ d, 0 ≤ d → d < 8 → -1 ≤ s 20 d ∧ s 20 d ≤ 9)
theorem XR_cw {B : Int} {σ τ : xW} (h : XR B σ τ) : Xcw (τ 121 23) (τ 131) (σ 0 4) σ := by
  obtain ⟨a, b, c⟩ := XR_rule h
  obtain ⟨h1, h2, h3, h4, h5, h6, h7, h8, h9, h10⟩ := h
  exact ⟨a, c, h3.1.1, h3.2.1, h3.2.2.1, h5.1, h5.2.2.1, fun d x y => ⟨(h5.2.2.2.2 d x y).1, (h5.2.2.2.2 d x y).2.2.1⟩, h6.1.2.1, h6.1.2.2.2⟩
/-- the same in another world -/
theorem Xcw_c {m : Int} {cd : Int → Int} {r : Int} {s s1 : xW} (h : Xcw m cd r s) (e : ∀ c, c ≠ 90 → c ≠ 91 → c ≠ r + 2 → c ≠ 95 → c ≠ 96 → s1 c = s c) : Xcw m cd r s1 := by
  have hr := h.1
  unfold Xcw at *
  rw [e r (by omega) (by omega) (by omega) (by omega) (by omega), e (r + 1) (by omega) (by omega) (by omega) (by omega) (by omega), e 5 (by omega) (by omega) (by omega) (by omega) (by omega), e 7 (by omega) (by omega) (by omega) (by omega) (by omega), e 8 (by omega) (by omega) (by omega) (by omega) (by omega), e 0 (by omega) (by omega) (by omega) (by omega) (by omega), e 92 (by omega) (by omega) (by omega) (by omega) (by omega), e 93 (by omega) (by omega) (by omega) (by omega) (by omega), e 94 (by omega) (by omega) (by omega) (by omega) (by omega), e 18 (by omega) (by omega) (by omega) (by omega) (by omega), e 20 (by omega) (by omega) (by omega) (by omega) (by omega)]
  exact h
/-- what planFor() leaves -/
def Xpf (m : Int) (cd : Int → Int) (r gun day : Int) (s s1 : xW) : Prop := (∀ c, c ≠ 90 → c ≠ 91 → c ≠ r + 2 → c ≠ 95 → c ≠ 96 → s1 c = s c) ∧ Xpl s1 ∧ (∀ h, 0 ≤ h → h < s 0 14 → s1 91 h = xhm m cd (xday (s 5 1) (s 6) day) (xday (s 7 1) (s 8) day) day gun (s 18 h)) ∧ (∀ d, 0 ≤ d → d < s 92 0 → s1 95 d = xbe m cd s gun day d ∧ s1 96 d = xbe m cd s gun day d + s 20 d) ∧ (∀ a c, 0 ≤ a → a < s 92 0 → 0 ≤ c → c < s 92 0 → xq (s1 94) (s1 95) (s1 20) a c = xq (s 94) (xbe m cd s gun day) (s 20) a c)
theorem planFor_d {m : Int} {cd : Int → Int} {r gun day : Int} {s : xW} (h : Xcw m cd r s) (hg : 0 ≤ gun ∧ gun ≤ 99) (hday : 0 ≤ day ∧ day ≤ 2000000) : ∃ s1, F_X10_planFor r gun day s = some s1 ∧ Xpf m cd r gun day s s1 := by
  obtain ⟨a1, a2, a3, a4, a5, a6, a7, a8, a9, a10⟩ := h
  obtain ⟨s1, g1, g2, g3, g4⟩ := planFor_c a1 a2 a3 a4 a6 a7 (fun d x y => (a8 d x y).1) a9 hg hday
  have e92 : s1 92 = s 92 := g2 92 (by omega) (by omega) (by omega) (by omega) (by omega)
  have e20 : s1 20 = s 20 := g2 20 (by omega) (by omega) (by omega) (by omega) (by omega)
  have e94 : s1 94 = s 94 := g2 94 (by omega) (by omega) (by omega) (by omega) (by omega)
  refine ⟨s1, g1, g2, ⟨by rw [e92]; exact a7, fun d x y => ?_⟩, g3, fun d x y => ?_, fun a c x1 x2 y1 y2 => ?_⟩
  · rw [e92] at y
    have q := g4 d x y
    have hr : 0 ≤ s1 95 d ∧ s1 95 d ≤ 108 := by rw [q.1]; exact xhm_r (a5 _)
    rw [e20]
    exact ⟨by omega, a10 d x (by omega), q.2⟩
  · have q := g4 d x y
    unfold xbe
    rw [q.2, q.1]
    exact ⟨rfl, rfl⟩
  · rw [e94, e20]
    exact xq_congr (n := s 92 0) (fun d x y => ⟨rfl, (g4 d x y).1, rfl⟩) x1 x2 y1 y2
theorem pairs_d {m : Int} {cd : Int → Int} {r gun day : Int} {s s1 : xW} (hr : r = 9 ∨ r = 13) (hn : 0 ≤ s 92 0 ∧ s 92 0 ≤ 8) (h : Xpf m cd r gun day s s1) : F_X4_pairs s1 = some (xpr m cd s gun day) := by
  obtain ⟨h1, h2, h3, h4, h5⟩ := h
  rw [pairs_c h2, h1 92 (by omega) (by omega) (by omega) (by omega) (by omega)]
  unfold xpr
  rw [xPp_congr _ (fun a b x1 x2 y1 y2 => h5 a b x1 (by omega) y1 (by omega))]
theorem pairsOn_c {m : Int} {cd : Int → Int} {day : Int} {s : xW} (h : Xcw m cd (s 0 4) s) (hg : 0 ≤ s 17 0 ∧ s 17 0 ≤ 99) (hday : 0 ≤ day ∧ day ≤ 2000000) : ∃ s1, F_X10_pairsOn day s = some (xpr m cd s (s 17 0) day, s1) ∧ Xpf m cd (s 0 4) (s 17 0) day s s1 := by
  obtain ⟨s1, g1, g2⟩ := planFor_d h hg hday
  refine ⟨s1, ?_, g2⟩
  unfold F_X10_pairsOn
  rw [xgd_t (by rcases h.1 with a | a <;> rw [a] <;> decide), g1]
  simp only [xbp_s, xbd_s, xls, xli, xlt, xjn]
  rw [pairs_d h.1 h.2.2.2.2.2.2.1 g2]
  rfl
/-- the numbers that count of the class's town, deeds and sky, in two worlds -/
def Xsame (s s1 : xW) : Prop := s1 5 1 = s 5 1 ∧ s1 6 = s 6 ∧ s1 7 1 = s 7 1 ∧ s1 8 = s 8 ∧ s1 18 = s 18 ∧ s1 93 = s 93 ∧ s1 94 = s 94 ∧ s1 20 = s 20 ∧ s1 92 0 = s 92 0
theorem xpr_same {m : Int} {cd : Int → Int} {gun day : Int} {s s1 : xW} (h : Xsame s s1) : xpr m cd s1 gun day = xpr m cd s gun day := by
  obtain ⟨e1, e2, e3, e4, e5, e6, e7, e8, e9⟩ := h
  unfold xpr xbe
  rw [e1, e2, e3, e4, e5, e6, e7, e8, e9]
theorem Xsame_pf {m : Int} {cd : Int → Int} {r gun day : Int} {s s1 : xW} (hr : r = 9 ∨ r = 13) (h : Xpf m cd r gun day s s1) : Xsame s s1 := by
  have e := h.1
  have q : ∀ c, c ≠ 90 → c ≠ 91 → c ≠ 11 → c ≠ 15 → c ≠ 95 → c ≠ 96 → s1 c = s c := fun c a1 a2 a3 a4 a5 a6 => e c a1 a2 (by omega) a5 a6
  refine ⟨?_, q 6 (by decide) (by decide) (by decide) (by decide) (by decide) (by decide), ?_, q 8 (by decide) (by decide) (by decide) (by decide) (by decide) (by decide), q 18 (by decide) (by decide) (by decide) (by decide) (by decide) (by decide), q 93 (by decide) (by decide) (by decide) (by decide) (by decide) (by decide), q 94 (by decide) (by decide) (by decide) (by decide) (by decide) (by decide), q 20 (by decide) (by decide) (by decide) (by decide) (by decide) (by decide), ?_⟩
  · rw [q 5 (by decide) (by decide) (by decide) (by decide) (by decide) (by decide)]
  · rw [q 7 (by decide) (by decide) (by decide) (by decide) (by decide) (by decide)]
  · rw [q 92 (by decide) (by decide) (by decide) (by decide) (by decide) (by decide)]
/-! the reference: what the row r has of the class's town σ, the gun at gun, on day -/
def Xmr (σ : xW) (gun day : Int) (r : Int → Int) : Prop := Xrr (σ 0 14) r ∧ 10 * r 32 + r 33 = gun ∧ r 39 = day ∧ (∀ h, 0 ≤ h → h < σ 0 14 → 10 * r h + r (8 + h) = σ 18 h) ∧ (∀ d, 0 ≤ d → d < σ 92 0 → r (24 + d) = σ 20 d)
/-- the reference's world, fit to hear and clash in it -/
def Xmw (m : Int) (cd : Int → Int) (σ τ : xW) : Prop := Xev m cd (σ 5 1) (σ 6) (σ 7 1) (σ 8) τ ∧ (0 ≤ σ 0 14 ∧ σ 0 14 ≤ 8) ∧ (0 ≤ σ 92 0 ∧ σ 92 0 ≤ 8) ∧ τ 121 3 = σ 0 14 ∧ τ 121 4 = σ 92 0 ∧ (∀ d, 0 ≤ d → d < σ 92 0 → (0 ≤ σ 93 d ∧ σ 93 d < σ 0 14) ∧ τ 125 d = σ 93 d ∧ τ 126 d = σ 94 d) ∧ (∀ d, 0 ≤ d → d < 8 → -1 ≤ σ 20 d ∧ σ 20 d ≤ 9)
theorem XR_mw {B : Int} {σ τ : xW} (h : XR B σ τ) : Xmw (τ 121 23) (τ 131) σ τ := by
  obtain ⟨h1, h2, h3, h4, h5, h6, h7, h8, h9, h10⟩ := h
  exact ⟨⟨⟨_, _, h4.2⟩, rfl, rfl, h3.1, h3.2⟩, h5.1, h5.2.2.1, h5.2.1, h5.2.2.2.1, fun d x y => ⟨(h5.2.2.2.2 d x y).1, (h5.2.2.2.2 d x y).2.1, (h5.2.2.2.2 d x y).2.2.2⟩, h6.1.2.2.2⟩
theorem XR_mr {B : Int} {σ τ : xW} (hB : B ≤ 1000000) (h : XR B σ τ) : Xmr σ (σ 17 0) (σ 17 5) (τ 127) := by
  obtain ⟨h1, h2, h3, h4, h5, h6, h7, h8, h9, h10⟩ := h
  refine ⟨Xrr_of (by omega) h5.1.2 h6.1 h6.2, h6.2.1.1.1.symm, h6.2.1.2.2.2.2.2.symm, fun h x y => (h6.2.2.1 h x y).1.symm, fun d x y => (h6.2.2.2 d x y).1.symm⟩
theorem Xmw_c {m : Int} {cd : Int → Int} {σ τ τ1 : xW} (h : Xmw m cd σ τ) (e : ∀ c, c = 123 ∨ c = 124 ∨ c = 131 ∨ c = 125 ∨ c = 126 → τ1 c = τ c) (e2 : ∀ k, k = 3 ∨ k = 4 ∨ k = 6 ∨ k = 7 ∨ k = 23 → τ1 121 k = τ 121 k) : Xmw m cd σ τ1 := by
  unfold Xmw Xev at *
  rw [e 123 (by omega), e 124 (by omega), e 131 (by omega), e 125 (by omega), e 126 (by omega), e2 3 (by omega), e2 4 (by omega), e2 6 (by omega), e2 7 (by omega), e2 23 (by omega)]
  exact h
theorem lays_d {m : Int} {cd : Int → Int} {r gun day : Int} {σ τ : xW} (h : Xmw m cd σ τ) (hr : r = 127 ∨ r = 128) (hR : Xmr σ gun day (τ r)) : ∃ τ1, F_X11_laysBegins r τ = some τ1 ∧ (∀ c, c ≠ 133 → c ≠ 134 → c ≠ 135 → τ1 c = τ c) ∧ Xbg r τ1 ∧ (∀ d, 0 ≤ d → d < σ 92 0 → τ1 135 d = xbe m cd σ gun day d) ∧ (∀ a c, 0 ≤ a → a < σ 92 0 → 0 ≤ c → c < σ 92 0 → xq (τ1 126) (τ1 135) (fun d => τ1 r (24 + d)) a c = xq (σ 94) (xbe m cd σ gun day) (σ 20) a c) := by
  obtain ⟨h1, h2, h3, h4, h5, h6, h7⟩ := h
  obtain ⟨r1, r2, r3, r4, r5⟩ := hR
  obtain ⟨τ1, g1, g2, g3⟩ := laysBegins_m h1 hr r1 h2.2 (by rw [h5]; exact h3) (by rw [h5]; intro d x y; rw [(h6 d x y).2.1]; exact (h6 d x y).1)
  have e121 : τ1 121 = τ 121 := g2 121 (by decide) (by decide) (by decide)
  have e126 : τ1 126 = τ 126 := g2 126 (by decide) (by decide) (by decide)
  have er : τ1 r = τ r := g2 r (by omega) (by omega) (by omega)
  have hb : ∀ d, 0 ≤ d → d < σ 92 0 → τ1 135 d = xbe m cd σ gun day d := fun d x y => by
    have q := h6 d x y
    rw [g3 d x (by rw [h5]; exact y), q.2.1, r2, r3, r4 _ q.1.1 q.1.2]
    rfl
  have hd9 : ∀ d, 0 ≤ xbe m cd σ gun day d ∧ xbe m cd σ gun day d ≤ 108 := fun d => xhm_r (h1.2.2.2.2.2.1 _)
  refine ⟨τ1, g1, g2, ⟨by rw [e121, h5]; exact h3, fun d x y => ?_⟩, hb, fun a c x1 x2 y1 y2 => ?_⟩
  · rw [e121, h5] at y
    rw [hb d x y, er, r5 d x y]
    have := hd9 d
    have := h7 d x (by omega)
    omega
  · rw [e126, er]
    exact xq_congr (n := σ 92 0) (fun d x y => ⟨(h6 d x y).2.2, hb d x y, r5 d x y⟩) x1 x2 y1 y2
theorem con_d {m : Int} {cd : Int → Int} {r gun day : Int} {σ τ : xW} (h : Xmw m cd σ τ) (hr : r = 127 ∨ r = 128) (hR : Xmr σ gun day (τ r)) : ∃ τ1, F_X11_clashesOn r τ = some (xpr m cd σ gun day, τ1) ∧ (∀ c, c ≠ 133 → c ≠ 134 → c ≠ 135 → τ1 c = τ c) := by
  obtain ⟨τ1, g1, g2, g3, g4, g5⟩ := lays_d h hr hR
  refine ⟨τ1, ?_, g2⟩
  rw [con_m hr g1 g3]
  unfold xpr
  rw [g2 121 (by decide) (by decide) (by decide), h.2.2.2.2.1, xPp_congr _ (fun a b x1 x2 y1 y2 => g5 a b x1 (by omega) y1 (by omega))]
