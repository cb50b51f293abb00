theorem Xtext_c {σ σ1 τ : xW} (e0 : σ1 1 1 = σ 1 1) (e1 : σ1 2 = σ 2) (h : Xtext σ τ) : Xtext σ1 τ := by
  unfold Xtext at *
  rw [e0, e1]
  exact h
theorem Xtext_cW {W : List (Int × Int)} {σ σ1 τ : xW} (hf : xfm W σ σ1) (hw : (xns W 1 1 && (xnw W 2)) = true) (h : Xtext σ τ) : Xtext σ1 τ := by
  simp only [Bool.and_eq_true] at hw
  obtain ⟨w0, w1⟩ := hw
  exact Xtext_c (xfm_slot hf w0) (xfm_cell hf w1) h
theorem Xrow_c {σ σ1 τ : xW} (e0 : σ1 3 1 = σ 3 1) (e1 : σ1 4 = σ 4) (h : Xrow σ τ) : Xrow σ1 τ := by
  unfold Xrow at *
  rw [e0, e1]
  exact h
theorem Xrow_cW {W : List (Int × Int)} {σ σ1 τ : xW} (hf : xfm W σ σ1) (hw : (xns W 3 1 && (xnw W 4)) = true) (h : Xrow σ τ) : Xrow σ1 τ := by
  simp only [Bool.and_eq_true] at hw
  obtain ⟨w0, w1⟩ := hw
  exact Xrow_c (xfm_slot hf w0) (xfm_cell hf w1) h
theorem Xsky_c {σ σ1 τ : xW} (e0 : σ1 5 1 = σ 5 1) (e1 : σ1 6 = σ 6) (e2 : σ1 7 1 = σ 7 1) (e3 : σ1 8 = σ 8) (h : Xsky σ τ) : Xsky σ1 τ := by
  unfold Xsky at *
  rw [e0, e1, e2, e3]
  exact h
theorem Xsky_cW {W : List (Int × Int)} {σ σ1 τ : xW} (hf : xfm W σ σ1) (hw : (xns W 5 1 && (xnw W 6 && (xns W 7 1 && (xnw W 8)))) = true) (h : Xsky σ τ) : Xsky σ1 τ := by
  simp only [Bool.and_eq_true] at hw
  obtain ⟨w0, w1, w2, w3⟩ := hw
  exact Xsky_c (xfm_slot hf w0) (xfm_cell hf w1) (xfm_slot hf w2) (xfm_cell hf w3) h
theorem Xplan_c {σ σ1 τ : xW} (e0 : σ1 0 14 = σ 0 14) (e1 : σ1 92 0 = σ 92 0) (e2 : σ1 93 = σ 93) (e3 : σ1 94 = σ 94) (h : Xplan σ τ) : Xplan σ1 τ := by
  unfold Xplan at *
  rw [e0, e1, e2, e3]
  exact h
theorem Xplan_cW {W : List (Int × Int)} {σ σ1 τ : xW} (hf : xfm W σ σ1) (hw : (xns W 0 14 && (xns W 92 0 && (xnw W 93 && (xnw W 94)))) = true) (h : Xplan σ τ) : Xplan σ1 τ := by
  simp only [Bool.and_eq_true] at hw
  obtain ⟨w0, w1, w2, w3⟩ := hw
  exact Xplan_c (xfm_slot hf w0) (xfm_slot hf w1) (xfm_cell hf w2) (xfm_cell hf w3) h
theorem Xtown_c {B : Int} {σ σ1 τ : xW} (e0 : σ1 0 14 = σ 0 14) (e1 : σ1 92 0 = σ 92 0) (e2 : σ1 17 = σ 17) (e3 : σ1 18 = σ 18) (e4 : σ1 19 = σ 19) (e5 : σ1 20 = σ 20) (h : Xtown B σ τ) : Xtown B σ1 τ := by
  unfold Xtown at *
  rw [e0, e1, e2, e3, e4, e5]
  exact h
theorem Xtown_cW {B : Int} {W : List (Int × Int)} {σ σ1 τ : xW} (hf : xfm W σ σ1) (hw : (xns W 0 14 && (xns W 92 0 && (xnw W 17 && (xnw W 18 && (xnw W 19 && (xnw W 20)))))) = true) (h : Xtown B σ τ) : Xtown B σ1 τ := by
  simp only [Bool.and_eq_true] at hw
  obtain ⟨w0, w1, w2, w3, w4, w5⟩ := hw
  exact Xtown_c (xfm_slot hf w0) (xfm_slot hf w1) (xfm_cell hf w2) (xfm_cell hf w3) (xfm_cell hf w4) (xfm_cell hf w5) h
theorem Xrep_c {σ σ1 τ : xW} (e0 : σ1 100 2 = σ 100 2) (e1 : σ1 101 = σ 101) (e2 : σ1 102 = σ 102) (e3 : σ1 0 14 = σ 0 14) (h : Xrep σ τ) : Xrep σ1 τ := by
  unfold Xrep at *
  rw [e0, e1, e2, e3]
  exact h
theorem Xrep_cW {W : List (Int × Int)} {σ σ1 τ : xW} (hf : xfm W σ σ1) (hw : (xns W 100 2 && (xnw W 101 && (xnw W 102 && (xns W 0 14)))) = true) (h : Xrep σ τ) : Xrep σ1 τ := by
  simp only [Bool.and_eq_true] at hw
  obtain ⟨w0, w1, w2, w3⟩ := hw
  exact Xrep_c (xfm_slot hf w0) (xfm_cell hf w1) (xfm_cell hf w2) (xfm_slot hf w3) h
theorem Xforts_c {σ σ1 : xW} (e0 : σ1 105 1 = σ 105 1) (e1 : σ1 106 = σ 106) (h : Xforts σ) : Xforts σ1 := by
  unfold Xforts at *
  rw [e0, e1]
  exact h
theorem Xforts_cW {W : List (Int × Int)} {σ σ1 : xW} (hf : xfm W σ σ1) (hw : (xns W 105 1 && (xnw W 106)) = true) (h : Xforts σ) : Xforts σ1 := by
  simp only [Bool.and_eq_true] at hw
  obtain ⟨w0, w1⟩ := hw
  exact Xforts_c (xfm_slot hf w0) (xfm_cell hf w1) h
theorem Xtext_m {σ τ τ1 : xW} (e0 : τ1 121 15 = τ 121 15) (e1 : τ1 129 = τ 129) (h : Xtext σ τ) : Xtext σ τ1 := by
  unfold Xtext at *
  rw [e0, e1]
  exact h
theorem Xtext_mW {W : List (Int × Int)} {σ τ τ1 : xW} (hf : xfm W τ τ1) (hw : (xns W 121 15 && (xnw W 129)) = true) (h : Xtext σ τ) : Xtext σ τ1 := by
  simp only [Bool.and_eq_true] at hw
  obtain ⟨w0, w1⟩ := hw
  exact Xtext_m (xfm_slot hf w0) (xfm_cell hf w1) h
theorem Xrow_m {σ τ τ1 : xW} (e0 : τ1 121 1 = τ 121 1) (e1 : τ1 122 = τ 122) (h : Xrow σ τ) : Xrow σ τ1 := by
  unfold Xrow at *
  rw [e0, e1]
  exact h
theorem Xrow_mW {W : List (Int × Int)} {σ τ τ1 : xW} (hf : xfm W τ τ1) (hw : (xns W 121 1 && (xnw W 122)) = true) (h : Xrow σ τ) : Xrow σ τ1 := by
  simp only [Bool.and_eq_true] at hw
  obtain ⟨w0, w1⟩ := hw
  exact Xrow_m (xfm_slot hf w0) (xfm_cell hf w1) h
theorem Xsky_m {σ τ τ1 : xW} (e0 : τ1 121 6 = τ 121 6) (e1 : τ1 123 = τ 123) (e2 : τ1 121 7 = τ 121 7) (e3 : τ1 124 = τ 124) (h : Xsky σ τ) : Xsky σ τ1 := by
  unfold Xsky at *
  rw [e0, e1, e2, e3]
  exact h
theorem Xsky_mW {W : List (Int × Int)} {σ τ τ1 : xW} (hf : xfm W τ τ1) (hw : (xns W 121 6 && (xnw W 123 && (xns W 121 7 && (xnw W 124)))) = true) (h : Xsky σ τ) : Xsky σ τ1 := by
  simp only [Bool.and_eq_true] at hw
  obtain ⟨w0, w1, w2, w3⟩ := hw
  exact Xsky_m (xfm_slot hf w0) (xfm_cell hf w1) (xfm_slot hf w2) (xfm_cell hf w3) h
theorem Xrule_m {σ τ τ1 : xW} (e0 : τ1 121 23 = τ 121 23) (e1 : τ1 131 = τ 131) (h : Xrule σ τ) : Xrule σ τ1 := by
  unfold Xrule at *
  rw [e0, e1]
  exact h
theorem Xrule_mW {W : List (Int × Int)} {σ τ τ1 : xW} (hf : xfm W τ τ1) (hw : (xns W 121 23 && (xnw W 131)) = true) (h : Xrule σ τ) : Xrule σ τ1 := by
  simp only [Bool.and_eq_true] at hw
  obtain ⟨w0, w1⟩ := hw
  exact Xrule_m (xfm_slot hf w0) (xfm_cell hf w1) h
theorem Xplan_m {σ τ τ1 : xW} (e0 : τ1 121 3 = τ 121 3) (e1 : τ1 121 4 = τ 121 4) (e2 : τ1 125 = τ 125) (e3 : τ1 126 = τ 126) (h : Xplan σ τ) : Xplan σ τ1 := by
  unfold Xplan at *
  rw [e0, e1, e2, e3]
  exact h
theorem Xplan_mW {W : List (Int × Int)} {σ τ τ1 : xW} (hf : xfm W τ τ1) (hw : (xns W 121 3 && (xns W 121 4 && (xnw W 125 && (xnw W 126)))) = true) (h : Xplan σ τ) : Xplan σ τ1 := by
  simp only [Bool.and_eq_true] at hw
  obtain ⟨w0, w1, w2, w3⟩ := hw
  exact Xplan_m (xfm_slot hf w0) (xfm_slot hf w1) (xfm_cell hf w2) (xfm_cell hf w3) h
theorem Xtown_m {B : Int} {σ τ τ1 : xW} (e0 : τ1 127 = τ 127) (h : Xtown B σ τ) : Xtown B σ τ1 := by
  unfold Xtown at *
  rw [e0]
  exact h
theorem Xtown_mW {B : Int} {W : List (Int × Int)} {σ τ τ1 : xW} (hf : xfm W τ τ1) (hw : (xnw W 127) = true) (h : Xtown B σ τ) : Xtown B σ τ1 := by
  have w0 := hw
  exact Xtown_m (xfm_cell hf w0) h
theorem Xpast_m {B : Int} {σ τ τ1 : xW} (e0 : τ1 121 28 = τ 121 28) (e1 : τ1 136 = τ 136) (h : Xpast B σ τ) : Xpast B σ τ1 := by
  unfold Xpast at *
  rw [e0, e1]
  exact h
theorem Xpast_mW {B : Int} {W : List (Int × Int)} {σ τ τ1 : xW} (hf : xfm W τ τ1) (hw : (xns W 121 28 && (xnw W 136)) = true) (h : Xpast B σ τ) : Xpast B σ τ1 := by
  simp only [Bool.and_eq_true] at hw
  obtain ⟨w0, w1⟩ := hw
  exact Xpast_m (xfm_slot hf w0) (xfm_cell hf w1) h
theorem Xkept_m {B : Int} {σ τ τ1 : xW} (e0 : τ1 121 5 = τ 121 5) (e1 : τ1 151 = τ 151) (e2 : τ1 152 = τ 152) (e3 : τ1 153 = τ 153) (h : Xkept B σ τ) : Xkept B σ τ1 := by
  unfold Xkept at *
  rw [e0, e1, e2, e3]
  exact h
theorem Xkept_mW {B : Int} {W : List (Int × Int)} {σ τ τ1 : xW} (hf : xfm W τ τ1) (hw : (xns W 121 5 && (xnw W 151 && (xnw W 152 && (xnw W 153)))) = true) (h : Xkept B σ τ) : Xkept B σ τ1 := by
  simp only [Bool.and_eq_true] at hw
  obtain ⟨w0, w1, w2, w3⟩ := hw
  exact Xkept_m (xfm_slot hf w0) (xfm_cell hf w1) (xfm_cell hf w2) (xfm_cell hf w3) h
theorem Xrep_m {σ τ τ1 : xW} (e0 : τ1 121 42 = τ 121 42) (e1 : τ1 146 = τ 146) (e2 : τ1 147 = τ 147) (h : Xrep σ τ) : Xrep σ τ1 := by
  unfold Xrep at *
  rw [e0, e1, e2]
  exact h
theorem Xrep_mW {W : List (Int × Int)} {σ τ τ1 : xW} (hf : xfm W τ τ1) (hw : (xns W 121 42 && (xnw W 146 && (xnw W 147))) = true) (h : Xrep σ τ) : Xrep σ τ1 := by
  simp only [Bool.and_eq_true] at hw
  obtain ⟨w0, w1, w2⟩ := hw
  exact Xrep_m (xfm_slot hf w0) (xfm_cell hf w1) (xfm_cell hf w2) h
theorem Xrule_c {σ σ1 τ : xW} (e0 : σ1 0 4 = σ 0 4) (e1 : σ1 0 5 = σ 0 5) (e2 : σ 0 4 = 9 → σ1 9 1 = σ 9 1 ∧ σ1 10 = σ 10) (e3 : σ 0 4 = 13 → σ1 13 1 = σ 13 1 ∧ σ1 14 = σ 14) (h : Xrule σ τ) : Xrule σ1 τ := by
  unfold Xrule at *
  rw [e0, e1]
  refine ⟨h.1, ?_⟩
  have h2 := h.2
  rcases h.1 with ⟨a, b⟩ | ⟨a, b⟩
  · rw [a] at h2 ⊢
    rw [(e2 a).1, show (9 : Int) + 1 = 10 from rfl, (e2 a).2]
    exact h2
  · rw [a] at h2 ⊢
    rw [(e3 a).1, show (13 : Int) + 1 = 14 from rfl, (e3 a).2]
    exact h2
theorem Xrule_cW {W : List (Int × Int)} {σ σ1 τ : xW} (hf : xfm W σ σ1) (hw : (xns W 0 4 && (xns W 0 5 && (xns W 9 1 && (xnw W 10 && (xns W 13 1 && xnw W 14))))) = true) (h : Xrule σ τ) : Xrule σ1 τ := by
  simp only [Bool.and_eq_true] at hw
  obtain ⟨w0, w1, w2, w3, w4, w5⟩ := hw
  exact Xrule_c (xfm_slot hf w0) (xfm_slot hf w1) (fun _ => ⟨xfm_slot hf w2, xfm_cell hf w3⟩) (fun _ => ⟨xfm_slot hf w4, xfm_cell hf w5⟩) h
def xnr (W : List (Int × Int)) (a b : Int) : Bool := W.all (fun q => decide (q.1 < a) || decide (b < q.1))
theorem xfm_rng {W : List (Int × Int)} {σ τ : xW} {a b : Int} (h : xfm W σ τ) (hw : xnr W a b = true) : ∀ c, a ≤ c → c ≤ b → τ c = σ c := by
  intro c h1 h2
  unfold xnr at hw
  rw [List.all_eq_true] at hw
  funext k
  refine h c k (fun z => ?_) (fun z => ?_) <;> (have := hw _ z; simp at this; omega)
theorem xpt_r (σ : xW) (j : Int) : 23 ≤ xpt σ j ∧ xpt σ j + 3 ≤ 86 := by
  unfold xpt
  omega
theorem Xpast_c {B : Int} {σ σ1 τ : xW} (e0 : σ1 21 1 = σ 21 1) (e1 : σ1 21 2 = σ 21 2) (e2 : ∀ c, 23 ≤ c → c ≤ 86 → σ1 c = σ c) (e3 : σ1 0 14 = σ 0 14) (e4 : σ1 92 0 = σ 92 0) (h : Xpast B σ τ) : Xpast B σ1 τ := by
  unfold Xpast at *
  rw [e0, e1, e3, e4]
  refine ⟨h.1, h.2.1, h.2.2.1, fun j h1 h2 => ?_⟩
  have e5 : xpt σ1 j = xpt σ j := by unfold xpt; rw [e0]
  have hr := xpt_r σ j
  rw [e5, e2 _ (by omega) (by omega), e2 _ (by omega) (by omega), e2 _ (by omega) (by omega), e2 _ (by omega) (by omega)]
  exact h.2.2.2 j h1 h2
theorem Xpast_cW {B : Int} {W : List (Int × Int)} {σ σ1 τ : xW} (hf : xfm W σ σ1) (hw : (xns W 21 1 && (xns W 21 2 && (xnr W 23 86 && (xns W 0 14 && xns W 92 0)))) = true) (h : Xpast B σ τ) : Xpast B σ1 τ := by
  simp only [Bool.and_eq_true] at hw
  obtain ⟨w0, w1, w2, w3, w4⟩ := hw
  exact Xpast_c (xfm_slot hf w0) (xfm_slot hf w1) (xfm_rng hf w2) (xfm_slot hf w3) (xfm_slot hf w4) h
theorem Xkept_c {B : Int} {σ σ1 τ : xW} (e0 : σ1 88 = σ 88) (e2 : ∀ c, 109 ≤ c → c ≤ 120 → σ1 c = σ c) (e3 : σ1 0 14 = σ 0 14) (e4 : σ1 92 0 = σ 92 0) (h : Xkept B σ τ) : Xkept B σ1 τ := by
  unfold Xkept at *
  rw [e0, e3, e4]
  refine ⟨h.1, fun i h1 h2 => ?_⟩
  rw [e2 _ (by omega) (by omega), e2 _ (by omega) (by omega), e2 _ (by omega) (by omega), e2 _ (by omega) (by omega)]
  exact h.2 i h1 h2
theorem Xkept_cW {B : Int} {W : List (Int × Int)} {σ σ1 τ : xW} (hf : xfm W σ σ1) (hw : (xnw W 88 && (xnr W 109 120 && (xns W 0 14 && xns W 92 0))) = true) (h : Xkept B σ τ) : Xkept B σ1 τ := by
  simp only [Bool.and_eq_true] at hw
  obtain ⟨w0, w1, w2, w3⟩ := hw
  exact Xkept_c (xfm_cell hf w0) (xfm_rng hf w1) (xfm_slot hf w2) (xfm_slot hf w3) h
theorem Xti_mono {B C : Int} {g p w l : Int → Int} (hBC : B ≤ C) (h : Xti B g p w l) : Xti C g p w l := ⟨⟨h.1.1, h.1.2.1, h.1.2.2.1, h.1.2.2.2.1, h.1.2.2.2.2.1, h.1.2.2.2.2.2.1, by have := h.1.2.2.2.2.2.2; omega⟩, h.2⟩
theorem XR_mono {B C : Int} {σ τ : xW} (hBC : B ≤ C) (h : XR B σ τ) : XR C σ τ := by
  obtain ⟨h1, h2, h3, h4, h5, h6, h7, h8, h9, h10⟩ := h
  refine ⟨h1, h2, h3, h4, h5, ⟨Xti_mono hBC h6.1, h6.2⟩, ⟨h7.1, h7.2.1, h7.2.2.1, fun j a b => ?_⟩, ⟨⟨h8.1.1, by have := h8.1.2; omega⟩, fun i a b => ?_⟩, h9, h10⟩
  · exact ⟨Xti_mono hBC (h7.2.2.2 j a b).1, (h7.2.2.2 j a b).2⟩
  · obtain ⟨q1, q2, q3, q4, q5⟩ := h8.2 i a b
    exact ⟨q1, q2, q3, q4, fun z => ⟨Xti_mono hBC (q5 z).1, (q5 z).2⟩⟩
/-- what may be written with nothing to tell of it: the class -/
def xoc (W : List (Int × Int)) : Bool := (xns W 1 1 && xnw W 2) && ((xns W 5 1 && (xnw W 6 && (xns W 7 1 && xnw W 8))) && ((xns W 0 4 && (xns W 0 5 && (xns W 9 1 && (xnw W 10 && (xns W 13 1 && xnw W 14))))) && ((xns W 0 14 && (xns W 92 0 && (xnw W 93 && xnw W 94))) && ((xnw W 17 && (xnw W 18 && (xnw W 19 && xnw W 20))) && ((xns W 21 1 && (xns W 21 2 && xnr W 23 86)) && ((xnw W 88 && xnr W 109 120) && ((xns W 100 2 && (xnw W 101 && xnw W 102)) && (xns W 105 1 && xnw W 106))))))))
theorem XR_cW {B : Int} {W : List (Int × Int)} {σ σ1 τ : xW} (hf : xfm W σ σ1) (hw : xoc W = true) (h : XR B σ τ) (hr : Xrow σ1 τ) : XR B σ1 τ := by
  unfold xoc at hw
  simp only [Bool.and_eq_true] at hw
  obtain ⟨⟨t1, t2⟩, ⟨s1, s2, s3, s4⟩, ⟨r1, r2, r3, r4, r5, r6⟩, ⟨p1, p2, p3, p4⟩, ⟨o1, o2, o3, o4⟩, ⟨a1, a2, a3⟩, ⟨k1, k2⟩, ⟨e1, e2, e3⟩, f1, f2⟩ := hw
  obtain ⟨h1, h2, h3, h4, h5, h6, h7, h8, h9, h10⟩ := h
  have n0 := xfm_slot hf p1
  have n1 := xfm_slot hf p2
  exact ⟨Xtext_c (xfm_slot hf t1) (xfm_cell hf t2) h1, hr, Xsky_c (xfm_slot hf s1) (xfm_cell hf s2) (xfm_slot hf s3) (xfm_cell hf s4) h3,
    Xrule_c (xfm_slot hf r1) (xfm_slot hf r2) (fun _ => ⟨xfm_slot hf r3, xfm_cell hf r4⟩) (fun _ => ⟨xfm_slot hf r5, xfm_cell hf r6⟩) h4,
    Xplan_c n0 n1 (xfm_cell hf p3) (xfm_cell hf p4) h5, Xtown_c n0 n1 (xfm_cell hf o1) (xfm_cell hf o2) (xfm_cell hf o3) (xfm_cell hf o4) h6,
    Xpast_c (xfm_slot hf a1) (xfm_slot hf a2) (xfm_rng hf a3) n0 n1 h7, Xkept_c (xfm_cell hf k1) (xfm_rng hf k2) n0 n1 h8, Xrep_c (xfm_slot hf e1) (xfm_cell hf e2) (xfm_cell hf e3) n0 h9, Xforts_c (xfm_slot hf f1) (xfm_cell hf f2) h10⟩
/-- the same of the reference -/
def xom (W : List (Int × Int)) : Bool := (xns W 121 15 && xnw W 129) && ((xns W 121 6 && (xnw W 123 && (xns W 121 7 && xnw W 124))) && ((xns W 121 23 && xnw W 131) && ((xns W 121 3 && (xns W 121 4 && (xnw W 125 && xnw W 126))) && (xnw W 127 && ((xns W 121 28 && xnw W 136) && ((xns W 121 5 && (xnw W 151 && (xnw W 152 && xnw W 153))) && (xns W 121 42 && (xnw W 146 && xnw W 147))))))))
theorem XR_mW {B : Int} {W : List (Int × Int)} {σ τ τ1 : xW} (hf : xfm W τ τ1) (hw : xom W = true) (h : XR B σ τ) (hr : Xrow σ τ1) : XR B σ τ1 := by
  unfold xom at hw
  simp only [Bool.and_eq_true] at hw
  obtain ⟨⟨t1, t2⟩, ⟨s1, s2, s3, s4⟩, ⟨r1, r2⟩, ⟨p1, p2, p3, p4⟩, o1, ⟨a1, a2⟩, ⟨k1, k2, k3, k4⟩, e1, e2, e3⟩ := hw
  obtain ⟨h1, h2, h3, h4, h5, h6, h7, h8, h9, h10⟩ := h
  exact ⟨Xtext_m (xfm_slot hf t1) (xfm_cell hf t2) h1, hr, Xsky_m (xfm_slot hf s1) (xfm_cell hf s2) (xfm_slot hf s3) (xfm_cell hf s4) h3, Xrule_m (xfm_slot hf r1) (xfm_cell hf r2) h4,
    Xplan_m (xfm_slot hf p1) (xfm_slot hf p2) (xfm_cell hf p3) (xfm_cell hf p4) h5, Xtown_m (xfm_cell hf o1) h6, Xpast_m (xfm_slot hf a1) (xfm_cell hf a2) h7, Xkept_m (xfm_slot hf k1) (xfm_cell hf k2) (xfm_cell hf k3) (xfm_cell hf k4) h8, Xrep_m (xfm_slot hf e1) (xfm_cell hf e2) (xfm_cell hf e3) h9, h10⟩
