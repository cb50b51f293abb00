/-! rule: things and ranks -/
def Xstk (f : Int → Int) (E q : Nat) (S : XPS) : Prop := (q = E ∧ (S.2.2.2.2 = 1 ∨ 0 < S.2.2.1)) ∨ (q < E ∧ xpst S (f q) = none)
/-- the reading has stuck at q, and so has the class's -/
def Xfl (d0 : Int) (f : Int → Int) (E q : Nat) (s' : xW) (st : List Int) : Prop := ∃ S', xrn d0 f q = some S' ∧ Xstk f E q S' ∧ Xat s' f (q : Int) (E : Int) ∧ s' 121 15 = 0 ∧ 0 ≤ s' 121 24 ∧ s' 121 24 + st.length ≤ q
def XTs (d0 : Int) (f : Int → Int) (E p q : Nat) (s' : xW) (C : List Int) (dep : Int) (st : List Int) : Prop := ∃ (K K0 : List Int) (m : Nat) (dig' : Int), K = K0 ++ List.replicate m 3000 ∧ xrn d0 f q = some ((C ++ K0).map xsc, List.replicate m 126 ++ st, dep, dig', 0) ∧ Xrs s' f q E dep (C ++ K) ∧ p < q ∧ (∀ d : Int, 0 ≤ d → xvd K d = some (d + 1)) ∧ ¬ ((q : Int) < E ∧ (48 ≤ f q ∧ f q ≤ 57) ∧ dig' < 3)
def XRs (d0 : Int) (f : Int → Int) (E p q : Nat) (s' : xW) (C : List Int) (dep : Int) (st : List Int) (r : Int) : Prop := ∃ (K o' st' : List Int) (dig' : Int), xrn d0 f q = some (o', st', dep, dig', 0) ∧ xstl (r + 1) o' st' = ((C ++ K).map xsc, st) ∧ Xrs s' f q E dep (C ++ K) ∧ p < q ∧ (∀ d : Int, 0 ≤ d → xvd K d = some (d + 1)) ∧ Xnx f E q r (o', st', dep, dig', 0)
def XTn (d0 : Int) (f : Int → Int) (E N : Nat) : Prop := ∀ (p : Nat) (s : xW) (C : List Int) (dep dig : Int) (st : List Int), p ≤ E → Xrs s f p E dep C → xrn d0 f p = some (C.map xsc, st, dep, dig, 1) → (E : Int) - p + 6 * (4 - dep) + 1 ≤ N → ∃ v s' q, F_rd N (-1) s = some (v, s') ∧ p ≤ q ∧ q ≤ E ∧ ((v = 0 ∧ Xfl d0 f E q s' st) ∨ (v = 1 ∧ XTs d0 f E p q s' C dep st))
def XRn (d0 : Int) (f : Int → Int) (E N : Nat) : Prop := ∀ (r : Int) (p : Nat) (s : xW) (C : List Int) (dep dig : Int) (st : List Int), (0 ≤ r ∧ r ≤ 3) → p ≤ E → Xrs s f p E dep C → xrn d0 f p = some (C.map xsc, st, dep, dig, 1) → xbnd (st.headD 0) < r + 1 → (E : Int) - p + 6 * (4 - dep) + (5 - r) ≤ N → ∃ v s' q, F_rd N r s = some (v, s') ∧ p ≤ q ∧ q ≤ E ∧ ((v = 0 ∧ Xfl d0 f E q s' st) ∨ (v = 1 ∧ XRs d0 f E p q s' C dep st r))
theorem rep_c (a : Int) (l : List Int) : ∀ m : Nat, List.replicate m a ++ a :: l = List.replicate (m + 1) a ++ l
  | 0 => rfl
  | m + 1 => by
    rw [List.replicate_succ, List.cons_append, rep_c a l m, List.replicate_succ (n := m + 1), List.cons_append]
theorem codes_f {s : xW} {v : Int} (h : 0 ≤ s 121 24 ∧ s 121 24 < 80) : F_X11_codes v s = some (xu (xu s 132 (s 121 24) v) 121 24 (s 121 24 + 1)) := by
  unfold F_X11_codes
  rw [xgd_t h]
  simp only [xbp_s, xbd_s, xls, xli, xlt, xjn]
  rw [xu_row s _ _ (show (121 : Int) ≠ 132 by decide)]
theorem len_r {d0 : Int} {f : Int → Int} {p : Nat} {C st : List Int} {dep dig want : Int} (hf : ∀ i : Int, 0 ≤ f i ∧ f i ≤ 255) (h : xrn d0 f p = some (C.map xsc, st, dep, dig, want)) : C.length + st.length ≤ p := by
  have := (xrn_v hf p _ h).1
  simp only [List.length_map] at this
  exact this
theorem map_snoc (C : List Int) (v : Int) : (C ++ [v]).map xsc = C.map xsc ++ [xsc v] := by simp
theorem thing_s {d0 : Int} {f : Int → Int} {E N : Nat} (hf : ∀ i : Int, 0 ≤ f i ∧ f i ≤ 255) (hE : E ≤ 40) (hT : XTn d0 f E N) (hR : XRn d0 f E N) : XTn d0 f E (N + 1) := by
  intro p s C dep dig st hp h hr hn
  have hlen := len_r hf hr
  have hv := xrn_v hf p _ hr
  have hdep : dep ≤ 4 := hv.2.2.2.1
  have hdep0 : ((st.count 40 : Nat) : Int) = dep := hv.2.2.1
  have hF : F_rd (N + 1) (-1) s = F_X11_readsThing_b (F_rd N) s := by rw [F_rd, if_pos rfl]
  rw [hF]
  unfold F_X11_readsThing_b
  by_cases z1 : (p : Int) < E ∧ f p = 45
  · -- minus
    obtain ⟨s1, a1, a2⟩ := tsign_1 (a := 45) h (by decide) z1
    have r1 : xrn d0 f (p + 1) = some (C.map xsc, 126 :: st, dep, dig, 1) := by
      rw [xrn_s hr]
      unfold xpst
      simp only
      rw [if_pos (by decide), if_pos z1.2]
    obtain ⟨v, s2, q, b1, b2, b3, b4⟩ := hT (p + 1) s1 C dep dig (126 :: st) (by omega) a2 r1 (by omega)
    rw [a1]
    simp only [xbd_n]
    rw [if_pos (show xw 1 ≠ 0 by decide), b1]
    simp only [xbd_n]
    rcases b4 with ⟨w1, S', c1, c2, c3, c4, c5, c6⟩ | ⟨w1, K, K0, m, dig', c1, c2, c3, c4, c5, c6⟩
    · rw [List.length_cons] at c6
      rw [codes_f (by omega)]
      simp only [xbp_n]
      rw [xgd_t (by omega)]
      refine ⟨v, _, q, rfl, by omega, b3, Or.inl ⟨w1, S', c1, c2, Xat_o c3 ?_ ?_ ?_, ?_, ?_, ?_⟩⟩
      · rw [xu_slot _ _ _ (show (16 : Int) ≠ 24 by decide), xu_row s2 _ _ (show (121 : Int) ≠ 132 by decide)]
      · rw [xu_slot _ _ _ (show (17 : Int) ≠ 24 by decide), xu_row s2 _ _ (show (121 : Int) ≠ 132 by decide)]
      · rw [xu_row _ _ _ (show (129 : Int) ≠ 121 by decide), xu_row _ _ _ (show (129 : Int) ≠ 132 by decide)]
      · rw [xu_slot _ _ _ (show (15 : Int) ≠ 24 by decide), xu_row s2 _ _ (show (121 : Int) ≠ 132 by decide)]; exact c4
      · rw [xu_same]; omega
      · rw [xu_same]; omega
    · have hlq : (C ++ K).length ≤ q := by
        have := len_r hf c2
        rw [c1]
        simp only [List.length_append, List.length_replicate] at this ⊢
        omega
      obtain ⟨s3, d1, d2⟩ := codes_r (v := 3000) c3 (by omega)
      rw [d1]
      simp only [xbp_n]
      rw [xgd_t (by omega)]
      refine ⟨v, s3, q, rfl, by omega, b3, Or.inr ⟨w1, K ++ [3000], K0, m + 1, dig', ?_, ?_, ?_, by omega, fun d hd => ?_, c6⟩⟩
      · rw [c1, List.append_assoc, rep_c 3000 [] m, List.append_nil]
      · rw [c2, rep_c]
      · rw [← List.append_assoc]; exact d2
      · rw [xvd_a K [3000] d (d + 1) (c5 d hd), xvd_c, if_neg (by decide), if_neg (by omega), if_pos ⟨rfl, by omega⟩]
        rfl
  · obtain ⟨s1, a1, a2⟩ := tsign_0 (a := 45) h (by decide) z1
    rw [a1]
    simp only [xbd_n]
    rw [if_neg (show ¬ xw 0 ≠ 0 by decide), isDigit_r a2]
    simp only [xbp_n]
    by_cases z2 : (p : Int) < E ∧ 48 ≤ f p ∧ f p ≤ 57
    · -- a number
      obtain ⟨j, v, s2, b1, b2, b3, b4, b5, b6, b7⟩ := number_r a2 hr z2
      obtain ⟨s3, d1, d2⟩ := codes_r (v := v) b4 (by omega)
      rw [if_pos z2, if_pos (show xw 1 ≠ 0 by decide), b1]
      simp only [xbd_n]
      rw [d1]
      simp only [xbp_n]
      refine ⟨1, s3, p + j, rfl, by omega, b3, Or.inr ⟨rfl, [v], [v], 0, (j : Int), by simp, ?_, d2, by omega, fun d _ => ?_, b7⟩⟩
      · rw [b5, map_snoc, show xsc v = v from if_pos (by omega)]
        rfl
      · rw [xvd_c, if_pos (by omega)]
        rfl
    · rw [if_neg z2, if_neg (show ¬ xw 0 ≠ 0 by decide)]
      have hlr := xlet_r (f p)
      by_cases z3 : (p : Int) < E ∧ 0 ≤ xlet (f p)
      · -- a letter
        obtain ⟨s2, b1, b2⟩ := (takes_let a2).1 z3
        obtain ⟨s3, d1, d2⟩ := codes_r (v := 1000 + xlet (f p)) b2 (by omega)
        rw [b1]
        simp only [xbd_n]
        rw [xw_sm (x := xlet (f p)) (by omega) (by omega), if_pos z3.2, d1]
        simp only [xbp_n]
        refine ⟨1, s3, p + 1, rfl, by omega, by omega, Or.inr ⟨rfl, [1000 + xlet (f p)], [1000 + xlet (f p)], 0, 3, by simp, ?_, d2, by omega, fun d _ => ?_, fun w => by omega⟩⟩
        · have n40 : ¬ f p = 40 := fun w => by
            rw [w] at z3
            exact absurd z3.2 (by decide)
          rw [xrn_s hr]
          unfold xpst
          simp only
          rw [if_pos (by decide), if_neg (by omega), if_neg n40, if_neg (by omega), if_neg (by omega), map_snoc, show xsc (1000 + xlet (f p)) = 1000 + xlet (f p) from if_pos (by omega)]
          rfl
        · rw [xvd_c, if_pos (by omega)]
          rfl
      · rw [(takes_let a2).2 z3]
        simp only [xbd_n]
        rw [if_neg (show ¬ 0 ≤ xw (-1) by decide)]
        simp only [xjn]
        have e18 : s1 121 18 = dep := a2.2.2.1
        have hstk : ∀ s' : xW, Xrs s' f p E dep C → (f p = 40 → dep = 4 ∨ ¬ (p : Int) < E) → Xfl d0 f E p s' st := fun s' hs' h40 => by
          refine ⟨_, hr, ?_, hs'.1, hs'.2.1, ?_, ?_⟩
          · by_cases y : (p : Int) < E
            · refine Or.inr ⟨by omega, ?_⟩
              unfold xpst
              simp only
              rw [if_pos (by decide), if_neg (fun w => z1 ⟨y, w⟩)]
              by_cases y2 : f p = 40
              · rw [if_pos y2, if_neg (by have := h40 y2; omega)]
              · rw [if_neg y2, if_neg (fun w => z2 ⟨y, w⟩), if_pos (by omega)]
            · exact Or.inl ⟨by omega, Or.inl rfl⟩
          · rw [hs'.2.2.2.1]; omega
          · rw [hs'.2.2.2.1]; omega
        rw [e18, xw_sm (x := dep) (by omega) (by omega)]
        by_cases z4 : dep ≠ 4
        · rw [if_pos z4]
          by_cases z5 : (p : Int) < E ∧ f p = 40
          · -- in brackets
            obtain ⟨s2, b1, b2⟩ := tsign_1 (a := 40) a2 (by decide) z5
            have r1 : xrn d0 f (p + 1) = some (C.map xsc, 40 :: st, dep + 1, dig, 1) := by
              rw [xrn_s hr]
              unfold xpst
              simp only
              rw [if_pos (by decide), if_neg (by omega), if_pos z5.2, if_pos (by omega)]
            have e18' : s2 121 18 = dep := b2.2.2.1
            rw [b1]
            simp only [xbd_n]
            rw [if_neg (show ¬ xw 1 = 0 by decide)]
            simp only [xls, xlt]
            rw [e18']
            obtain ⟨v, s3, q, c1, c2, c3, c4⟩ := hR 0 (p + 1) (xu s2 121 18 (dep + 1)) C (dep + 1) dig (40 :: st) (by decide) (by omega) (Xrs_d b2) r1 (by show xbnd 40 < 0 + 1; decide) (by omega)
            rw [c1]
            simp only [xbd_n]
            rcases c4 with ⟨w1, S', d1, d2, d3, d4, d5, d6⟩ | ⟨w1, K, o', st', dig', d1, d2, d3, d4, d5, d6⟩
            · rw [w1, if_neg (show ¬ xw 0 ≠ 0 by decide)]
              rw [List.length_cons] at d6
              exact ⟨0, s3, q, rfl, by omega, c3, Or.inl ⟨rfl, S', d1, d2, d3, d4, d5, by omega⟩⟩
            · rw [w1, if_pos (show xw 1 ≠ 0 by decide)]
              by_cases z6 : (q : Int) < E ∧ f q = 41
              · obtain ⟨s4, g1, g2⟩ := tsign_1 (a := 41) d3 (by decide) z6
                have e18'' : s4 121 18 = dep + 1 := g2.2.2.1
                rw [g1]
                simp only [xbd_n]
                rw [if_neg (show ¬ xw 1 = 0 by decide)]
                rw [e18'', show dep + 1 - 1 = dep by omega]
                refine ⟨1, _, q + 1, rfl, by omega, by omega, Or.inr ⟨rfl, K, K, 0, 3, by simp, ?_, Xrs_d g2, by omega, d5, fun w => by omega⟩⟩
                rw [xrn_s d1]
                unfold xpst
                simp only
                rw [if_neg (by decide), if_neg (by omega), if_pos z6.2, if_pos (by omega)]
                have d2' : xstl 1 o' st' = ((C ++ K).map xsc, 40 :: st) := d2
                rw [d2', show dep + 1 - 1 = dep by omega]
                rfl
              · obtain ⟨s4, g1, g2⟩ := tsign_0 (a := 41) d3 (by decide) z6
                rw [g1]
                simp only [xbd_n]
                rw [if_pos (show xw 0 = 0 by decide)]
                have hlq : (C ++ K).length + st.length ≤ q := by
                  have h1 := (xrn_v hf q _ d1).1
                  have h2 := (xstl_l (0 + 1) st' o').1
                  rw [d2] at h2
                  simp only [List.length_map, List.length_cons] at h1 h2
                  omega
                refine ⟨0, s4, q, rfl, by omega, c3, Or.inl ⟨rfl, _, d1, ?_, g2.1, g2.2.1, by rw [g2.2.2.2.1]; omega, by rw [g2.2.2.2.1]; omega⟩⟩
                by_cases y : (q : Int) < E
                · exact Or.inr ⟨by omega, Xnx_0 d6 y rfl (Or.inl (fun w => z6 ⟨y, w⟩))⟩
                · exact Or.inl ⟨by omega, Or.inr (by simp only; omega)⟩
          · obtain ⟨s2, b1, b2⟩ := tsign_0 (a := 40) a2 (by decide) z5
            rw [b1]
            simp only [xbd_n]
            rw [if_pos (show xw 0 = 0 by decide)]
            exact ⟨0, s2, p, rfl, Nat.le_refl _, hp, Or.inl ⟨rfl, hstk s2 b2 (fun w => Or.inr (fun u => z5 ⟨u, w⟩))⟩⟩
        · rw [if_neg z4]
          exact ⟨0, s1, p, rfl, Nat.le_refl _, hp, Or.inl ⟨rfl, hstk s1 a2 (fun _ => Or.inl (by omega))⟩⟩
