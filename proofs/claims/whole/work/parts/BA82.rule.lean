/-! rule: ranks -/
theorem rank_len {d0 : Int} {f : Int → Int} {q : Nat} {C K o' st' st : List Int} {dep dig r : Int} (hf : ∀ i : Int, 0 ≤ f i ∧ f i ≤ 255) (d1 : xrn d0 f q = some (o', st', dep, dig, 0)) (d2 : xstl (r + 1) o' st' = ((C ++ K).map xsc, st)) : (C ++ K).length + st.length ≤ q := by
  have h1 := (xrn_v hf q _ d1).1
  have h2 := (xstl_l (r + 1) st' o').1
  rw [d2] at h2
  simp only [List.length_map] at h1 h2
  omega
/-- one turn: the sign is of this rank -/
theorem rank_op {d0 : Int} {f : Int → Int} {E N p1 fu : Nat} {s1 : xW} {C K1 o1 st1 st : List Int} {dep dig1 r : Int} {k : Int → xW → Option (Int × xW)} (hf : ∀ i : Int, 0 ≤ f i ∧ f i ≤ 255) (hE : E ≤ 40) (hR : XRn d0 f E N) (hr : r = 0 ∨ r = 1 ∨ r = 2) (hd : xrn d0 f p1 = some (o1, st1, dep, dig1, 0)) (hx : xstl (max (r + 1) 2) o1 st1 = ((C ++ K1).map xsc, st)) (hs : Xrs s1 f p1 E dep (C ++ K1)) (hh : xbnd (st.headD 0) < r + 1) (hz : (p1 : Int) < E ∧ xbnd (f p1) = r + 1) (hn : (E : Int) - p1 - 1 + 6 * (4 - dep) + (5 - (r + 1)) ≤ N) (hv : ∀ d : Int, 0 ≤ d → xvd K1 d = some (d + 1)) :
    (∃ s' q, F_X11_readsRank_24 (F_rd N) r (fu + 1) 1 s1 k = some (0, s') ∧ p1 ≤ q ∧ q ≤ E ∧ Xfl d0 f E q s' st) ∨ (∃ s' q K o' st' dig', F_X11_readsRank_24 (F_rd N) r (fu + 1) 1 s1 k = F_X11_readsRank_24 (F_rd N) r fu (if 0 < r then 1 else 0) s' k ∧ p1 < q ∧ q ≤ E ∧ xrn d0 f q = some (o', st', dep, dig', 0) ∧ xstl (r + 1) o' st' = ((C ++ K).map xsc, st) ∧ Xrs s' f q E dep (C ++ K) ∧ (∀ d : Int, 0 ≤ d → xvd K d = some (d + 1)) ∧ Xnx f E q (r + 1) (o', st', dep, dig', 0) ∧ (r = 0 → xbnd ((xstl 2 o' st').2.headD 0) = 1)) := by
  obtain ⟨i0, s2, a1, a2, a3, a4, a5⟩ := (takes_op hs hr).1 hz
  have hb1 : ¬ (48 ≤ f p1 ∧ f p1 ≤ 57) ∧ f p1 ≠ 41 ∧ f p1 ≠ 126 := by
    have h2 := hz.2
    unfold xbnd at h2
    refine ⟨fun w => ?_, fun w => ?_, fun w => ?_⟩
    · by_cases y1 : f p1 = 42 ∨ f p1 = 47
      · omega
      · by_cases y2 : f p1 = 43 ∨ f p1 = 45
        · omega
        · by_cases y3 : f p1 = 60 ∨ f p1 = 61 ∨ f p1 = 62
          · omega
          · by_cases y4 : f p1 = 126
            · omega
            · rw [if_neg y1, if_neg y2, if_neg y3, if_neg y4] at h2; omega
    · rw [w, if_neg (by decide), if_neg (by decide), if_neg (by decide), if_neg (by decide)] at h2; omega
    · rw [w, if_neg (by decide), if_neg (by decide), if_neg (by decide), if_pos rfl] at h2; omega
  have r1 : xrn d0 f (p1 + 1) = some ((C ++ K1).map xsc, f p1 :: st, dep, dig1, 1) := by
    rw [xrn_s hd]
    unfold xpst
    simp only
    rw [if_neg (by decide), if_neg hb1.1, if_neg hb1.2.1, if_neg (by omega), hz.2, hx]
    simp only
    rw [if_neg (fun w => by omega)]
  obtain ⟨v, s3, q, b1, b2, b3, b4⟩ := hR (r + 1) (p1 + 1) s2 (C ++ K1) dep dig1 (f p1 :: st) (by omega) (by omega) a4 r1 (by show xbnd (f p1) < r + 1 + 1; omega) (by omega)
  have hF : ∀ (v : Int) (s3 : xW), F_rd N (r + 1) s2 = some (v, s3) → F_X11_readsRank_24 (F_rd N) r (fu + 1) 1 s1 k = (if (xw v) = 0 then some (0, s3) else xbp (F_X11_codes (xopc (f p1)) s3) fun s28 => F_X11_readsRank_24 (F_rd N) r fu (if 0 < r then 1 else 0) s28 k) := fun v s3 e => by
    rw [F_X11_readsRank_24, if_pos (show xw 1 ≠ 0 by decide)]
    simp only [xjn]
    rcases hr with rfl | rfl | rfl
    · have a1' : F_X11_takesOf [60, 62, 61] s1 = some (i0, s2) := a1
      have a5' : (2000 + i0) + 0 = xopc (f p1) := a5
      rw [if_pos (show xw 0 = 0 by decide), a1']
      simp only [xbp_s, xbd_s, xls, xli, xlt, xjn]
      rw [xw_sm (x := i0) (by omega) (by omega), if_neg (by omega), e]
      simp only [xbp_s, xbd_s, xls, xli, xlt, xjn]
      rw [if_pos (show xw 0 = 0 by decide), a5', if_neg (show ¬ 0 < xw 0 by decide), if_neg (show ¬ (0 : Int) < 0 by decide)]
    · have a1' : F_X11_takesOf [43, 45] s1 = some (i0, s2) := a1
      have a5' : (2000 + i0) + 3 = xopc (f p1) := a5
      rw [if_neg (show ¬ xw 1 = 0 by decide), if_pos (show xw 1 = 1 by decide), a1']
      simp only [xbp_s, xbd_s, xls, xli, xlt, xjn]
      rw [xw_sm (x := i0) (by omega) (by omega), if_neg (by omega), e]
      simp only [xbp_s, xbd_s, xls, xli, xlt, xjn]
      rw [if_neg (show ¬ xw 1 = 0 by decide), if_pos (show xw 1 = 1 by decide), a5', if_pos (show 0 < xw 1 by decide), if_pos (show (0 : Int) < 1 by decide)]
    · have a1' : F_X11_takesOf [42, 47] s1 = some (i0, s2) := a1
      have a5' : (2000 + i0) + 5 = xopc (f p1) := a5
      rw [if_neg (show ¬ xw 2 = 0 by decide), if_neg (show ¬ xw 2 = 1 by decide), a1']
      simp only [xbp_s, xbd_s, xls, xli, xlt, xjn]
      rw [xw_sm (x := i0) (by omega) (by omega), if_neg (by omega), e]
      simp only [xbp_s, xbd_s, xls, xli, xlt, xjn]
      rw [if_neg (show ¬ xw 2 = 0 by decide), if_neg (show ¬ xw 2 = 1 by decide), a5', if_pos (show 0 < xw 2 by decide), if_pos (show (0 : Int) < 2 by decide)]
  rw [hF v s3 b1]
  rcases b4 with ⟨w1, S', c1, c2, c3, c4, c5, c6⟩ | ⟨w1, K2, o2, st2, dig2, c1, c2, c3, c4, c5, c6⟩
  · rw [w1, if_pos (show xw 0 = 0 by decide)]
    rw [List.length_cons] at c6
    exact Or.inl ⟨s3, q, rfl, by omega, b3, S', c1, c2, c3, c4, c5, by omega⟩
  · have hop := xopc_s (ch := f p1) (by omega)
    have hlq := rank_len hf c1 c2
    rw [List.length_cons] at hlq
    obtain ⟨s4, e1, e2⟩ := codes_r (v := xopc (f p1)) c3 (by omega)
    rw [w1, if_neg (show ¬ xw 1 = 0 by decide), e1]
    simp only [xbp_n]
    refine Or.inr ⟨s4, q, K1 ++ K2 ++ [xopc (f p1)], o2, st2, dig2, rfl, by omega, b3, c1, ?_, ?_, fun d hd0 => ?_, c6, fun hr0 => ?_⟩
    · have hm := xstl_m (show r + 1 ≤ r + 1 + 1 by omega) st2 o2
      rw [c2] at hm
      rw [← hm]
      simp only
      rw [xstl_c, if_pos (by omega), xstl_h hh, ← hop.1, ← List.append_assoc C, ← List.append_assoc C, map_snoc]
    · rw [← List.append_assoc, ← List.append_assoc]
      exact e2
    · rw [List.append_assoc, xvd_a K1 _ d (d + 1) (hv d hd0), xvd_a K2 _ (d + 1) (d + 1 + 1) (c5 (d + 1) (by omega)), xvd_c, if_neg (by omega), if_pos ⟨hop.2, by omega⟩, show d + 1 + 1 - 1 = d + 1 by omega]
      rfl
    · subst hr0
      have c2' : xstl 2 o2 st2 = ((C ++ K1 ++ K2).map xsc, f p1 :: st) := c2
      rw [c2']
      exact hz.2
theorem rank_loop {d0 : Int} {f : Int → Int} {E N : Nat} {C st : List Int} {dep r : Int} {k : Int → xW → Option (Int × xW)} (hf : ∀ i : Int, 0 ≤ f i ∧ f i ≤ 255) (hE : E ≤ 40) (hR : XRn d0 f E N) (hr : r = 1 ∨ r = 2) (hh : xbnd (st.headD 0) < r + 1) (hdep : dep ≤ 4) :
    ∀ (j p1 fu : Nat) (s1 : xW) (K1 o1 st1 : List Int) (dig1 : Int), E ≤ p1 + j → j < fu → p1 ≤ E → xrn d0 f p1 = some (o1, st1, dep, dig1, 0) → xstl (r + 1) o1 st1 = ((C ++ K1).map xsc, st) → Xrs s1 f p1 E dep (C ++ K1) → Xnx f E p1 (r + 1) (o1, st1, dep, dig1, 0) → (E : Int) - p1 + 6 * (4 - dep) + (5 - (r + 1)) ≤ N → (∀ d : Int, 0 ≤ d → xvd K1 d = some (d + 1)) →
    ∃ v s' q, F_X11_readsRank_24 (F_rd N) r fu 1 s1 k = some (v, s') ∧ p1 ≤ q ∧ q ≤ E ∧ ((v = 0 ∧ Xfl d0 f E q s' st) ∨ (v = 1 ∧ ∃ (K o' st' : List Int) (dig' : Int), xrn d0 f q = some (o', st', dep, dig', 0) ∧ xstl (r + 1) o' st' = ((C ++ K).map xsc, st) ∧ Xrs s' f q E dep (C ++ K) ∧ (∀ d : Int, 0 ≤ d → xvd K d = some (d + 1)) ∧ Xnx f E q r (o', st', dep, dig', 0))) := by
  have stop : ∀ (p1 fu : Nat) (s1 : xW) (K1 o1 st1 : List Int) (dig1 : Int), p1 ≤ E → xrn d0 f p1 = some (o1, st1, dep, dig1, 0) → xstl (r + 1) o1 st1 = ((C ++ K1).map xsc, st) → Xrs s1 f p1 E dep (C ++ K1) → Xnx f E p1 (r + 1) (o1, st1, dep, dig1, 0) → (∀ d : Int, 0 ≤ d → xvd K1 d = some (d + 1)) → ¬ ((p1 : Int) < E ∧ xbnd (f p1) = r + 1) → ∃ v s' q, F_X11_readsRank_24 (F_rd N) r (fu + 1) 1 s1 k = some (v, s') ∧ p1 ≤ q ∧ q ≤ E ∧ ((v = 0 ∧ Xfl d0 f E q s' st) ∨ (v = 1 ∧ ∃ (K o' st' : List Int) (dig' : Int), xrn d0 f q = some (o', st', dep, dig', 0) ∧ xstl (r + 1) o' st' = ((C ++ K).map xsc, st) ∧ Xrs s' f q E dep (C ++ K) ∧ (∀ d : Int, 0 ≤ d → xvd K d = some (d + 1)) ∧ Xnx f E q r (o', st', dep, dig', 0))) := by
    intro p1 fu s1 K1 o1 st1 dig1 hp hd hx hs hnx hv hz
    have ht := (takes_op (r := r) hs (by omega)).2 hz
    refine ⟨1, s1, p1, ?_, Nat.le_refl _, hp, Or.inr ⟨rfl, K1, o1, st1, dig1, hd, hx, hs, hv, fun hq => ?_⟩⟩
    · rw [F_X11_readsRank_24, if_pos (show xw 1 ≠ 0 by decide)]
      simp only [xjn]
      rcases hr with rfl | rfl
      · have ht' : F_X11_takesOf [43, 45] s1 = some (-1, s1) := ht
        rw [if_neg (show ¬ xw 1 = 0 by decide), if_pos (show xw 1 = 1 by decide), ht']
        simp only [xbp_s, xbd_s, xls, xli, xlt, xjn]
        rw [if_pos (show xw (-1) < 0 by decide)]
      · have ht' : F_X11_takesOf [42, 47] s1 = some (-1, s1) := ht
        rw [if_neg (show ¬ xw 2 = 0 by decide), if_neg (show ¬ xw 2 = 1 by decide), ht']
        simp only [xbp_s, xbd_s, xls, xli, xlt, xjn]
        rw [if_pos (show xw (-1) < 0 by decide)]
    · obtain ⟨n1, n2, n3⟩ := hnx hq
      exact ⟨n1, fun w => by omega, fun w => by omega⟩
  intro j
  induction j with
  | zero =>
    intro p1 fu s1 K1 o1 st1 dig1 hj hfu hp hd hx hs hnx hn hv
    obtain ⟨fu, rfl⟩ : ∃ g, fu = g + 1 := ⟨fu - 1, by omega⟩
    exact stop p1 fu s1 K1 o1 st1 dig1 hp hd hx hs hnx hv (fun w => by omega)
  | succ j ih =>
    intro p1 fu s1 K1 o1 st1 dig1 hj hfu hp hd hx hs hnx hn hv
    obtain ⟨fu, rfl⟩ : ∃ g, fu = g + 1 := ⟨fu - 1, by omega⟩
    by_cases hz : (p1 : Int) < E ∧ xbnd (f p1) = r + 1
    · rcases rank_op (fu := fu) (k := k) hf hE hR (by omega) hd (by rw [show max (r + 1) 2 = r + 1 by omega]; exact hx) hs hh hz (by omega) hv with ⟨s', q, u1, u2, u3, u4⟩ | ⟨s', q, K, o', st', dig', u1, u2, u3, u4, u5, u6, u7, u8, u9⟩
      · exact ⟨0, s', q, u1, u2, u3, Or.inl ⟨rfl, u4⟩⟩
      · rw [if_pos (by omega)] at u1
        obtain ⟨v, s2, q2, g1, g2, g3, g4⟩ := ih q fu s' K o' st' dig' (by omega) (by omega) u3 u4 u5 u6 u8 (by omega) u7
        exact ⟨v, s2, q2, by rw [u1]; exact g1, by omega, g3, g4⟩
    · exact stop p1 fu s1 K1 o1 st1 dig1 hp hd hx hs hnx hv hz
theorem rank_s {d0 : Int} {f : Int → Int} {E N : Nat} (hf : ∀ i : Int, 0 ≤ f i ∧ f i ≤ 255) (hE : E ≤ 40) (hT : XTn d0 f E N) (hR : XRn d0 f E N) : XRn d0 f E (N + 1) := by
  intro r p s C dep dig st hr hp h hd hh hn
  have hN := xN_ge
  have hv := xrn_v hf p _ hd
  have hdep : dep ≤ 4 := hv.2.2.2.1
  have hF : F_rd (N + 1) r s = F_X11_readsRank_b (F_rd N) r s := by rw [F_rd, if_neg (by omega)]
  rw [hF]
  unfold F_X11_readsRank_b
  rw [xw_sm (x := r) (by omega) (by omega)]
  by_cases z : r = 3
  · subst z
    obtain ⟨v, s1, q, a1, a2, a3, a4⟩ := hT p s C dep dig st hp h hd (by omega)
    rw [if_pos rfl, a1]
    simp only [xbd_n]
    rcases a4 with ⟨w1, w2⟩ | ⟨w1, K, K0, m, dig', c1, c2, c3, c4, c5, c6⟩
    · rw [xgd_t (by omega)]
      exact ⟨v, s1, q, rfl, a2, a3, Or.inl ⟨w1, w2⟩⟩
    · rw [xgd_t (by omega)]
      refine ⟨v, s1, q, rfl, a2, a3, Or.inr ⟨w1, K, _, _, dig', c2, ?_, c3, c4, c5, fun hq => ⟨fun w => c6 ⟨hq, w⟩, fun w => by omega, fun w => by omega⟩⟩⟩
      rw [xstl_r (by decide), xstl_h hh, c1, ← List.append_assoc, List.map_append (l₁ := C ++ K0), List.map_replicate]
      rfl
  · rw [if_neg z]
    obtain ⟨v, s1, p1, a1, a2, a3, a4⟩ := hR (r + 1) p s C dep dig st (by omega) hp h hd (by omega) (by omega)
    rw [a1]
    simp only [xbd_n]
    rcases a4 with ⟨w1, w2⟩ | ⟨w1, K1, o1, st1, dig1, c1, c2, c3, c4, c5, c6⟩
    · rw [w1, if_pos (show xw 0 = 0 by decide)]
      exact ⟨0, s1, p1, rfl, a2, a3, Or.inl ⟨rfl, w2⟩⟩
    · rw [w1, if_neg (show ¬ xw 1 = 0 by decide)]
      have hx1 : xstl (r + 1) o1 st1 = ((C ++ K1).map xsc, st) := by
        have hm := xstl_m (show r + 1 ≤ r + 1 + 1 by omega) st1 o1
        rw [c2] at hm
        rw [← hm]
        exact xstl_h hh
      by_cases z0 : r = 0
      · subst z0
        obtain ⟨g, hg⟩ : ∃ g, xN = g + 1 + 1 := ⟨xN - 2, by omega⟩
        by_cases hz : (p1 : Int) < E ∧ xbnd (f p1) = 0 + 1
        · rcases rank_op (fu := g + 1) (k := fun (l2_37 : Int) (s38 : xW) => some (1, s38)) hf hE hR (Or.inl rfl) c1 c2 c3 hh hz (by omega) c5 with ⟨s', q, u1, u2, u3, u4⟩ | ⟨s', q, K, o', st', dig', u1, u2, u3, u4, u5, u6, u7, u8, u9⟩
          · refine ⟨0, s', q, by rw [hg]; exact u1, by omega, u3, Or.inl ⟨rfl, u4⟩⟩
          · have u0 : F_X11_readsRank_24 (F_rd N) 0 (g + 1) 0 s' (fun (l2_37 : Int) (s38 : xW) => some (1, s38)) = some (1, s') := by
              rw [F_X11_readsRank_24, if_neg (show ¬ xw 0 ≠ 0 by decide)]
            rw [if_neg (show ¬ (0 : Int) < 0 by decide), u0] at u1
            refine ⟨1, s', q, by rw [hg]; exact u1, by omega, u3, Or.inr ⟨rfl, K, o', st', dig', u4, u5, u6, by omega, u7, fun hq => ?_⟩⟩
            obtain ⟨n1, n2, n3⟩ := u8 hq
            exact ⟨n1, fun w => by omega, fun _ _ => u9 rfl⟩
        · have ht := (takes_op (r := 0) c3 (Or.inl rfl)).2 hz
          refine ⟨1, s1, p1, ?_, a2, a3, Or.inr ⟨rfl, K1, o1, st1, dig1, c1, hx1, c3, c4, c5, fun hq => ?_⟩⟩
          · have ht' : F_X11_takesOf [60, 62, 61] s1 = some (-1, s1) := ht
            rw [hg, F_X11_readsRank_24, if_pos (show xw 1 ≠ 0 by decide)]
            simp only [xjn]
            rw [if_pos (show xw 0 = 0 by decide), ht']
            simp only [xbp_s, xbd_s, xls, xli, xlt, xjn]
            rw [if_pos (show xw (-1) < 0 by decide)]
          · obtain ⟨n1, n2, n3⟩ := c6 hq
            exact ⟨n1, fun w => by omega, fun _ w => absurd ⟨hq, w⟩ hz⟩
      · obtain ⟨v2, s2, q, g1, g2, g3, g4⟩ := rank_loop (k := fun (l2_37 : Int) (s38 : xW) => some (1, s38)) hf hE hR (show r = 1 ∨ r = 2 by omega) hh hdep E p1 xN s1 K1 o1 st1 dig1 (by omega) (by omega) a3 c1 hx1 c3 c6 (by omega) c5
        refine ⟨v2, s2, q, g1, by omega, g3, ?_⟩
        rcases g4 with ⟨y1, y2⟩ | ⟨y1, K, o', st', dig', y2, y3, y4, y5, y6⟩
        · exact Or.inl ⟨y1, y2⟩
        · exact Or.inr ⟨y1, K, o', st', dig', y2, y3, y4, by omega, y5, y6⟩
theorem rd_all {d0 : Int} {f : Int → Int} {E : Nat} (hf : ∀ i : Int, 0 ≤ f i ∧ f i ≤ 255) (hE : E ≤ 40) : ∀ N : Nat, XTn d0 f E N ∧ XRn d0 f E N
  | 0 => by
    refine ⟨fun p s C dep dig st hp h hd hn => ?_, fun r p s C dep dig st hr hp h hd hh hn => ?_⟩
    · have hdep : dep ≤ 4 := (xrn_v hf p _ hd).2.2.2.1
      omega
    · have hdep : dep ≤ 4 := (xrn_v hf p _ hd).2.2.2.1
      omega
  | N + 1 => by
    obtain ⟨h1, h2⟩ := rd_all hf hE N
    exact ⟨thing_s hf hE h1 h2, rank_s hf hE h1 h2⟩
