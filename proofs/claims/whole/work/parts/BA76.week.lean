/-! week -/
theorem week_do {B : Int} {A : Nat} {f : Int → Int} {s0 t0 : xW} {KC : Int → Int → Int → xW → Option (Int × xW)} {KM : Int → xW → Option (Int × xW)} (hB : 0 ≤ B) (hB1 : B + 270 ≤ 1000300) (hA : A ≤ 30) (ht : 0 ≤ s0 1 1 ∧ s0 1 1 ≤ 60) (hb : ∀ i : Int, 0 ≤ s0 2 i ∧ s0 2 i ≤ 255) (hf : s0 2 = f) (hx : Xacts t0 f A) (hp : xps f A = s0 1 1) (e36 : t0 121 36 = A) :
    ∀ (j k fu gu : Nat) (s t : xW), k + j = A → j + 1 < fu → j < gu → XRr (B + 9 * (k : Int)) s t → Xkc s0 s t0 t → ∃ (k' : Nat) (fl l : Int) (s' t' : xW), F_X10_week_39 fu (k : Int) 0 (xps f k) s KC = KC (k' : Int) fl l s' ∧ F_X11_week_64 gu (k : Int) t KM = KM (k' : Int) t' ∧ k' ≤ A ∧ XRr (B + 270) s' t' ∧ Xkc s0 s' t0 t' ∧ ((fl = 0 ∧ k' = A) ∨ (fl = 1 ∧ k' < A)) := by
  intro j
  induction j with
  | zero =>
    intro k fu gu s t hk hfu hgu h hc
    obtain ⟨fu, rfl⟩ : ∃ g, fu = g + 1 := ⟨fu - 1, by omega⟩
    obtain ⟨gu, rfl⟩ : ∃ g, gu = g + 1 := ⟨gu - 1, by omega⟩
    have ek : k = A := by omega
    obtain ⟨c1, c2, c3, c4, c5, c6, c7, c8⟩ := id hc
    refine ⟨A, 0, xps f A, s, t, ?_, ?_, Nat.le_refl _, XRr_mono (by omega) h, hc, Or.inl ⟨rfl, rfl⟩⟩
    · rw [ek, F_X10_week_39, c5, hp, if_neg (Int.lt_irrefl _)]
    · rw [ek, F_X11_week_64, c8 36 (by decide) (by decide), e36, if_neg (Int.lt_irrefl _)]
  | succ j ih =>
    intro k fu gu s t hk hfu hgu h hc
    obtain ⟨fu, rfl⟩ : ∃ g, fu = g + 1 + 1 := ⟨fu - 2, by omega⟩
    obtain ⟨gu, rfl⟩ : ∃ g, gu = g + 1 := ⟨gu - 1, by omega⟩
    obtain ⟨c1, c2, c3, c4, c5, c6, c7, c8⟩ := id hc
    have hxt : Xacts t f (k + 1) := fun i hi => by
      have q := hx i (by omega)
      rw [c7 137 (by decide) (by decide), c7 138 (by decide) (by decide), c7 139 (by decide) (by decide), c7 140 (by decide) (by decide)]
      exact q
    have hp1 := xps_r hx k (by omega)
    have hp2 := xps_m hx j (k + 1) (by omega)
    rw [show k + 1 + j = A by omega, hp] at hp2
    have hps := xps_s f k
    have hdo := xdo_r (f (xps f k))
    obtain ⟨r, s1, t1, u1, u2, u3, u4, u5⟩ := act_step (k := k) (f := f) (s := s) (t := t) (show 0 ≤ B + 9 * (k : Int) by omega) (by omega) (by rw [c5]; exact ht) (by rw [c6]; exact hb) (by rw [c6]; exact hf) (by omega) hxt ⟨by omega, by rw [c5]; omega⟩ h
    obtain ⟨d1, d2, d3, d4, d5, d6, d7, d8⟩ := id u5
    have hc1 : Xkc s0 s1 t0 t1 := ⟨fun c x y => by rw [d1 c x y, c1 c x y], by rw [d2, c2], by rw [d3, c3], by rw [d4, c4], by rw [d5, c5], by rw [d6, c6], fun c x y => by rw [d7 c x y, c7 c x y], fun q x y => by rw [d8 q x y, c8 q x y]⟩
    have hbp : 0 ≤ f (xps f k) ∧ f (xps f k) ≤ 255 := by rw [← hf]; exact hb _
    have hat : F_X8_at (xps f k) s1 = some (f (xps f k)) := by
      rw [at_c (by rw [d5, c5]; omega) (by rw [d6, c6]; exact hb) (by omega), if_pos (by rw [d5, c5]; omega), d6, c6, hf]
    have eC : F_X10_week_39 (fu + 1 + 1) (k : Int) 0 (xps f k) s KC = F_X10_week_39 (fu + 1) ((k : Int) + (if (if r < 0 then (1 : Int) else 0) ≠ 0 then 0 else 1)) (if r < 0 then 1 else 0) (xps f (k + 1)) s1 KC := by
      rw [F_X10_week_39, c5, xw_sm (x := xps f k) (by omega) (by omega), xw_sm (x := s0 1 1) (by omega) (by omega), if_pos (by omega), if_pos (show xw 0 = 0 by decide), u1]
      simp only [xbp_s, xbd_s, xls, xli, xlt, xjn]
      rw [xw_id u3, hat]
      simp only [xbp_s, xbd_s, xls, xli, xlt, xjn]
      rw [digitsOf_c hbp]
      simp only [xbp_s, xbd_s, xls, xli, xlt, xjn]
      rw [xif01, show xps f k + (1 + xdo (f (xps f k))) = xps f (k + 1) by omega]
    have eM : F_X11_week_64 (gu + 1) (k : Int) t KM = if 0 ≤ r then F_X11_week_64 gu ((k : Int) + 1) t1 KM else KM (k : Int) t1 := by
      rw [F_X11_week_64, c8 36 (by decide) (by decide), e36, xw_sm (x := (k : Int)) (by omega) (by omega), xw_sm (x := (A : Int)) (by omega) (by omega), if_pos (by omega), u2]
      simp only [xbp_s, xbd_s, xls, xli, xlt, xjn]
      rw [xif01]
      by_cases z : 0 ≤ r
      · rw [if_pos z, if_pos (show (1 : Int) ≠ 0 by decide), if_pos z]
      · rw [if_neg z, if_neg (show ¬ (0 : Int) ≠ 0 by decide), if_neg z]
    rw [eC, eM]
    by_cases z : 0 ≤ r
    · rw [if_neg (show ¬ r < 0 by omega), if_neg (show ¬ (0 : Int) ≠ 0 by decide), if_pos z, show (k : Int) + 1 = ((k + 1 : Nat) : Int) by omega]
      exact ih (k + 1) (fu + 1) gu s1 t1 (by omega) (by omega) (by omega) (by rw [show B + 9 * ((k + 1 : Nat) : Int) = B + 9 * (k : Int) + 9 by omega]; exact u4) hc1
    · rw [if_pos (show r < 0 by omega), if_pos (show (1 : Int) ≠ 0 by decide), if_neg z, Int.add_zero]
      refine ⟨k, 1, xps f (k + 1), s1, t1, ?_, rfl, by omega, XRr_mono (by omega) u4, hc1, Or.inr ⟨rfl, by omega⟩⟩
      rw [F_X10_week_39, d5, c5, xw_sm (x := xps f (k + 1)) (by omega) (by omega), xw_sm (x := s0 1 1) (by omega) (by omega)]
      by_cases w : xps f (k + 1) < s0 1 1
      · rw [if_pos w, if_neg (show ¬ xw 1 = 0 by decide)]
      · rw [if_neg w]
theorem XRr_c1 {B : Int} {σ σ1 τ : xW} (h : XRr B σ τ) (e : ∀ c, c ≠ 1 → c ≠ 3 → c ≠ 4 → σ1 c = σ c) : XRr B σ1 τ := by
  have hf : xfm [(1, -1), (3, -1), (4, -1)] σ σ1 := fun c k w1 w2 => by
    rw [e c (fun z => w2 (by rw [z]; decide)) (fun z => w2 (by rw [z]; decide)) (fun z => w2 (by rw [z]; decide))]
  obtain ⟨h3, h4, h5, h6, h7, h8, h9, h10⟩ := h
  exact ⟨Xsky_cW hf (by decide) h3, Xrule_cW hf (by decide) h4, Xplan_cW hf (by decide) h5, Xtown_cW hf (by decide) h6, Xpast_cW hf (by decide) h7, Xkept_cW hf (by decide) h8, Xrep_cW hf (by decide) h9, Xforts_cW hf (by decide) h10⟩
theorem op_week : XO F_X10_week F_X11_week := by
  intro B σ τ hB hB1 hR
  have hN := xN_ge
  obtain ⟨t1, t2, t3, t4⟩ := id hR.1
  obtain ⟨E, hE⟩ : ∃ E : Nat, (E : Int) = min (σ 1 1) 60 := ⟨(min (σ 1 1) 60).toNat, by omega⟩
  obtain ⟨c, st, a1, a2, a3, a4⟩ := misfit_c t1 t2 hE
  obtain ⟨b1, b2⟩ := begin_at (t := xu τ 121 0 0) (f := σ 2) (lim := 60) t1 (by decide) (by rw [xu_slot _ _ _ (show (15 : Int) ≠ 0 by decide)]; exact t3) (fun x x1 x2 => ⟨by rw [xu_row _ _ _ (show (129 : Int) ≠ 121 by decide)]; exact t4 x x1 x2, t2 x⟩)
  obtain ⟨s4, hs4⟩ : ∃ s4, s4 = xu (xu (xu (xu (xu (xu τ 121 0 0) 121 15 0) 121 16 0) 121 18 0) 121 17 (min (σ 1 1) 60)) 121 36 0 := ⟨_, rfl⟩
  rw [← hE] at b2
  have h4' : Xat s4 (σ 2) 0 (E : Int) := Xat_o b2 (by rw [hs4, hE, xu_slot _ _ _ (show (16 : Int) ≠ 36 by decide)]) (by rw [hs4, hE, xu_slot _ _ _ (show (17 : Int) ≠ 36 by decide)]) (by rw [hs4, hE, xu_row _ _ _ (show (129 : Int) ≠ 121 by decide)])
  have e15' : s4 121 15 = 0 := by rw [hs4]; simp [xu]
  obtain ⟨KK, hKK⟩ : ∃ KK : Int → xW → Option (Int × xW), KK = fun (l4_34 : Int) (s35 : xW) =>
      xls (xu s35 121 1 0) fun s36 =>
      xli (if (xw l4_34) < (xw (s36 121 36)) then 1 else 0) fun v39 =>
      xbp (F_X11_flag v39 s36) fun r43 =>
      xbp (F_X11_enters (xw r43) s36) fun s45 =>
      xbp (F_X11_enters (xw (s45 127 37)) s45) fun s47 =>
      xjn (fun (t48 : Int) (s49 : xW) =>
        some (t48, s49)
      ) fun j50 =>
      if 0 < (xw l4_34) then
        xbd (F_X11_adds l4_34 s47) fun r55 s56 =>
        j50 r55 s56
      else
        j50 0 s47 := ⟨_, rfl⟩
  obtain ⟨ok, t5, c', st', g1, g2, g3, g4, g5, g6, g8, g7⟩ := alines (f := σ 2) (E := E) (n := σ 1 1) (K := fun (l2_18 : Int) (s19 : xW) =>
    xbp (F_X11_faultOf (σ 1 1) 60 l2_18 s19) fun r21 =>
    if (xw r21) < 0 then
      some (r21, s19)
    else
      xbp (F_X11_putsBy s19) fun s24 =>
      F_X11_week_64 xN 0 s24 KK) (by omega) E 0 xN 0 0 s4 (by omega) (by omega) h4' rfl (by rw [hs4, xu_same]; rfl) rfl (fun j hj => by omega)
  obtain ⟨ec, es⟩ := xwd_u a2 a3 g4 g5 a1 g2
  rw [← ec] at g3 g7
  rw [← es] at g7
  have hfau := fault_m (n := σ 1 1) (lim := 60) (ok := ok) g3 t1 (by decide) hE (by rcases g7 with w | w; exact Or.inr w.1; exact Or.inl w.1)
  have hM : F_X11_week τ = (if (xw (if ok = 1 ∧ (c : Int) = σ 1 1 ∧ σ 1 1 ≤ 60 then 0 else -1 - (c : Int))) < 0 then some ((if ok = 1 ∧ (c : Int) = σ 1 1 ∧ σ 1 1 ≤ 60 then 0 else -1 - (c : Int)), t5) else xbp (F_X11_putsBy t5) fun s24 => F_X11_week_64 xN 0 s24 KK) := by
    unfold F_X11_week
    simp only [xls, xlt]
    rw [b1]
    simp only [xbd_n]
    rw [← hs4]
    rw [hKK] at g1
    refine Eq.trans g1 ?_
    rw [hfau, hKK]
    rfl
  have e15 : t5 121 15 = 0 := by rw [g6 15 (by decide) (by decide)]; exact e15'
  have hfM0 : xfm ([(121, 15), (121, 16), (121, 18), (121, 17), (121, 36)] ++ W_X11_readsAct) (xu τ 121 0 0) t5 := fun x k w1 w2 => by
    rw [g8 x k (fun w => w1 (List.mem_append_right _ w)) (fun w => w2 (List.mem_append_right _ w)), hs4]
    have n1 : ∀ j : Int, (121, j) ∈ [((121 : Int), (15 : Int)), (121, 16), (121, 18), (121, 17), (121, 36)] → ¬ (x = 121 ∧ k = j) := fun j hj w => w1 (List.mem_append_left _ (by rw [w.1, w.2]; exact hj))
    have q1 := n1 36 (by decide)
    have q2 := n1 17 (by decide)
    have q3 := n1 18 (by decide)
    have q4 := n1 16 (by decide)
    have q5 := n1 15 (by decide)
    unfold xu
    rw [if_neg q1, if_neg q2, if_neg q3, if_neg q4, if_neg q5]
  by_cases z : (c : Int) = σ 1 1 ∧ st.2 = 0
  · -- the week is done
    rw [if_pos z] at a4
    rcases g7 with ⟨w1, w2, w3, A, w4, w5, w6⟩ | ⟨w1, w2⟩
    · have hyes : ok = 1 ∧ (c : Int) = σ 1 1 ∧ σ 1 1 ≤ 60 := ⟨w1, z.1, by omega⟩
      rw [if_pos hyes, if_neg (show ¬ xw 0 < 0 by decide)] at hM
      have hA2 := xps_r w5 A (Nat.le_refl _)
      have hX5 : XRr B σ t5 := by
        have hfC : xfm [] σ σ := xfm_rf
        have hfM := hfM0
        obtain ⟨h1, h2, h3, h4, h5, h6, h7, h8, h9, h10⟩ := XR_thr hR
        refine ⟨Xsky_cW hfC (by decide +kernel) (Xsky_mW hfM (by decide +kernel) h3), Xrule_cW hfC (by decide +kernel) (Xrule_mW hfM (by decide +kernel) h4), Xplan_cW hfC (by decide +kernel) (Xplan_mW hfM (by decide +kernel) h5), Xtown_cW hfC (by decide +kernel) (Xtown_mW hfM (by decide +kernel) h6), Xpast_cW hfC (by decide +kernel) (Xpast_mW hfM (by decide +kernel) h7), Xkept_cW hfC (by decide +kernel) (Xkept_mW hfM (by decide +kernel) h8), Xrep_cW hfC (by decide +kernel) (Xrep_mW hfM (by decide +kernel) h9), Xforts_cW hfC (by decide +kernel) h10⟩
      obtain ⟨σ1, τ1, n1, n2, n3, n4, n5, n6⟩ := note_r hX5
      have k1 : σ1 1 = σ 1 := n5 1 (by omega)
      have k2 : σ1 2 = σ 2 := n5 2 (by omega)
      obtain ⟨k', fl, l, s', t', d1, d2, d3, d4, d5, d6⟩ := week_do (B := B) (A := A) (f := σ 2) (s0 := σ1) (t0 := τ1) (KC := fun (l2_31 : Int) (l3_32 : Int) (l4_33 : Int) (s34 : xW) =>
        xjn (fun (s35 : xW) =>
          xbp (F_X8_clear s35) fun s40 =>
          xli (if (xw l3_32) ≠ 0 then 1 else 0) fun v42 =>
          xbp (F_X6_tell_ v42 (xw (s40 17 3)) s40) fun s46 =>
          some (l2_31, s46)
        ) fun j36 =>
        if 0 < (xw l2_31) then
          xbp (F_X3_add s34) fun s49 =>
          j36 s49
        else
          j36 s34) (KM := KK) hB (by omega) (by omega) (by rw [k1]; omega) (by rw [k2]; exact t2) k2 (fun i hi => by
            rw [n6 137 (by decide), n6 138 (by decide), n6 139 (by decide), n6 140 (by decide)]
            exact w5 i hi) (by rw [w6, k1, z.1]) (by rw [n6 121 (by decide)]; exact w4) A 0 xN xN σ1 τ1 (by omega) (by omega) (by omega) (by rw [show B + 9 * ((0 : Nat) : Int) = B by omega]; exact n3) ⟨fun _ _ _ => rfl, rfl, rfl, rfl, rfl, rfl, fun _ _ _ => rfl, fun _ _ _ => rfl⟩
      obtain ⟨c1, c2, c3, c4, c5, c6, c7, c8⟩ := id d5
      have hMw : F_X11_week τ = KK (k' : Int) t' := by
        rw [hM, n2]
        simp only [xbp_n]
        exact d2
      have hfl : 0 ≤ fl ∧ fl ≤ 1 := by omega
      have e36 : t' 121 36 = A := by rw [c8 36 (by decide) (by decide), n6 121 (by decide)]; exact w4
      have efl : (if (k' : Int) < (A : Int) then (1 : Int) else 0) = fl := by
        rcases d6 with ⟨y1, y2⟩ | ⟨y1, y2⟩
        · rw [if_neg (by omega), y1]
        · rw [if_pos (by omega), y1]
      have hcl := d4.2.2.2.1.1.1.2.2.2.1
      have e37 : t' 127 37 = s' 17 3 := d4.2.2.2.1.2.1.2.2.2.1.symm
      have hMk : KK (k' : Int) t' = if 0 < (k' : Int) then xbd (F_X11_adds (k' : Int) (xe2 t' fl (s' 17 3))) fun r55 s56 => some (r55, s56) else some (0, xe2 t' fl (s' 17 3)) := by
        rw [hKK]
        simp only [xbp_s, xbd_s, xls, xli, xlt, xjn]
        rw [xu_slot _ _ _ (show (36 : Int) ≠ 1 by decide), e36, xw_sm (x := (k' : Int)) (by omega) (by omega), xw_sm (x := (A : Int)) (by omega) (by omega), efl, flag_m, xw_sm (x := fl) (by omega) (by omega)]
        simp only [xbp_s, xbd_s, xls, xli, xlt, xjn]
        have ef : (if fl ≠ 0 then (1 : Int) else 0) = fl := by
          by_cases y : fl = 0
          · rw [if_neg (fun w => w y), y]
          · rw [if_pos y]; omega
        rw [ef, xw_sm (x := fl) (by omega) (by omega), ent_1]
        simp only [xbp_s, xbd_s, xls, xli, xlt, xjn]
        rw [xe1_o (by decide) (by decide), e37, xw_sm (x := s' 17 3) (by omega) (by omega), ent_2]
        rfl
      have hXe : XRr (B + 270) s' (xe2 t' fl (s' 17 3)) := XRr_rowM d4 (fun c x1 x2 => xe2_o x1 x2) (fun k x1 => xe2_k x1)
      have eCl : ∀ s3 : xW, s3 17 = s' 17 → (xbp (F_X8_clear s3) fun s40 => xli (if (xw fl) ≠ 0 then (1 : Int) else 0) fun v42 => xbp (F_X6_tell_ v42 (xw (s40 17 3)) s40) fun s46 => some ((k' : Int), s46)) = some ((k' : Int), xt2 (xu s3 1 1 0) fl (s' 17 3)) := fun s3 e => by
        unfold F_X8_clear
        simp only [xbp_s, xbd_s, xls, xli, xlt, xjn]
        have ef : (if xw fl ≠ 0 then (1 : Int) else 0) = fl := by
          rw [xw_sm (x := fl) (by omega) (by omega)]
          by_cases y : fl = 0
          · rw [if_neg (fun w => w y), y]
          · rw [if_pos y]; omega
        rw [ef, xu_row _ _ _ (show (17 : Int) ≠ 1 by decide), e, xw_sm (x := s' 17 3) (by omega) (by omega), tell_2]
        rfl
      have hfin : ∀ (s3 t3 : xW), XRr (B + 270) s3 t3 → s3 2 = s' 2 → t3 121 15 = t' 121 15 → t3 121 1 = 2 → t3 122 0 = fl → t3 122 1 = s' 17 3 → XR (B + 300) (xt2 (xu s3 1 1 0) fl (s' 17 3)) t3 := fun s3 t3 x1 x2 x3 x4 x5 x6 => by
        refine XRr_R (XRr_c1 (XRr_mono (by omega) x1) (fun c y1 y2 y3 => by rw [xt2_o y2 y3, xu_row _ _ _ y1])) ?_ (Xrow_2 (a := fl) (b := s' 17 3) rfl ⟨by simp [xt2, xt1, xu], by simp [xt2, xt1, xu]⟩ x4 ⟨x5, x6⟩)
        have p1 : xt2 (xu s3 1 1 0) fl (s' 17 3) 1 1 = 0 := by rw [xt2_o (by decide) (by decide), xu_same]
        refine ⟨by omega, fun i => ?_, ?_, fun i y1 y2 => by omega⟩
        · rw [xt2_o (by decide) (by decide), xu_row _ _ _ (show (2 : Int) ≠ 1 by decide), x2, c6, k2]
          exact t2 i
        · rw [x3, p1, c8 15 (by decide) (by decide), n6 121 (by decide)]
          exact e15
      have hCw : F_X10_week σ = (xjn (fun (s35 : xW) =>
          xbp (F_X8_clear s35) fun s40 =>
          xli (if (xw fl) ≠ 0 then 1 else 0) fun v42 =>
          xbp (F_X6_tell_ v42 (xw (s40 17 3)) s40) fun s46 =>
          some ((k' : Int), s46)
        ) fun j36 =>
        if 0 < (xw (k' : Int)) then
          xbp (F_X3_add s') fun s49 =>
          j36 s49
        else
          j36 s') := by
        unfold F_X10_week
        rw [a4]
        simp only [xbp_n]
        rw [if_neg (show ¬ xw (-1) ≠ -1 by decide), n1]
        simp only [xbp_n]
        exact d1
      by_cases y : 0 < (k' : Int)
      · have hnk := Xnote_keepr (show B ≤ B + 270 by omega) hXe n4 c1 c2 c3 (by rw [xe2_o (by decide) (by decide)]; exact c4)
        obtain ⟨s3, t3, f1, f2, f3⟩ := add_r (v := (k' : Int)) hXe hnk
        have hfC := fr_X3_add f1
        have hfM := fr_X11_adds f2
        have eC : F_X10_week σ = some ((k' : Int), xt2 (xu s3 1 1 0) fl (s' 17 3)) := by
          rw [hCw]
          simp only [xjn]
          rw [xw_sm (x := (k' : Int)) (by omega) (by omega), if_pos y, f1]
          simp only [xbp_n]
          exact eCl s3 (xfm_cell hfC (by decide +kernel))
        have eM : F_X11_week τ = some ((k' : Int), t3) := by
          rw [hMw, hMk, if_pos y, f2]
          rfl
        refine ⟨_, _, _, eC, eM, hfin s3 t3 f3 (xfm_cell hfC (by decide +kernel)) ?_ ?_ ?_ ?_⟩
        · rw [show t3 121 15 = (xe2 t' fl (s' 17 3)) 121 15 from xfm_slot hfM (by decide +kernel), xe2_k (by decide)]
        · rw [show t3 121 1 = (xe2 t' fl (s' 17 3)) 121 1 from xfm_slot hfM (by decide +kernel)]
          exact xu_same _ _ _ _
        · rw [show t3 122 = (xe2 t' fl (s' 17 3)) 122 from xfm_cell hfM (by decide +kernel)]
          simp [xe2, xe1, xu]
        · rw [show t3 122 = (xe2 t' fl (s' 17 3)) 122 from xfm_cell hfM (by decide +kernel)]
          simp [xe2, xe1, xu]
      · have ek : (k' : Int) = 0 := by omega
        have eC : F_X10_week σ = some ((k' : Int), xt2 (xu s' 1 1 0) fl (s' 17 3)) := by
          rw [hCw]
          simp only [xjn]
          rw [xw_sm (x := (k' : Int)) (by omega) (by omega), if_neg y]
          exact eCl s' rfl
        have eM : F_X11_week τ = some ((k' : Int), xe2 t' fl (s' 17 3)) := by
          rw [hMw, hMk, if_neg y, ek]
        exact ⟨_, _, _, eC, eM, hfin s' _ hXe rfl (xe2_k (by decide)) (xu_same _ _ _ _) (by simp [xe2, xe1, xu]) (by simp [xe2, xe1, xu])⟩
    · exact absurd ⟨by omega, z.2⟩ w2
  · rw [if_neg z] at a4
    have hno : ¬ (ok = 1 ∧ (c : Int) = σ 1 1 ∧ σ 1 1 ≤ 60) := fun w => by
      rcases g7 with ⟨_, w2, w3, _⟩ | ⟨w1, _⟩
      · exact z ⟨w.2.1, w3⟩
      · omega
    clear g7
    rw [if_neg hno, xw_sm (x := -1 - (c : Int)) (by omega) (by omega), if_pos (by omega)] at hM
    have eC : F_X10_week σ = some (-1 - (c : Int), xu σ 1 1 0) := by
      unfold F_X10_week F_X8_clear
      rw [a4]
      simp only [xbp_s, xbd_s, xls, xli, xlt, xjn]
      rw [xw_sm (x := (c : Int)) (by omega) (by omega), if_pos (by omega)]
    refine ⟨_, _, _, eC, hM, ?_⟩
    have hfC := xfm_n1 σ
    have hfM := hfM0
    obtain ⟨h1, h2, h3, h4, h5, h6, h7, h8, h9, h10⟩ := XR_thr hR
    refine XR_mono (show _ ≤ B + 300 by omega) ⟨?_, Xrow_cW hfC (by decide +kernel) (Xrow_mW hfM (by decide +kernel) h2), Xsky_cW hfC (by decide +kernel) (Xsky_mW hfM (by decide +kernel) h3), Xrule_cW hfC (by decide +kernel) (Xrule_mW hfM (by decide +kernel) h4), Xplan_cW hfC (by decide +kernel) (Xplan_mW hfM (by decide +kernel) h5), Xtown_cW hfC (by decide +kernel) (Xtown_mW hfM (by decide +kernel) h6), Xpast_cW hfC (by decide +kernel) (Xpast_mW hfM (by decide +kernel) h7), Xkept_cW hfC (by decide +kernel) (Xkept_mW hfM (by decide +kernel) h8), Xrep_cW hfC (by decide +kernel) (Xrep_mW hfM (by decide +kernel) h9), Xforts_cW hfC (by decide +kernel) h10⟩
    refine ⟨?_, fun i => ?_, ?_, fun i x y => ?_⟩
    · rw [xu_same]; omega
    · rw [xu_row _ _ _ (show (2 : Int) ≠ 1 by decide)]
      exact t2 i
    · rw [xu_same]; exact e15
    · rw [xu_same] at y; omega
