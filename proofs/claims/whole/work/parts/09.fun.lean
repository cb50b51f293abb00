noncomputable section
def xbcN (i : Int32) : Int32 :=
  let u (a : Int32) (k : Int32) : Int32 := (a.toUInt32 >>> (k.toUInt32 &&& Int32.toUInt32 31)).toInt32
  let i := i - (u i 1 &&& 1431655765)
  let i := (i &&& 858993459) + (u i 2 &&& 858993459)
  let i := (i + u i 4) &&& 252645135
  let i := i + u i 8
  let i := i + u i 16
  i &&& 63
/-! lists of cells that one name may stand for -/
def xRules : List Int := [9, 13]
def xDigs : List Int := [5, 7]
def xTowns : List Int := [17, 23, 27, 31, 35, 39, 43, 47, 51, 55, 59, 63, 67, 71, 75, 79, 83, 109, 113, 117]
def xNows : List Int := [127, 128]
def xCodes : List Int := [132, 150]
/-- texts -/
def xch (w : List Int) (k : Int) : Int := w.getD k.toNat 0
def xixF (c : Int) : List Int → Int → Int
  | [], _ => -1
  | b :: l, k => if b = c then k else xixF c l (k + 1)
def xix (w : List Int) (c : Int) : Int := xixF (xw c) w 0
/-- the first rule's steps -/
def xfirst (s : xW) (a : Int) : xW := fun c j => if c = a ∧ 0 ≤ j ∧ j < 7 then ([1000, 2, 2042, 1001, 2, 2047, 2045] : List Int).getD j.toNat 0 else s c j
/-- all of a row the same -/
def xfl (s : xW) (a : Int) (n : Nat) (v : Int) : xW := fun c j => if c = a ∧ 0 ≤ j ∧ j < n then v else s c j
/-- how many bits of 32 are set -/
def xbc (a : Int) : Int := (xbcN (Int32.ofInt a)).toInt
def F_X7_valueOf (a0 : Int) (s0 : xW) : Option (Int) :=
  if (xw a0) < 1000 then
    some a0
  else
    xjn (fun (t2 : Int) =>
      some t2
    ) fun j3 =>
    if (xw (a0 - 1000)) < 7 then
      xgd (0 ≤ (a0 - 1000) ∧ (a0 - 1000) < 7) <|
      j3 (s0 90 (a0 - 1000))
    else
      j3 0
def F_X7_reckon (a0 : Int) (a1 : Int) (a2 : Int) (s0 : xW) : Option (Int) :=
  if (xw a0) = 42 then
    some (a1 * a2)
  else
  if (xw a0) = 43 then
    some (a1 + a2)
  else
  if (xw a0) = 45 then
    some (a1 - a2)
  else
  if (xw a0) = 60 then
    xli (if (xw a1) < (xw a2) then 1 else 0) fun v6 =>
    some v6
  else
  if (xw a0) = 61 then
    xli (if (xw a1) = (xw a2) then 1 else 0) fun v11 =>
    some v11
  else
  if (xw a0) = 62 then
    xli (if (xw a2) < (xw a1) then 1 else 0) fun v16 =>
    some v16
  else
  xjn (fun (t19 : Int) =>
    some t19
  ) fun j20 =>
  if (xw a2) = 0 then
    j20 0
  else
    xgd ((xw a2) ≠ 0) <|
    j20 (Int.tdiv (xw a1) (xw a2))
def F_X7_delay_4 (l0_1 : Int) : Nat → Int → Int → xW → (Int → Int → xW → Option (Int × xW)) → Option (Int × xW)
  | 0, _, _, _, _ => none
  | f + 1, l2_3, l3_4, s5, k =>
    if (xw l3_4) < (xw (s5 l0_1 1)) then
      xgd (0 ≤ l3_4 ∧ l3_4 < 40) <|
      xjn (fun (l2_8 : Int) (s9 : xW) =>
        F_X7_delay_4 l0_1 f l2_8 (l3_4 + 1) s9 k
      ) fun j10 =>
      xjn (
        xjn (
          if 1 < (xw l2_3) then
            xgd (0 ≤ ((l2_3 + (-1)) - 1) ∧ ((l2_3 + (-1)) - 1) < 40) <|
            xgd (0 ≤ (l2_3 + (-1)) ∧ (l2_3 + (-1)) < 40) <|
            xbp (F_X7_reckon ((s5 (l0_1 + 1) l3_4) - 2000) (s5 (l0_1 + 2) ((l2_3 + (-1)) - 1)) (s5 (l0_1 + 2) (l2_3 + (-1))) s5) fun r23 =>
            xgd (0 ≤ ((l2_3 + (-1)) - 1) ∧ ((l2_3 + (-1)) - 1) < 40) <|
            xls (xu s5 (l0_1 + 2) ((l2_3 + (-1)) - 1) r23) fun s25 =>
            j10 (l2_3 + (-1)) s25
          else
            j10 l2_3 s5
        ) fun j16 =>
        if (xw (s5 (l0_1 + 1) l3_4)) = 2126 then
          if 0 < (xw l2_3) then
            xgd (0 ≤ (l2_3 - 1) ∧ (l2_3 - 1) < 40) <|
            xgd (0 ≤ (l2_3 - 1) ∧ (l2_3 - 1) < 40) <|
            xls (xu s5 (l0_1 + 2) (l2_3 - 1) (-(s5 (l0_1 + 2) (l2_3 - 1)))) fun s31 =>
            j10 l2_3 s31
          else
            j16 
        else
          j16 
      ) fun j13 =>
      if (xw (s5 (l0_1 + 1) l3_4)) < 2000 then
        if (xw l2_3) < 40 then
          xbp (F_X7_valueOf (s5 (l0_1 + 1) l3_4) s5) fun r36 =>
          xgd (0 ≤ l2_3 ∧ l2_3 < 40) <|
          xls (xu s5 (l0_1 + 2) l2_3 r36) fun s38 =>
          j10 (l2_3 + 1) s38
        else
          j13 
      else
        j13 
    else
      k l2_3 l3_4 s5
def F_X7_delay (a0 : Int) (s0 : xW) : Option (Int × xW) :=
  xgd (a0 ∈ xRules) <|
  F_X7_delay_4 a0 xN 0 0 s0 fun (l2_43 : Int) (l3_44 : Int) (s45 : xW) =>
  some ((max 0 (xw (min 99 (xw (s45 (a0 + 2) 0))))), s45)
def F_X0_minute (a1 : Int) (a2 : Int) (a3 : Int) (a4 : Int) (s0 : xW) : Option (Int × xW) :=
  xgd (a1 ∈ xRules) <|
  xls (xu s0 90 0 a2) fun s1 =>
  xls (xu s1 90 3 (Int.tdiv (xw a3) 10)) fun s3 =>
  xls (xu s3 90 4 (Int.tmod (xw a3) 10)) fun s5 =>
  xls (xu s5 90 6 a4) fun s7 =>
  xbd (F_X7_delay a1 s7) fun r10 s11 =>
  some (((s7 90 2) + r10), s11)
def F_X0_on (a1 : Int) (a2 : Int) (a3 : Int) (s0 : xW) : Option (xW) :=
  xls (xu s0 90 1 a3) fun s1 =>
  xls (xu s1 90 2 a2) fun s3 =>
  xls (xu s3 90 5 (Int.tmod (xw a1) 7)) fun s5 =>
  some s5
def F_X9_copy (a0 : Int) (a1 : Int) (s0 : xW) : Option (xW) :=
  xgd (a0 ∈ xTowns) <|
  xgd (a1 ∈ xTowns) <|
  xls (xu s0 a0 0 (s0 a1 0)) fun s1 =>
  xls (xu s1 a0 1 (s1 a1 1)) fun s3 =>
  xls (xu s3 a0 2 (s3 a1 2)) fun s5 =>
  xls (xu s5 a0 3 (s5 a1 3)) fun s7 =>
  xls (xu s7 a0 4 (s7 a1 4)) fun s9 =>
  xls (xu s9 a0 5 (s9 a1 5)) fun s11 =>
  xls (xcp s11 (a1 + 1) (a0 + 1) 8) fun s13 =>
  xls (xcp s13 (a1 + 2) (a0 + 2) 8) fun s15 =>
  xls (xcp s15 (a1 + 3) (a0 + 3) 8) fun s17 =>
  some s17
def F_X3_drop (s0 : xW) : Option (xW) :=
  xls (xu s0 21 2 0) fun s1 =>
  some s1
def F_X10_again (a1 : Int) (s0 : xW) : Option (Int × xW) :=
  xjn (
    some (0, s0)
  ) fun j1 =>
  if 0 ≤ (xw a1) then
    if (xw a1) < 3 then
      xgd (0 ≤ a1 ∧ a1 < 3) <|
      if (xw (s0 88 a1)) = 0 then
        j1 
      else
        xgd (0 ≤ a1 ∧ a1 < 3) <|
        xgd ((109 + 4 * a1) ∈ xTowns) <|
        xbp (F_X9_copy 17 (109 + 4 * a1) s0) fun s11 =>
        xbp (F_X3_drop  s11) fun s13 =>
        some (1, s13)
    else
      j1 
  else
    j1 
def F_X1_of (a0 : Int) (a1 : Int) (s0 : xW) : Option (Int) :=
  xgd (a0 ∈ xDigs) <|
  xjn (fun (t1 : Int) =>
    some t1
  ) fun j2 =>
  xjn (
    j2 0
  ) fun j5 =>
  if 0 < (xw (s0 a0 1)) then
    if 0 ≤ (xw a1) then
      xgd ((xw (s0 a0 1)) ≠ 0) <|
      xgd (0 ≤ (Int.tmod (xw a1) (xw (s0 a0 1))) ∧ (Int.tmod (xw a1) (xw (s0 a0 1))) < 20) <|
      j2 (s0 (a0 + 1) (Int.tmod (xw a1) (xw (s0 a0 1))))
    else
      j5 
  else
    j5 
def F_X6_clear (s0 : xW) : Option (xW) :=
  xls (xu s0 3 1 0) fun s1 =>
  some s1
def F_X6_add (a1 : Int) (s0 : xW) : Option (xW) :=
  xjn (fun (s1 : xW) =>
    some s1
  ) fun j2 =>
  if (xw (s0 3 1)) < 16 then
    xgd (0 ≤ (s0 3 1) ∧ (s0 3 1) < 16) <|
    xls (xu s0 4 (s0 3 1) a1) fun s7 =>
    xls (xu s7 3 1 ((s7 3 1) + 1)) fun s9 =>
    j2 s9
  else
    j2 s0
def F_X6_tell (a1 : Int) (s0 : xW) : Option (xW) :=
  xbp (F_X6_clear  s0) fun s2 =>
  xbp (F_X6_add a1 s2) fun s4 =>
  some s4
def F_X6_tell_ (a1 : Int) (a3 : Int) (s0 : xW) : Option (xW) :=
  xbp (F_X6_tell a1 s0) fun s2 =>
  xbp (F_X6_add a3 s2) fun s4 =>
  some s4
def F_X10_far (a0 : Int) (a1 : Int) (s0 : xW) : Option (Int) :=
  some ((xab (xw ((Int.tdiv (xw a0) 10) - (Int.tdiv (xw a1) 10)))) + (xab (xw ((Int.tmod (xw a0) 10) - (Int.tmod (xw a1) 10)))))
def F_X4_begin_2 : Nat → Int → xW → (Int → xW → Option (xW)) → Option (xW)
  | 0, _, _, _ => none
  | f + 1, l3_1, s2, k =>
    if (xw l3_1) < (xw (s2 92 0)) then
      xgd (0 ≤ l3_1 ∧ l3_1 < 8) <|
      xgd (0 ≤ (s2 93 l3_1) ∧ (s2 93 l3_1) < 8) <|
      xgd (0 ≤ l3_1 ∧ l3_1 < 8) <|
      xls (xu s2 95 l3_1 (s2 91 (s2 93 l3_1))) fun s7 =>
      xgd (0 ≤ l3_1 ∧ l3_1 < 8) <|
      xgd (0 ≤ l3_1 ∧ l3_1 < 8) <|
      xgd (0 ≤ l3_1 ∧ l3_1 < 8) <|
      xls (xu s7 96 l3_1 ((s7 95 l3_1) + (s7 20 l3_1))) fun s12 =>
      F_X4_begin_2  f (l3_1 + 1) s12 k
    else
      k l3_1 s2
def F_X4_begin (s0 : xW) : Option (xW) :=
  F_X4_begin_2  xN 0 s0 fun (l3_16 : Int) (s17 : xW) =>
  some s17
def F_X10_planFor_27 (l1_7 : Int) (l2_9 : Int) : Nat → Int → xW → (Int → xW → Option (xW)) → Option (xW)
  | 0, _, _, _ => none
  | f + 1, l4_10, s11, k =>
    if (xw l4_10) < (xw (s11 0 14)) then
      xgd (0 ≤ l4_10 ∧ l4_10 < 8) <|
      xbp (F_X10_far l2_9 (s11 18 l4_10) s11) fun r15 =>
      xbd (F_X0_minute l1_7 r15 (s11 18 l4_10) 0 s11) fun r17 s18 =>
      xgd (0 ≤ l4_10 ∧ l4_10 < 8) <|
      xls (xu s18 91 l4_10 r17) fun s20 =>
      F_X10_planFor_27 l1_7 l2_9 f (l4_10 + 1) s20 k
    else
      k l4_10 s11
def F_X10_planFor (a1 : Int) (a2 : Int) (a3 : Int) (s0 : xW) : Option (xW) :=
  xgd (a1 ∈ xRules) <|
  xbp (F_X1_of 7 a3 s0) fun r2 =>
  xbp (F_X1_of 5 a3 s0) fun r4 =>
  xbp (F_X0_on a3 r2 r4 s0) fun s6 =>
  F_X10_planFor_27 a1 a2 xN 0 s6 fun (l4_24 : Int) (s25 : xW) =>
  xbp (F_X4_begin  s25) fun s27 =>
  some s27
def F_X4_collide (a1 : Int) (a2 : Int) (s0 : xW) : Option (Int) :=
  xjn (fun (t1 : Int) =>
    xgd (t1 = 0 ∨ t1 = 1) <|
    some t1
  ) fun j2 =>
  xjn (
    j2 0
  ) fun j6 =>
  if (xw a1) ≠ (xw a2) then
    xgd (0 ≤ a1 ∧ a1 < 8) <|
    xgd (0 ≤ a2 ∧ a2 < 8) <|
    if (xw (xand (s0 94 a1) (s0 94 a2))) ≠ 0 then
      xgd (0 ≤ a1 ∧ a1 < 8) <|
      xgd (0 ≤ a2 ∧ a2 < 8) <|
      if (xw (s0 95 a1)) < (xw (s0 96 a2)) then
        xgd (0 ≤ a2 ∧ a2 < 8) <|
        xgd (0 ≤ a1 ∧ a1 < 8) <|
        if (xw (s0 95 a2)) < (xw (s0 96 a1)) then
          j2 1
        else
          j6 
      else
        j6 
    else
      j6 
  else
    j6 
def F_X4_pairs_16 (l2_6 : Int) (s8 : xW) : Nat → Int → Int → (Int → Int → Option (Int)) → Option (Int)
  | 0, _, _, _ => none
  | f + 1, l1_5, l3_7, k =>
    if (xw l3_7) < (xw (s8 92 0)) then
      xbp (F_X4_collide l2_6 l3_7 s8) fun r11 =>
      xli (if (xw r11) ≠ 0 then 1 else 0) fun v13 =>
      F_X4_pairs_16 l2_6 s8 f (l1_5 + v13) (l3_7 + 1) k
    else
      k l1_5 l3_7
def F_X4_pairs_4 (s3 : xW) : Nat → Int → Int → (Int → Int → Option (Int)) → Option (Int)
  | 0, _, _, _ => none
  | f + 1, l1_1, l2_2, k =>
    if (xw l2_2) < (xw (s3 92 0)) then
      F_X4_pairs_16 l2_2 s3 xN l1_1 (l2_2 + 1) fun (l1_18 : Int) (l3_19 : Int) =>
      F_X4_pairs_4 s3 f l1_18 (l2_2 + 1) k
    else
      k l1_1 l2_2
def F_X4_pairs (s0 : xW) : Option (Int) :=
  F_X4_pairs_4  s0 xN 0 0 fun (l1_22 : Int) (l2_23 : Int) =>
  some l1_22
def F_X10_pairsOn (a1 : Int) (s0 : xW) : Option (Int × xW) :=
  xgd ((s0 0 4) ∈ xRules) <|
  xbp (F_X10_planFor (s0 0 4) (s0 17 0) a1 s0) fun s3 =>
  xbp (F_X4_pairs  s3) fun r5 =>
  some (r5, s3)
def F_X10_ahead (a1 : Int) (s0 : xW) : Option (Int × xW) :=
  xjn (
    some (-1, s0)
  ) fun j1 =>
  if 0 ≤ (xw a1) then
    if 100 ≤ (xw a1) then
      j1 
    else
      xbp (F_X1_of 7 ((s0 17 5) + a1) s0) fun r7 =>
      xbp (F_X1_of 5 ((s0 17 5) + a1) s0) fun r9 =>
      xbp (F_X6_tell_ (xw r7) (xw r9) s0) fun s11 =>
      xbd (F_X10_pairsOn ((s0 17 5) + a1) s11) fun r13 s14 =>
      some (r13, s14)
  else
    j1 
def F_X10_apart_27 (l2_7 : Int) : Nat → Int → Int → xW → (Int → Int → xW → Option (Int × xW)) → Option (Int × xW)
  | 0, _, _, _, _ => none
  | f + 1, l1_6, l3_8, s9, k =>
    if (xw l3_8) < (xw (s9 0 14)) then
      xgd (0 ≤ l2_7 ∧ l2_7 < 8) <|
      xgd (0 ≤ l3_8 ∧ l3_8 < 8) <|
      xjn (fun (l1_13 : Int) (s14 : xW) =>
        F_X10_apart_27 l2_7 f l1_13 (l3_8 + 1) s14 k
      ) fun j15 =>
      if (xw l1_6) < (xw (xab (xw ((s9 19 l2_7) - (s9 19 l3_8))))) then
        xbp (F_X6_tell_ (xw l2_7) (xw l3_8) s9) fun s20 =>
        j15 (xab (xw ((s9 19 l2_7) - (s9 19 l3_8)))) s20
      else
        j15 l1_6 s9
    else
      k l1_6 l3_8 s9
def F_X10_apart_15 : Nat → Int → Int → xW → (Int → Int → xW → Option (Int × xW)) → Option (Int × xW)
  | 0, _, _, _, _ => none
  | f + 1, l1_2, l2_3, s4, k =>
    if (xw l2_3) < (xw (s4 0 14)) then
      F_X10_apart_27 l2_3 xN l1_2 (l2_3 + 1) s4 fun (l1_24 : Int) (l3_25 : Int) (s26 : xW) =>
      F_X10_apart_15  f l1_24 (l2_3 + 1) s26 k
    else
      k l1_2 l2_3 s4
def F_X10_apart (s0 : xW) : Option (Int × xW) :=
  if (xw (s0 0 14)) < 2 then
    some (-2, s0)
  else
    F_X10_apart_15  xN (-1) 0 s0 fun (l1_30 : Int) (l2_31 : Int) (s32 : xW) =>
    some (l1_30, s32)
def F_X10_minuteBy (a1 : Int) (a2 : Int) (s0 : xW) : Option (Int × xW) :=
  xgd (0 ≤ a2 ∧ a2 < 8) <|
  xbp (F_X0_on (s0 17 5) (Int.tdiv (xw a1) 10) (Int.tmod (xw a1) 10) s0) fun s3 =>
  xgd ((s3 0 4) ∈ xRules) <|
  xbp (F_X10_far (s3 17 0) (s0 18 a2) s3) fun r6 =>
  xbd (F_X0_minute (s3 0 4) r6 (s0 18 a2) 0 s3) fun r8 s9 =>
  some (r8, s9)
def F_X10_fitsReports_2 (l1_1 : Int) : Nat → Int → xW → (Int → xW → Option (Int × xW)) → Option (Int × xW)
  | 0, _, _, _ => none
  | f + 1, l2_2, s3, k =>
    if (xw l2_2) < (xw (s3 100 2)) then
      xgd (0 ≤ l2_2 ∧ l2_2 < 10) <|
      xbd (F_X10_minuteBy l1_1 (s3 101 l2_2) s3) fun r7 s8 =>
      xgd (0 ≤ l2_2 ∧ l2_2 < 10) <|
      if (xw r7) ≠ (xw (s8 102 l2_2)) then
        some (0, s8)
      else
        F_X10_fitsReports_2 l1_1 f (l2_2 + 1) s8 k
    else
      k l2_2 s3
def F_X10_fitsReports (a1 : Int) (s0 : xW) : Option (Int × xW) :=
  F_X10_fitsReports_2 a1 xN 0 s0 fun (l2_13 : Int) (s14 : xW) =>
  some (1, s14)
def F_X10_findWeathers_4 : Nat → Int → Int → xW → (Int → Int → xW → Option (Int × xW)) → Option (Int × xW)
  | 0, _, _, _, _ => none
  | f + 1, l1_1, l2_2, s3, k =>
    if (xw l2_2) < 100 then
      xbd (F_X10_fitsReports l2_2 s3) fun r6 s7 =>
      xjn (fun (l1_8 : Int) (s9 : xW) =>
        F_X10_findWeathers_4  f l1_8 (l2_2 + 1) s9 k
      ) fun j10 =>
      if (xw r6) ≠ 0 then
        xgd (0 ≤ l1_1 ∧ l1_1 < 100) <|
        xls (xu s7 103 l1_1 l2_2) fun s15 =>
        j10 (l1_1 + 1) s15
      else
        j10 l1_1 s7
    else
      k l1_1 l2_2 s3
def F_X10_findWeathers (s0 : xW) : Option (Int × xW) :=
  F_X10_findWeathers_4  xN 0 0 s0 fun (l1_20 : Int) (l2_21 : Int) (s22 : xW) =>
  xls (xu s22 100 4 l1_20) fun s23 =>
  some (l1_20, s23)
def F_X5_countMinute (a1 : Int) (s0 : xW) : Option (Int × xW) :=
  xjn (
    some (0, s0)
  ) fun j1 =>
  if 0 ≤ (xw a1) then
    if 120 ≤ (xw a1) then
      j1 
    else
      xgd (0 ≤ a1 ∧ a1 < 120) <|
      xgd (0 ≤ a1 ∧ a1 < 120) <|
      xls (xu s0 104 a1 ((s0 104 a1) + 1)) fun s8 =>
      xgd (0 ≤ a1 ∧ a1 < 120) <|
      some ((s8 104 a1), s8)
  else
    j1 
def F_X10_mostLeft_15 (l1_3 : Int) : Nat → Int → Int → xW → (Int → Int → xW → Option (Int × xW)) → Option (Int × xW)
  | 0, _, _, _, _ => none
  | f + 1, l2_4, l3_5, s6, k =>
    if (xw l3_5) < (xw (s6 100 4)) then
      xgd (0 ≤ l3_5 ∧ l3_5 < 100) <|
      xbd (F_X10_minuteBy (s6 103 l3_5) l1_3 s6) fun r10 s11 =>
      xbd (F_X5_countMinute r10 s11) fun r13 s14 =>
      F_X10_mostLeft_15 l1_3 f (max (xw l2_4) (xw r13)) (l3_5 + 1) s14 k
    else
      k l2_4 l3_5 s6
def F_X10_mostLeft (a1 : Int) (s0 : xW) : Option (Int × xW) :=
  xls (xfl s0 104 120 0) fun s1 =>
  F_X10_mostLeft_15 a1 xN 0 0 s1 fun (l2_18 : Int) (l3_19 : Int) (s20 : xW) =>
  some (l2_18, s20)
def F_X10_asks_24 : Nat → Int → Int → Int → xW → (Int → Int → Int → xW → Option (Int × xW)) → Option (Int × xW)
  | 0, _, _, _, _, _ => none
  | f + 1, l1_10, l2_11, l3_12, s13, k =>
    if (xw l3_12) < (xw (s13 0 14)) then
      xbd (F_X10_mostLeft l3_12 s13) fun r16 s17 =>
      xjn (fun (l1_18 : Int) (l2_19 : Int) =>
        F_X10_asks_24  f l1_18 l2_19 (l3_12 + 1) s17 k
      ) fun j20 =>
      if (xw r16) < (xw l1_10) then
        j20 r16 l3_12
      else
        j20 l1_10 l2_11
    else
      k l1_10 l2_11 l3_12 s13
def F_X10_asks (s0 : xW) : Option (Int × xW) :=
  xjn (fun (s1 : xW) =>
    some (-2, s1)
  ) fun j2 =>
  if (xw (s0 0 14)) ≠ 0 then
    xbd (F_X10_findWeathers  s0) fun r7 s8 =>
    if (xw r7) = 0 then
      j2 s8
    else
      F_X10_asks_24  xN 101 0 0 s8 fun (l1_28 : Int) (l2_29 : Int) (l3_30 : Int) (s31 : xW) =>
      xbp (F_X6_tell (xw l1_28) s31) fun s33 =>
      some (l2_29, s33)
  else
    j2 s0
def F_X6_tell__ (a1 : Int) (a3 : Int) (a5 : Int) (s0 : xW) : Option (xW) :=
  xbp (F_X6_tell_ a1 a3 s0) fun s2 =>
  xbp (F_X6_add a5 s2) fun s4 =>
  some s4
def F_X10_best_6 : Nat → Int → Int → Int → xW → (Int → Int → Int → xW → Option (Int × xW)) → Option (Int × xW)
  | 0, _, _, _, _, _ => none
  | f + 1, l1_1, l2_2, l3_3, s4, k =>
    if (xw l3_3) < 100 then
      xgd ((s4 0 4) ∈ xRules) <|
      xbp (F_X10_planFor (s4 0 4) l3_3 (s4 17 5) s4) fun s8 =>
      xbp (F_X4_pairs  s8) fun r10 =>
      xjn (fun (l1_11 : Int) (l2_12 : Int) =>
        F_X10_best_6  f l1_11 l2_12 (l3_3 + 1) s8 k
      ) fun j13 =>
      xjn (
        j13 r10 l3_3
      ) fun j16 =>
      if (xw l2_2) ≠ (-1) then
        if (xw r10) < (xw l1_1) then
          j16 
        else
          j13 l1_1 l2_2
      else
        j16 
    else
      k l1_1 l2_2 l3_3 s4
def F_X10_best (s0 : xW) : Option (Int × xW) :=
  F_X10_best_6  xN 0 (-1) 0 s0 fun (l1_25 : Int) (l2_26 : Int) (l3_27 : Int) (s28 : xW) =>
  xbd (F_X10_pairsOn (s28 17 5) s28) fun r30 s31 =>
  xbp (F_X6_tell__ (xw (Int.tdiv (xw l2_26) 10)) (xw (Int.tmod (xw l2_26) 10)) (xw r30) s31) fun s33 =>
  some (l1_25, s33)
def F_X10_buy (a1 : Int) (s0 : xW) : Option (Int × xW) :=
  xjn (
    some (-1, s0)
  ) fun j1 =>
  if 1 ≤ (xw a1) then
    if 99 < (xw a1) then
      j1 
    else
      if 99 < (xw ((s0 17 2) + a1)) then
        some (-3, s0)
      else
        xls (xu s0 17 2 ((s0 17 2) + a1)) fun s7 =>
        some ((s7 17 2), s7)
  else
    j1 
def F_X3_note (s0 : xW) : Option (xW) :=
  xgd (0 ≤ (s0 21 1) ∧ (s0 21 1) < 16) <|
  xgd ((23 + 4 * (s0 21 1)) ∈ xTowns) <|
  xbp (F_X9_copy (23 + 4 * (s0 21 1)) 17 s0) fun s4 =>
  some s4
def F_X3_add (s0 : xW) : Option (xW) :=
  xls (xu s0 21 1 (Int.tmod (xw ((s0 21 1) + 1)) 16)) fun s1 =>
  xls (xu s1 21 2 (min 15 (xw ((s1 21 2) + 1)))) fun s3 =>
  some s3
def F_X10_noted (a1 : Int) (s0 : xW) : Option (Int × xW) :=
  xjn (fun (s1 : xW) =>
    some (a1, s1)
  ) fun j2 =>
  if 0 ≤ (xw a1) then
    xbp (F_X3_add  s0) fun s7 =>
    j2 s7
  else
    j2 s0
def F_X10_buys (a1 : Int) (s0 : xW) : Option (Int × xW) :=
  xbp (F_X3_note  s0) fun s2 =>
  xbd (F_X10_buy a1 s2) fun r4 s5 =>
  xbd (F_X10_noted r4 s5) fun r7 s8 =>
  some (r7, s8)
def F_X10_planToday (s0 : xW) : Option (xW) :=
  xgd ((s0 0 4) ∈ xRules) <|
  xbp (F_X10_planFor (s0 0 4) (s0 17 0) (s0 17 5) s0) fun s3 =>
  some s3
def F_X10_clashes_30 (l2_10 : Int) : Nat → Int → Int → xW → (Int → Int → xW → Option (Int × xW)) → Option (Int × xW)
  | 0, _, _, _, _ => none
  | f + 1, l1_9, l3_11, s12, k =>
    if (xw l3_11) < (xw (s12 92 0)) then
      xbp (F_X4_collide l2_10 l3_11 s12) fun r15 =>
      xjn (fun (l1_16 : Int) (s17 : xW) =>
        F_X10_clashes_30 l2_10 f l1_16 (l3_11 + 1) s17 k
      ) fun j18 =>
      if (xw r15) ≠ 0 then
        if (xw (l1_9 + 1)) = 1 then
          xbp (F_X6_tell_ (xw l2_10) (xw l3_11) s12) fun s24 =>
          j18 (l1_9 + 1) s24
        else
          j18 (l1_9 + 1) s12
      else
        j18 l1_9 s12
    else
      k l1_9 l3_11 s12
def F_X10_clashes_15 : Nat → Int → Int → xW → (Int → Int → xW → Option (Int × xW)) → Option (Int × xW)
  | 0, _, _, _, _ => none
  | f + 1, l1_5, l2_6, s7, k =>
    if (xw l2_6) < (xw (s7 92 0)) then
      F_X10_clashes_30 l2_6 xN l1_5 (l2_6 + 1) s7 fun (l1_28 : Int) (l3_29 : Int) (s30 : xW) =>
      F_X10_clashes_15  f l1_28 (l2_6 + 1) s30 k
    else
      k l1_5 l2_6 s7
def F_X10_clashes (s0 : xW) : Option (Int × xW) :=
  xbp (F_X10_planToday  s0) fun s2 =>
  xbp (F_X6_clear  s2) fun s4 =>
  F_X10_clashes_15  xN 0 0 s4 fun (l1_34 : Int) (l2_35 : Int) (s36 : xW) =>
  some (l1_34, s36)
def F_X10_count (a1 : Int) (s0 : xW) : Option (Int) :=
  if (xw a1) = 0 then
    some (s0 0 14)
  else
  if (xw a1) = 1 then
    some (s0 92 0)
  else
  if (xw a1) = 2 then
    some (s0 17 5)
  else
  if (xw a1) = 3 then
    some (s0 17 2)
  else
  if (xw a1) = 4 then
    some (s0 17 3)
  else
  if (xw a1) = 5 then
    some (s0 17 4)
  else
  if (xw a1) = 6 then
    some (Int.tdiv (xw (s0 17 0)) 10)
  else
  if (xw a1) = 7 then
    some (Int.tmod (xw (s0 17 0)) 10)
  else
  if (xw a1) = 8 then
    xbp (F_X1_of 5 (s0 17 5) s0) fun r11 =>
    some r11
  else
  if (xw a1) = 9 then
    xbp (F_X1_of 7 (s0 17 5) s0) fun r14 =>
    some r14
  else
  if (xw a1) = 10 then
    some (s0 100 2)
  else
  if (xw a1) = 11 then
    some (s0 21 2)
  else
  if (xw a1) = 12 then
    some (s0 3 1)
  else
  if (xw a1) = 13 then
    some (s0 1 1)
  else
  some (-100)
def F_X8_at (a1 : Int) (s0 : xW) : Option (Int) :=
  xjn (fun (t1 : Int) =>
    xgd (0 ≤ t1 ∧ t1 < 65536) <|
    some t1
  ) fun j2 =>
  xjn (
    j2 0
  ) fun j6 =>
  if 0 ≤ (xw a1) then
    if (xw a1) < (xw (s0 1 1)) then
      xgd (0 ≤ a1 ∧ a1 < 80) <|
      j2 (s0 2 a1)
    else
      j6 
  else
    j6 
def F_X8_digit (a1 : Int) (s0 : xW) : Option (Int) :=
  xbp (F_X8_at a1 s0) fun r2 =>
  xli (if 48 ≤ (xw r2) then if (xw r2) ≤ 57 then (r2 - 48) else -1 else -1) fun v5 =>
  some v5
def F_X1_read_2 (l0_1 : Int) (s4 : xW) : Nat → Int → (Int → Option (Int × xW)) → Option (Int × xW)
  | 0, _, _ => none
  | f + 1, l2_3, k =>
    if (xw l2_3) < (xw (s4 1 1)) then
      xjn (
        some (l2_3, s4)
      ) fun j6 =>
      if (xw l2_3) ≠ 20 then
        xbp (F_X8_digit l2_3 s4) fun r11 =>
        if (xw r11) = (-1) then
          j6 
        else
          F_X1_read_2 l0_1 s4 f (l2_3 + 1) k
      else
        j6 
    else
      k l2_3
def F_X1_read_52 (l0_18 : Int) : Nat → Int → xW → (Int → xW → Option (Int × xW)) → Option (Int × xW)
  | 0, _, _, _ => none
  | f + 1, l2_20, s21, k =>
    if (xw l2_20) < (xw (s21 l0_18 1)) then
      xbp (F_X8_digit l2_20 s21) fun r24 =>
      xgd (0 ≤ l2_20 ∧ l2_20 < 20) <|
      xls (xu s21 (l0_18 + 1) l2_20 r24) fun s26 =>
      F_X1_read_52 l0_18 f (l2_20 + 1) s26 k
    else
      k l2_20 s21
def F_X1_read (a0 : Int) (s0 : xW) : Option (Int × xW) :=
  xgd (a0 ∈ xDigs) <|
  F_X1_read_2 a0 s0 xN 0 fun (l2_14 : Int) =>
  if (xw (s0 1 1)) = 0 then
    some (0, s0)
  else
    xls (xu s0 a0 1 (s0 1 1)) fun s16 =>
    F_X1_read_52 a0 xN 0 s16 fun (l2_30 : Int) (s31 : xW) =>
    some (-1, s31)
def F_X8_clear (s0 : xW) : Option (xW) :=
  xls (xu s0 1 1 0) fun s1 =>
  some s1
def F_X10_readDigits (a1 : Int) (s0 : xW) : Option (Int × xW) :=
  xgd (a1 ∈ xDigs) <|
  xbd (F_X1_read a1 s0) fun r2 s3 =>
  xli (if (xw r2) = (-1) then (s3 1 1) else ((-1) - r2)) fun v5 =>
  xbp (F_X8_clear  s3) fun s9 =>
  some (v5, s9)
def F_X10_damps (s0 : xW) : Option (Int × xW) :=
  xbd (F_X10_readDigits 7 s0) fun r2 s3 =>
  some (r2, s3)
def F_X10_passDay (s0 : xW) : Option (Int × xW) :=
  xjn (fun (l1_1 : Int) (s2 : xW) =>
    xls (xu s2 17 5 ((s2 17 5) + 1)) fun s6 =>
    some (l1_1, s6)
  ) fun j3 =>
  if 0 < (xw (s0 17 2)) then
    xgd ((s0 0 4) ∈ xRules) <|
    xbp (F_X10_planFor (s0 0 4) (s0 17 0) (s0 17 5) s0) fun s13 =>
    xbp (F_X4_pairs  s13) fun r15 =>
    xls (xu s13 17 2 ((s13 17 2) - 1)) fun s16 =>
    xls (xu s16 17 3 (min 9999 (xw ((s16 17 3) + r15)))) fun s18 =>
    xgd (0 ≤ (s18 0 14) ∧ (s18 0 14) ≤ 8 ∧ (s18 0 14) ≤ 8) <|
    xls (xcp s18 91 19 (s18 0 14)) fun s21 =>
    j3 r15 s21
  else
    xls (xu s0 17 4 (min 999 (xw ((s0 17 4) + 1)))) fun s9 =>
    j3 (-1) s9
def F_X10_passDays_19 (l1_6 : Int) : Nat → Int → Int → Int → xW → (Int → Int → Int → xW → Option (Int × xW)) → Option (Int × xW)
  | 0, _, _, _, _, _ => none
  | f + 1, l2_7, l3_8, l4_9, s10, k =>
    if (xw l4_9) < (xw l1_6) then
      xbd (F_X10_passDay  s10) fun r13 s14 =>
      xli (if (xw r13) = (-1) then 1 else 0) fun v16 =>
      F_X10_passDays_19 l1_6 f (l2_7 + (max (xw r13) 0)) (l3_8 + v16) (l4_9 + 1) s14 k
    else
      k l2_7 l3_8 l4_9 s10
def F_X10_passDays (a1 : Int) (s0 : xW) : Option (Int × xW) :=
  xjn (
    some (-1, s0)
  ) fun j1 =>
  if 0 ≤ (xw a1) then
    if 60 < (xw a1) then
      j1 
    else
      F_X10_passDays_19 a1 xN 0 0 0 s0 fun (l2_23 : Int) (l3_24 : Int) (l4_25 : Int) (s26 : xW) =>
      xbp (F_X6_tell_ (xw l2_23) (xw l3_24) s26) fun s28 =>
      some ((s28 17 2), s28)
  else
    j1 
def F_X10_days (a1 : Int) (s0 : xW) : Option (Int × xW) :=
  xbp (F_X3_note  s0) fun s2 =>
  xbd (F_X10_passDays a1 s2) fun r4 s5 =>
  xbd (F_X10_noted r4 s5) fun r7 s8 =>
  some (r7, s8)
def F_X10_isDeed (a1 : Int) (s0 : xW) : Option (Int) :=
  xli (if 0 ≤ (xw a1) then if (xw a1) < (xw (s0 92 0)) then 1 else 0 else 0) fun v3 =>
  xgd (v3 = 0 ∨ v3 = 1) <|
  some v3
def F_X4_foes_4 (l1_1 : Int) (s4 : xW) : Nat → Int → Int → (Int → Int → Option (Int)) → Option (Int)
  | 0, _, _, _ => none
  | f + 1, l2_2, l3_3, k =>
    if (xw l3_3) < (xw (s4 92 0)) then
      xbp (F_X4_collide l1_1 l3_3 s4) fun r7 =>
      xli (if (xw r7) ≠ 0 then (xshl 1 l3_3) else 0) fun v9 =>
      F_X4_foes_4 l1_1 s4 f (xor' l2_2 v9) (l3_3 + 1) k
    else
      k l2_2 l3_3
def F_X4_foes (a1 : Int) (s0 : xW) : Option (Int) :=
  F_X4_foes_4 a1 s0 xN 0 0 fun (l2_14 : Int) (l3_15 : Int) =>
  some l2_14
def F_X10_deed (a1 : Int) (a2 : Int) (s0 : xW) : Option (Int × xW) :=
  xbp (F_X10_isDeed a1 s0) fun r2 =>
  xjn (
    none
  ) fun j3 =>
  if (xw r2) ≠ 0 then
    if 0 ≤ (xw a2) then
      if 4 < (xw a2) then
        j3 
      else
        xbp (F_X10_planToday  s0) fun s10 =>
        if (xw a2) = 0 then
          xgd (0 ≤ a1 ∧ a1 < 8) <|
          some ((s10 93 a1), s10)
        else
        if (xw a2) = 1 then
          xgd (0 ≤ a1 ∧ a1 < 8) <|
          some ((s10 20 a1), s10)
        else
        if (xw a2) = 2 then
          xgd (0 ≤ a1 ∧ a1 < 8) <|
          some ((s10 94 a1), s10)
        else
        if (xw a2) = 3 then
          xgd (0 ≤ a1 ∧ a1 < 8) <|
          some ((s10 95 a1), s10)
        else
        xbp (F_X4_foes a1 s10) fun r20 =>
        some (r20, s10)
    else
      j3 
  else
    j3 
def F_X10_isHouse (a1 : Int) (s0 : xW) : Option (Int) :=
  xli (if 0 ≤ (xw a1) then if (xw a1) < (xw (s0 0 14)) then 1 else 0 else 0) fun v3 =>
  xgd (v3 = 0 ∨ v3 = 1) <|
  some v3
def F_X10_fitsDeed (a1 : Int) (a2 : Int) (a3 : Int) (s0 : xW) : Option (Int × xW) :=
  if 8 ≤ (xw a1) then
    some (0, s0)
  else
    xbp (F_X8_digit a3 s0) fun r3 =>
    if (xw a2) = 0 then
      xgd (0 ≤ a1 ∧ a1 < 8) <|
      xls (xu s0 93 a1 (max 0 (xw r3))) fun s38 =>
      xgd (0 ≤ a1 ∧ a1 < 8) <|
      xls (xu s38 94 a1 0) fun s41 =>
      xbp (F_X10_isHouse r3 s41) fun r44 =>
      xgd (r44 = 0 ∨ r44 = 1) <|
      some (r44, s41)
    else
      if (xw a2) = 1 then
        xgd (0 ≤ a1 ∧ a1 < 8) <|
        xls (xu s0 20 a1 r3) fun s30 =>
        xli (if 0 < (xw r3) then 1 else 0) fun v33 =>
        xgd (v33 = 0 ∨ v33 = 1) <|
        some (v33, s30)
      else
        xbp (F_X8_at a3 s0) fun r7 =>
        xjn (fun (t8 : Int) =>
          xjn (fun (s12 : xW) =>
            xgd (t8 = 0 ∨ t8 = 1) <|
            some (t8, s12)
          ) fun j13 =>
          if (xw t8) ≠ 0 then
            xgd (0 ≤ a1 ∧ a1 < 8) <|
            xgd (0 ≤ a1 ∧ a1 < 8) <|
            xls (xu s0 94 a1 (xor' (s0 94 a1) (xshl 1 (r7 - 97)))) fun s20 =>
            j13 s20
          else
            j13 s0
        ) fun j9 =>
        xjn (
          j9 0
        ) fun j22 =>
        if 0 ≤ (xw (r7 - 97)) then
          if (xw (r7 - 97)) < 4 then
            xgd (0 ≤ a1 ∧ a1 < 8) <|
            if (xw (xshr (s0 94 a1) (r7 - 97))) = 0 then
              j9 1
            else
              j22 
          else
            j22 
        else
          j22 
def F_X10_readDeeds_6 : Nat → Int → Int → Int → xW → (Int → Int → Int → xW → Option (Int × xW)) → Option (Int × xW)
  | 0, _, _, _, _, _ => none
  | f + 1, l1_1, l2_2, l3_3, s4, k =>
    if (xw l3_3) < (xw (s4 1 1)) then
      if (xw l3_3) = 55 then
        some (((-1) - l3_3), s4)
      else
        xjn (fun (l1_7 : Int) (l2_8 : Int) (s9 : xW) =>
          F_X10_readDeeds_6  f l1_7 l2_8 (l3_3 + 1) s9 k
        ) fun j10 =>
        xjn (
          xbd (F_X10_fitsDeed ((s4 92 0) + l1_1) l2_2 l3_3 s4) fun r17 s18 =>
          if (xw r17) ≠ 0 then
            j10 l1_1 (l2_2 + 1) s18
          else
            some (((-1) - l3_3), s18)
        ) fun j13 =>
        if 2 < (xw l2_2) then
          xbp (F_X8_at l3_3 s4) fun r22 =>
          if (xw r22) = 59 then
            j10 (l1_1 + 1) 0 s4
          else
            j13 
        else
          j13 
    else
      k l1_1 l2_2 l3_3 s4
def F_X10_readDeeds (s0 : xW) : Option (Int × xW) :=
  F_X10_readDeeds_6  xN 0 0 0 s0 fun (l1_28 : Int) (l2_29 : Int) (l3_30 : Int) (s31 : xW) =>
  xli (if 2 < (xw l2_29) then (l1_28 + 1) else ((-1) - (s31 1 1))) fun v33 =>
  some (v33, s31)
def F_X10_forgetPast_9 : Nat → Int → xW → (Int → xW → Option (xW)) → Option (xW)
  | 0, _, _, _ => none
  | f + 1, l1_3, s4, k =>
    if (xw l1_3) < 3 then
      xgd (0 ≤ l1_3 ∧ l1_3 < 3) <|
      xls (xu s4 88 l1_3 0) fun s7 =>
      F_X10_forgetPast_9  f (l1_3 + 1) s7 k
    else
      k l1_3 s4
def F_X10_forgetPast (s0 : xW) : Option (xW) :=
  xbp (F_X3_drop  s0) fun s2 =>
  F_X10_forgetPast_9  xN 0 s2 fun (l1_11 : Int) (s12 : xW) =>
  some s12
def F_X10_deeds (s0 : xW) : Option (Int × xW) :=
  xjn (fun (t1 : Int) (s2 : xW) =>
    xjn (fun (s6 : xW) =>
      xbp (F_X8_clear  s6) fun s11 =>
      some (t1, s11)
    ) fun j7 =>
    if 0 < (xw t1) then
      xls (xu s2 92 0 ((s2 92 0) + t1)) fun s13 =>
      xbp (F_X10_forgetPast  s13) fun s16 =>
      j7 s16
    else
      j7 s2
  ) fun j3 =>
  if (xw (s0 1 1)) = 0 then
    j3 0 s0
  else
    xbd (F_X10_readDeeds  s0) fun r19 s20 =>
    j3 r19 s20
def F_X10_digitsOf (a0 : Int) (s0 : xW) : Option (Int) :=
  xjn (
    some 0
  ) fun j1 =>
  xjn (
    some 2
  ) fun j4 =>
  xjn (
    some 1
  ) fun j7 =>
  if (xw a0) = 98 then
    j7 
  else
  if (xw a0) = 99 then
    j1 
  else
  if (xw a0) = 100 then
    j1 
  else
  if (xw a0) = 101 then
    j1 
  else
  if (xw a0) = 102 then
    j1 
  else
  if (xw a0) = 103 then
    j4 
  else
  if (xw a0) = 104 then
    j1 
  else
  if (xw a0) = 105 then
    j1 
  else
  if (xw a0) = 106 then
    j1 
  else
  if (xw a0) = 107 then
    j1 
  else
  if (xw a0) = 108 then
    j4 
  else
  if (xw a0) = 109 then
    some 3
  else
  if (xw a0) = 110 then
    j7 
  else
  j1 
def F_X10_placeOf (a0 : Int) (a1 : Int) (s0 : xW) : Option (Int) :=
  xli (if 0 ≤ (xw a0) then if (xw a0) < 10 then if 0 ≤ (xw a1) then if (xw a1) < 10 then 1 else 0 else 0 else 0 else 0) fun v5 =>
  xli (if (xw v5) ≠ 0 then ((a0 * 10) + a1) else -1) fun v9 =>
  some v9
def F_X10_haul (a1 : Int) (a2 : Int) (s0 : xW) : Option (Int × xW) :=
  xbp (F_X10_placeOf a1 a2 s0) fun r2 =>
  if (xw r2) = (-1) then
    some (-1, s0)
  else
    xbp (F_X10_far (s0 17 0) r2 s0) fun r5 =>
    xls (xu s0 17 0 r2) fun s6 =>
    xli (if (xw r5) = 0 then -2 else r5) fun v9 =>
    some (v9, s6)
def F_X10_move (a1 : Int) (a2 : Int) (a3 : Int) (s0 : xW) : Option (Int × xW) :=
  xbp (F_X10_placeOf a2 a3 s0) fun r2 =>
  xjn (
    some (-1, s0)
  ) fun j3 =>
  if (xw r2) ≠ (-1) then
    xbp (F_X10_isHouse a1 s0) fun r8 =>
    if (xw r8) = 0 then
      j3 
    else
      xgd (0 ≤ a1 ∧ a1 < 8) <|
      xbp (F_X10_far (s0 18 a1) r2 s0) fun r12 =>
      xgd (0 ≤ a1 ∧ a1 < 8) <|
      xls (xu s0 18 a1 r2) fun s14 =>
      xli (if (xw r12) = 0 then -2 else r12) fun v17 =>
      some (v17, s14)
  else
    j3 
def F_X10_lengthen (a1 : Int) (a2 : Int) (s0 : xW) : Option (Int × xW) :=
  xbp (F_X10_isDeed a1 s0) fun r2 =>
  xjn (
    some (-1, s0)
  ) fun j3 =>
  if (xw r2) ≠ 0 then
    if 1 ≤ (xw a2) then
      if 9 < (xw a2) then
        j3 
      else
        xgd (0 ≤ a1 ∧ a1 < 8) <|
        xgd (0 ≤ a1 ∧ a1 < 8) <|
        xls (xu s0 20 a1 a2) fun s11 =>
        xli (if (xw (s0 20 a1)) = (xw a2) then -2 else (s0 20 a1)) fun v14 =>
        some (v14, s11)
    else
      j3 
  else
    j3 
def F_X10_doAct (a1 : Int) (s0 : xW) : Option (Int × xW) :=
  xbp (F_X8_digit (a1 + 1) s0) fun r2 =>
  xbp (F_X8_digit (a1 + 2) s0) fun r4 =>
  xbp (F_X8_at a1 s0) fun r6 =>
  if (xw r6) = 98 then
    xbd (F_X10_buy r2 s0) fun r9 s10 =>
    some (r9, s10)
  else
  if (xw r6) = 103 then
    xbd (F_X10_haul r2 r4 s0) fun r13 s14 =>
    some (r13, s14)
  else
  if (xw r6) = 109 then
    xbp (F_X8_digit (a1 + 3) s0) fun r17 =>
    xbd (F_X10_move r2 r4 r17 s0) fun r19 s20 =>
    some (r19, s20)
  else
  if (xw r6) = 110 then
    xbd (F_X10_passDays r2 s0) fun r23 s24 =>
    some (r23, s24)
  else
  xbd (F_X10_lengthen r2 r4 s0) fun r26 s27 =>
  some (r26, s27)
def F_X10_draw (a1 : Int) (s0 : xW) : Option (Int × xW) :=
  xls (xu s0 0 15 (((s0 0 15) * 1103515245) + 12345)) fun s1 =>
  xjn (fun (t3 : Int) =>
    some (t3, s1)
  ) fun j4 =>
  if 0 < (xw a1) then
    xgd ((xw a1) ≠ 0) <|
    j4 (Int.tmod (xw (xushr (s1 0 15) 16)) (xw a1))
  else
    j4 0
def F_X10_minuteOfEcho (a1 : Int) (s0 : xW) : Option (Int × xW) :=
  xgd (0 ≤ a1 ∧ a1 < 8) <|
  xbp (F_X10_far (s0 17 0) (s0 17 1) s0) fun r3 =>
  xbp (F_X10_far (s0 17 1) (s0 18 a1) s0) fun r5 =>
  xbp (F_X1_of 7 (s0 17 5) s0) fun r7 =>
  xbp (F_X1_of 5 (s0 17 5) s0) fun r9 =>
  xbp (F_X0_on (s0 17 5) r7 r9 s0) fun s11 =>
  xgd ((s11 0 4) ∈ xRules) <|
  xbd (F_X0_minute (s11 0 4) (r3 + r5) (s0 18 a1) 1 s11) fun r14 s15 =>
  some (r14, s15)
def F_X10_echo_25 (l1_9 : Int) (l2_10 : Int) (s13 : xW) : Nat → Int → Int → (Int → Int → Option (Int × xW)) → Option (Int × xW)
  | 0, _, _, _ => none
  | f + 1, l3_11, l4_12, k =>
    if (xw l4_12) < (xw (s13 0 14)) then
      xgd (0 ≤ l4_12 ∧ l4_12 < 8) <|
      xli (if (xw l2_10) < (xw (s13 91 l4_12)) then (xshl 1 l4_12) else 0) fun v17 =>
      F_X10_echo_25 l1_9 l2_10 s13 f (xor' l3_11 v17) (l4_12 + 1) k
    else
      k l3_11 l4_12
def F_X10_echo (a1 : Int) (s0 : xW) : Option (Int × xW) :=
  xbp (F_X10_isHouse a1 s0) fun r2 =>
  if (xw r2) = 0 then
    some (-1, s0)
  else
    xbp (F_X10_planToday  s0) fun s5 =>
    xbd (F_X10_minuteOfEcho a1 s5) fun r7 s8 =>
    F_X10_echo_25 a1 r7 s8 xN 0 0 fun (l3_22 : Int) (l4_23 : Int) =>
    xbp (F_X6_tell (xw l3_22) s8) fun s25 =>
    xgd (0 ≤ a1 ∧ a1 < 8) <|
    some (((100 + r7) - (s25 91 a1)), s25)
def F_X8_cut (a1 : Int) (s0 : xW) : Option (Int × xW) :=
  xjn (
    some (0, s0)
  ) fun j1 =>
  if 0 ≤ (xw a1) then
    if (xw (s0 1 1)) < (xw a1) then
      j1 
    else
      xls (xu s0 1 1 a1) fun s6 =>
      some (1, s6)
  else
    j1 
def F_X10_end (a1 : Int) (s0 : xW) : Option (Int × xW) :=
  xbd (F_X8_cut a1 s0) fun r2 s3 =>
  xgd (r2 = 0 ∨ r2 = 1) <|
  some (r2, s3)
def F_X10_entry (a0 : Int) (a1 : Int) (s0 : xW) : Option (Int) :=
  if (xw a0) = 0 then
    some (xi2b a1)
  else
    xli (if (xw a0) = 1 then (xi2s a1) else a1) fun v3 =>
    some v3
def F_X10_findFoes_6 : Nat → Int → xW → (Int → xW → Option (Int × xW)) → Option (Int × xW)
  | 0, _, _, _ => none
  | f + 1, l1_3, s4, k =>
    if (xw l1_3) < (xw (s4 92 0)) then
      xbp (F_X4_foes l1_3 s4) fun r7 =>
      xgd (0 ≤ l1_3 ∧ l1_3 < 8) <|
      xls (xu s4 107 l1_3 r7) fun s9 =>
      F_X10_findFoes_6  f (l1_3 + 1) s9 k
    else
      k l1_3 s4
def F_X10_findFoes (s0 : xW) : Option (Int × xW) :=
  xbp (F_X10_planToday  s0) fun s2 =>
  F_X10_findFoes_6  xN 0 s2 fun (l1_13 : Int) (s14 : xW) =>
  some (((xshl 1 (s14 92 0)) - 1), s14)
def F_X10_isPeaceful_2 (l1_1 : Int) (s3 : xW) : Nat → Int → (Int → Option (Int)) → Option (Int)
  | 0, _, _ => none
  | f + 1, l2_2, k =>
    if (xw l2_2) < (xw (s3 92 0)) then
      xjn (
        F_X10_isPeaceful_2 l1_1 s3 f (l2_2 + 1) k
      ) fun j5 =>
      if (xw (xand (xshr l1_1 l2_2) 1)) = 1 then
        xgd (0 ≤ l2_2 ∧ l2_2 < 8) <|
        if (xw (xand (s3 107 l2_2) l1_1)) ≠ 0 then
          some 0
        else
          j5 
      else
        j5 
    else
      k l2_2
def F_X10_isPeaceful (a1 : Int) (s0 : xW) : Option (Int) :=
  F_X10_isPeaceful_2 a1 s0 xN 0 fun (l2_12 : Int) =>
  some 1
def F_X10_fewest_20 (l1_4 : Int) (s8 : xW) : Nat → Int → Int → Int → (Int → Int → Int → Option (Int × xW)) → Option (Int × xW)
  | 0, _, _, _, _ => none
  | f + 1, l2_5, l3_6, l4_7, k =>
    if (xw l4_7) ≤ (xw l1_4) then
      xjn (fun (l2_10 : Int) (l3_11 : Int) =>
        F_X10_fewest_20 l1_4 s8 f l2_10 l3_11 (l4_7 + 1) k
      ) fun j12 =>
      if (xw (xbc l4_7)) < (xw l2_5) then
        xbp (F_X10_isPeaceful (xand l1_4 (xxor l4_7 (-1))) s8) fun r17 =>
        if (xw r17) ≠ 0 then
          j12 (xbc l4_7) l4_7
        else
          j12 l2_5 l3_6
      else
        j12 l2_5 l3_6
    else
      k l2_5 l3_6 l4_7
def F_X10_fewest (s0 : xW) : Option (Int × xW) :=
  xbd (F_X10_findFoes  s0) fun r2 s3 =>
  F_X10_fewest_20 r2 s3 xN ((s3 92 0) + 1) 0 0 fun (l2_22 : Int) (l3_23 : Int) (l4_24 : Int) =>
  xbp (F_X6_tell (xw l3_23) s3) fun s26 =>
  some (l2_22, s26)
def F_X10_findNear_19 (l1_8 : Int) (l2_9 : Int) : Nat → Int → xW → (Int → xW → Option (Int × xW)) → Option (Int × xW)
  | 0, _, _, _ => none
  | f + 1, l3_10, s11, k =>
    if (xw l3_10) < (xw (s11 0 14)) then
      xgd (0 ≤ l2_9 ∧ l2_9 < 8) <|
      xgd (0 ≤ l2_9 ∧ l2_9 < 8) <|
      xgd (0 ≤ l3_10 ∧ l3_10 < 8) <|
      xbp (F_X10_far (s11 18 l2_9) (s11 18 l3_10) s11) fun r17 =>
      xli (if (xw r17) ≤ (xw l1_8) then (xshl 1 l3_10) else 0) fun v19 =>
      xgd (0 ≤ l2_9 ∧ l2_9 < 8) <|
      xls (xu s11 107 l2_9 (xor' (s11 107 l2_9) v19)) fun s23 =>
      F_X10_findNear_19 l1_8 l2_9 f (l3_10 + 1) s23 k
    else
      k l3_10 s11
def F_X10_findNear_2 (l1_1 : Int) : Nat → Int → xW → (Int → xW → Option (Int × xW)) → Option (Int × xW)
  | 0, _, _, _ => none
  | f + 1, l2_2, s3, k =>
    if (xw l2_2) < (xw (s3 0 14)) then
      xgd (0 ≤ l2_2 ∧ l2_2 < 8) <|
      xls (xu s3 107 l2_2 0) fun s6 =>
      F_X10_findNear_19 l1_1 l2_2 xN 0 s6 fun (l3_27 : Int) (s28 : xW) =>
      F_X10_findNear_2 l1_1 f (l2_2 + 1) s28 k
    else
      k l2_2 s3
def F_X10_findNear (a1 : Int) (s0 : xW) : Option (Int × xW) :=
  F_X10_findNear_2 a1 xN 0 s0 fun (l2_31 : Int) (s32 : xW) =>
  some (((xshl 1 (s32 0 14)) - 1), s32)
def F_X10_sumOfChances_5 (l1_1 : Int) (s4 : xW) : Nat → Int → Int → (Int → Int → Option (Int)) → Option (Int)
  | 0, _, _, _ => none
  | f + 1, l2_2, l4_3, k =>
    if (xw l4_3) < (xw l1_1) then
      xgd (0 ≤ l4_3 ∧ l4_3 < 16) <|
      F_X10_sumOfChances_5 l1_1 s4 f (l2_2 + (s4 108 l4_3)) (l4_3 + 1) k
    else
      k l2_2 l4_3
def F_X10_sumOfChances (a1 : Int) (s0 : xW) : Option (Int) :=
  F_X10_sumOfChances_5 a1 s0 xN 0 0 fun (l2_9 : Int) (l4_10 : Int) =>
  some l2_9
def F_X10_fireOnce_17 (l2_3 : Int) (l3_4 : Int) : Nat → Int → xW → (Int → xW → Option (xW)) → Option (xW)
  | 0, _, _, _ => none
  | f + 1, l5_5, s6, k =>
    if 0 < (xw l5_5) then
      xgd (0 ≤ (l5_5 - 1) ∧ (l5_5 - 1) < 16) <|
      xgd (0 ≤ l5_5 ∧ l5_5 < 16) <|
      xls (xu s6 108 l5_5 ((s6 108 (l5_5 - 1)) * (xw l2_3))) fun s10 =>
      F_X10_fireOnce_17 l2_3 l3_4 f (l5_5 + (-1)) s10 k
    else
      k l5_5 s6
def F_X10_fireOnce (a1 : Int) (a2 : Int) (s0 : xW) : Option (xW) :=
  xbp (F_X10_sumOfChances a1 s0) fun r2 =>
  F_X10_fireOnce_17 a2 (r2 * (xw (10 - a2))) xN (a1 - 1) s0 fun (l5_14 : Int) (s15 : xW) =>
  xls (xu s15 108 0 (r2 * (xw (10 - a2)))) fun s16 =>
  some s16
def F_X10_fits (s0 : xW) : Option (Int × xW) :=
  xbd (F_X10_findWeathers  s0) fun r2 s3 =>
  xbp (F_X6_clear  s3) fun s5 =>
  xjn (fun (s6 : xW) =>
    some (r2, s6)
  ) fun j7 =>
  if 0 < (xw r2) then
    xbp (F_X6_tell_ (xw (Int.tdiv (xw (s5 103 0)) 10)) (xw (Int.tmod (xw (s5 103 0)) 10)) s5) fun s12 =>
    j7 s12
  else
    j7 s5
def F_X10_fitsHouse (a1 : Int) (s0 : xW) : Option (Int × xW) :=
  xbp (F_X8_digit a1 s0) fun r2 =>
  if (xw (Int.tmod (xw a1) 3)) = 2 then
    xbp (F_X8_at a1 s0) fun r25 =>
    xli (if (xw r25) = 59 then 1 else 0) fun v27 =>
    xgd (v27 = 0 ∨ v27 = 1) <|
    some (v27, s0)
  else
    xjn (
      some (0, s0)
    ) fun j4 =>
    if (xw r2) ≠ (-1) then
      if 8 ≤ (xw ((s0 0 14) + (Int.tdiv (xw a1) 3))) then
        j4 
      else
        xjn (fun (s9 : xW) =>
          some (1, s9)
        ) fun j10 =>
        if (xw (Int.tmod (xw a1) 3)) = 0 then
          xgd (0 ≤ ((s0 0 14) + (Int.tdiv (xw a1) 3)) ∧ ((s0 0 14) + (Int.tdiv (xw a1) 3)) < 8) <|
          xls (xu s0 18 ((s0 0 14) + (Int.tdiv (xw a1) 3)) (r2 * 10)) fun s19 =>
          xgd (0 ≤ ((s0 0 14) + (Int.tdiv (xw a1) 3)) ∧ ((s0 0 14) + (Int.tdiv (xw a1) 3)) < 8) <|
          xls (xu s19 19 ((s0 0 14) + (Int.tdiv (xw a1) 3)) 0) fun s22 =>
          j10 s22
        else
          xgd (0 ≤ ((s0 0 14) + (Int.tdiv (xw a1) 3)) ∧ ((s0 0 14) + (Int.tdiv (xw a1) 3)) < 8) <|
          xgd (0 ≤ ((s0 0 14) + (Int.tdiv (xw a1) 3)) ∧ ((s0 0 14) + (Int.tdiv (xw a1) 3)) < 8) <|
          xls (xu s0 18 ((s0 0 14) + (Int.tdiv (xw a1) 3)) ((s0 18 ((s0 0 14) + (Int.tdiv (xw a1) 3))) + r2)) fun s16 =>
          j10 s16
    else
      j4 
def F_X10_forget (s0 : xW) : Option (Int × xW) :=
  xls (xu s0 100 2 0) fun s1 =>
  some ((s0 100 2), s1)
def F_X2_isMove (a0 : Int) (a1 : Int) (s0 : xW) : Option (Int) :=
  xli (if (xw a0) = 0 then if (xw a1) ≤ 0 then if 0 < (xw a0) then if (xw a1) ≠ 0 then if (xw a0) = 1 then if (xw a1) = 1 then 1 else 0 else 0 else 1 else if (xw a0) = 1 then if (xw a1) = 1 then 1 else 0 else 0 else 1 else if 0 < (xw a0) then if (xw a1) ≠ 0 then if (xw a0) = 1 then if (xw a1) = 1 then 1 else 0 else 0 else 1 else if (xw a0) = 1 then if (xw a1) = 1 then 1 else 0 else 0) fun v15 =>
  xgd (v15 = 0 ∨ v15 = 1) <|
  some v15
def F_X2_findLosing_32 (l1_9 : Int) (l2_10 : Int) (l3_11 : Int) : Nat → Int → xW → (Int → xW → Option (xW)) → Option (xW)
  | 0, _, _, _ => none
  | f + 1, l4_12, s13, k =>
    if (xw l4_12) ≤ 20 then
      xgd (0 ≤ l2_10 ∧ l2_10 < 21) <|
      xli (if (xw (s13 106 l2_10)) = 0 then if (xw (xand (xshr (xor' l1_9 l3_11) l4_12) 1)) = 1 then 1 else 0 else 1) fun v18 =>
      xjn (fun (s21 : xW) =>
        F_X2_findLosing_32 l1_9 l2_10 l3_11 f (l4_12 + 1) s21 k
      ) fun j22 =>
      if (xw v18) = 0 then
        if 0 < (xw (l2_10 + l4_12)) then
          xgd (0 ≤ l2_10 ∧ l2_10 < 21) <|
          xgd (0 ≤ l2_10 ∧ l2_10 < 21) <|
          xls (xu s13 106 l2_10 (xor' (s13 106 l2_10) (xshl 1 l4_12))) fun s29 =>
          j22 s29
        else
          j22 s13
      else
        j22 s13
    else
      k l4_12 s13
def F_X2_findLosing_4 : Nat → Int → Int → xW → (Int → Int → xW → Option (xW)) → Option (xW)
  | 0, _, _, _, _ => none
  | f + 1, l1_1, l2_2, s3, k =>
    if (xw l2_2) ≤ 20 then
      xjn (fun (t5 : Int) =>
        F_X2_findLosing_32 l1_1 l2_2 t5 xN 0 s3 fun (l4_33 : Int) (s34 : xW) =>
        xgd (0 ≤ l2_2 ∧ l2_2 < 21) <|
        F_X2_findLosing_4  f (xor' l1_1 (s34 106 l2_2)) (l2_2 + 1) s34 k
      ) fun j6 =>
      if 0 < (xw l2_2) then
        xgd (0 ≤ (l2_2 - 1) ∧ (l2_2 - 1) < 21) <|
        j6 (xshl (s3 106 (l2_2 - 1)) 1)
      else
        j6 0
    else
      k l1_1 l2_2 s3
def F_X2_findLosing (s0 : xW) : Option (xW) :=
  F_X2_findLosing_4  xN 0 0 s0 fun (l1_41 : Int) (l2_42 : Int) (s43 : xW) =>
  some s43
def F_X2_loses (a1 : Int) (a2 : Int) (s0 : xW) : Option (Int × xW) :=
  xjn (fun (s1 : xW) =>
    xgd (0 ≤ a1 ∧ a1 < 21) <|
    xli (if (xw (xand (xshr (s1 106 a1) a2) 1)) = 1 then 1 else 0) fun v7 =>
    xgd (v7 = 0 ∨ v7 = 1) <|
    some (v7, s1)
  ) fun j2 =>
  if (xw (s0 105 1)) = 0 then
    xbp (F_X2_findLosing  s0) fun s13 =>
    xls (xu s13 105 1 1) fun s14 =>
    j2 s14
  else
    j2 s0
def F_X10_forts_50 (l1_18 : Int) (l2_19 : Int) (l3_20 : Int) : Nat → Int → xW → (Int → xW → Option (Int × xW)) → Option (Int × xW)
  | 0, _, _, _ => none
  | f + 1, l4_21, s22, k =>
    if (xw l4_21) ≤ (xw l2_19) then
      xbp (F_X2_isMove l3_20 l4_21 s22) fun r25 =>
      xjn (fun (s26 : xW) =>
        F_X10_forts_50 l1_18 l2_19 l3_20 f (l4_21 + 1) s26 k
      ) fun j27 =>
      if (xw r25) ≠ 0 then
        xbd (F_X2_loses (l1_18 - l3_20) (l2_19 - l4_21) s22) fun r32 s33 =>
        if (xw r32) ≠ 0 then
          xbp (F_X6_tell_ (xw l3_20) (xw l4_21) s33) fun s36 =>
          some (1, s36)
        else
          j27 s33
      else
        j27 s22
    else
      k l4_21 s22
def F_X10_forts_42 (l1_13 : Int) (l2_14 : Int) : Nat → Int → xW → (Int → xW → Option (Int × xW)) → Option (Int × xW)
  | 0, _, _, _ => none
  | f + 1, l3_15, s16, k =>
    if (xw l3_15) ≤ (xw l1_13) then
      F_X10_forts_50 l1_13 l2_14 l3_15 xN 0 s16 fun (l4_39 : Int) (s40 : xW) =>
      F_X10_forts_42 l1_13 l2_14 f (l3_15 + 1) s40 k
    else
      k l3_15 s16
def F_X10_forts (a1 : Int) (a2 : Int) (s0 : xW) : Option (Int × xW) :=
  xjn (
    some (-1, s0)
  ) fun j1 =>
  if 0 ≤ (xw a1) then
    if (xw a1) ≤ 20 then
      if 0 ≤ (xw a2) then
        if 20 < (xw a2) then
          j1 
        else
          xjn (
            xbp (F_X6_clear  s0) fun s12 =>
            F_X10_forts_42 a1 a2 xN 0 s12 fun (l3_43 : Int) (s44 : xW) =>
            some (0, s44)
          ) fun j8 =>
          if (xw a1) = 0 then
            if (xw a2) = 0 then
              some (-2, s0)
            else
              j8 
          else
            j8 
      else
        j1 
    else
      j1 
  else
    j1 
def F_X4_sort_12 (l1_4 : Int) : Nat → Int → xW → (Int → xW → Option (xW)) → Option (xW)
  | 0, _, _, _ => none
  | f + 1, l2_5, s6, k =>
    if 0 < (xw l2_5) then
      xgd (0 ≤ (l2_5 - 1) ∧ (l2_5 - 1) < 8) <|
      xgd (0 ≤ (s6 97 (l2_5 - 1)) ∧ (s6 97 (l2_5 - 1)) < 8) <|
      xgd (0 ≤ l1_4 ∧ l1_4 < 8) <|
      if (xw (s6 95 l1_4)) < (xw (s6 95 (s6 97 (l2_5 - 1)))) then
        xgd (0 ≤ (l2_5 - 1) ∧ (l2_5 - 1) < 8) <|
        xgd (0 ≤ l2_5 ∧ l2_5 < 8) <|
        xls (xu s6 97 l2_5 (s6 97 (l2_5 - 1))) fun s14 =>
        F_X4_sort_12 l1_4 f (l2_5 + (-1)) s14 k
      else
        k l2_5 s6
    else
      k l2_5 s6
def F_X4_sort_2 : Nat → Int → xW → (Int → xW → Option (xW)) → Option (xW)
  | 0, _, _, _ => none
  | f + 1, l1_1, s2, k =>
    if (xw l1_1) < (xw (s2 92 0)) then
      F_X4_sort_12 l1_1 xN l1_1 s2 fun (l2_18 : Int) (s19 : xW) =>
      xgd (0 ≤ l2_18 ∧ l2_18 < 8) <|
      xls (xu s19 97 l2_18 l1_1) fun s21 =>
      F_X4_sort_2  f (l1_1 + 1) s21 k
    else
      k l1_1 s2
def F_X4_sort (s0 : xW) : Option (xW) :=
  F_X4_sort_2  xN 0 s0 fun (l1_25 : Int) (s26 : xW) =>
  some s26
def F_X4_shareOut_22 (l1_6 : Int) (l2_7 : Int) (l3_8 : Int) (s10 : xW) : Nat → Int → (Int → Option (Int × xW)) → Option (Int × xW)
  | 0, _, _ => none
  | f + 1, l4_9, k =>
    if (xw l4_9) < (xw l1_6) then
      xgd (0 ≤ l4_9 ∧ l4_9 < 8) <|
      xgd (0 ≤ l3_8 ∧ l3_8 < 8) <|
      if (xw (s10 95 l3_8)) < (xw (s10 99 l4_9)) then
        F_X4_shareOut_22 l1_6 l2_7 l3_8 s10 f (l4_9 + 1) k
      else
        k l4_9
    else
      k l4_9
def F_X4_shareOut_4 : Nat → Int → Int → xW → (Int → Int → xW → Option (Int × xW)) → Option (Int × xW)
  | 0, _, _, _, _ => none
  | f + 1, l1_1, l2_2, s3, k =>
    if (xw l2_2) < (xw (s3 92 0)) then
      xgd (0 ≤ l2_2 ∧ l2_2 < 8) <|
      F_X4_shareOut_22 l1_1 l2_2 (s3 97 l2_2) s3 xN 0 fun (l4_16 : Int) =>
      xgd (0 ≤ (s3 97 l2_2) ∧ (s3 97 l2_2) < 8) <|
      xls (xu s3 98 (s3 97 l2_2) l4_16) fun s18 =>
      xgd (0 ≤ (s3 97 l2_2) ∧ (s3 97 l2_2) < 8) <|
      xgd (0 ≤ l4_16 ∧ l4_16 < 8) <|
      xls (xu s18 99 l4_16 (s18 96 (s3 97 l2_2))) fun s22 =>
      F_X4_shareOut_4  f (max (xw l1_1) (xw (l4_16 + 1))) (l2_2 + 1) s22 k
    else
      k l1_1 l2_2 s3
def F_X4_shareOut (s0 : xW) : Option (Int × xW) :=
  F_X4_shareOut_4  xN 0 0 s0 fun (l1_27 : Int) (l2_28 : Int) (s29 : xW) =>
  some (l1_27, s29)
def F_X10_hands_28 (l1_10 : Int) : Nat → Int → xW → (Int → xW → Option (Int × xW)) → Option (Int × xW)
  | 0, _, _, _ => none
  | f + 1, l2_11, s12, k =>
    if (xw l2_11) < (xw (s12 92 0)) then
      xgd (0 ≤ l2_11 ∧ l2_11 < 8) <|
      xbp (F_X6_add (xw (s12 98 l2_11)) s12) fun s16 =>
      F_X10_hands_28 l1_10 f (l2_11 + 1) s16 k
    else
      k l2_11 s12
def F_X10_hands (s0 : xW) : Option (Int × xW) :=
  xbp (F_X10_planToday  s0) fun s2 =>
  xbp (F_X4_sort  s2) fun s4 =>
  xbd (F_X4_shareOut  s4) fun r6 s7 =>
  xbp (F_X6_clear  s7) fun s9 =>
  F_X10_hands_28 r6 xN 0 s9 fun (l2_19 : Int) (s20 : xW) =>
  some (r6, s20)
def F_X10_hauls (a1 : Int) (a2 : Int) (s0 : xW) : Option (Int × xW) :=
  xbp (F_X3_note  s0) fun s2 =>
  xbd (F_X10_haul a1 a2 s2) fun r4 s5 =>
  xbd (F_X10_noted r4 s5) fun r7 s8 =>
  some (r7, s8)
def F_X5_add (a1 : Int) (a2 : Int) (s0 : xW) : Option (Int × xW) :=
  if 10 ≤ (xw (s0 100 2)) then
    some (0, s0)
  else
    xgd (0 ≤ (s0 100 2) ∧ (s0 100 2) < 10) <|
    xls (xu s0 101 (s0 100 2) a1) fun s3 =>
    xgd (0 ≤ (s3 100 2) ∧ (s3 100 2) < 10) <|
    xls (xu s3 102 (s3 100 2) a2) fun s6 =>
    xls (xu s6 100 2 ((s6 100 2) + 1)) fun s8 =>
    some (1, s8)
def F_X10_heard (a1 : Int) (a2 : Int) (s0 : xW) : Option (Int × xW) :=
  xbp (F_X10_isHouse a1 s0) fun r2 =>
  xjn (fun (s3 : xW) =>
    some (-1, s3)
  ) fun j4 =>
  if (xw r2) ≠ 0 then
    if 0 ≤ (xw a2) then
      if (xw a2) ≤ 199 then
        xbd (F_X5_add a1 a2 s0) fun r11 s12 =>
        if (xw r11) = 0 then
          j4 s12
        else
          some ((s12 100 2), s12)
      else
        j4 s0
    else
      j4 s0
  else
    j4 s0
def F_X10_setHill (a1 : Int) (a2 : Int) (s0 : xW) : Option (Int × xW) :=
  xbp (F_X10_placeOf a1 a2 s0) fun r2 =>
  if (xw r2) = (-1) then
    some (-1, s0)
  else
    xbp (F_X10_far (s0 17 1) r2 s0) fun r5 =>
    xls (xu s0 17 1 r2) fun s6 =>
    some (r5, s6)
def F_X10_hill (a1 : Int) (a2 : Int) (s0 : xW) : Option (Int × xW) :=
  xbp (F_X3_note  s0) fun s2 =>
  xbd (F_X10_setHill a1 a2 s2) fun r4 s5 =>
  xbd (F_X10_noted r4 s5) fun r7 s8 =>
  some (r7, s8)
def F_X4_holdBack (a1 : Int) (s0 : xW) : Option (xW) :=
  xgd (0 ≤ a1 ∧ a1 < 8) <|
  xgd (0 ≤ a1 ∧ a1 < 8) <|
  xls (xu s0 95 a1 ((s0 95 a1) + 1)) fun s3 =>
  xgd (0 ≤ a1 ∧ a1 < 8) <|
  xgd (0 ≤ a1 ∧ a1 < 8) <|
  xls (xu s3 96 a1 ((s3 96 a1) + 1)) fun s7 =>
  some s7
def F_X10_holds_16 (l1_6 : Int) : Nat → Int → xW → (Int → xW → Option (Int × xW)) → Option (Int × xW)
  | 0, _, _, _ => none
  | f + 1, l2_7, s8, k =>
    if (xw l2_7) ≤ 9 then
      xbp (F_X4_foes l1_6 s8) fun r11 =>
      if (xw r11) = 0 then
        xgd (0 ≤ l1_6 ∧ l1_6 < 8) <|
        xbp (F_X6_tell (xw (s8 95 l1_6)) s8) fun s17 =>
        some (l2_7, s17)
      else
        xbp (F_X4_holdBack l1_6 s8) fun s14 =>
        F_X10_holds_16 l1_6 f (l2_7 + 1) s14 k
    else
      k l2_7 s8
def F_X10_holds (a1 : Int) (s0 : xW) : Option (Int × xW) :=
  xbp (F_X10_isDeed a1 s0) fun r2 =>
  if (xw r2) = 0 then
    some (-1, s0)
  else
    xbp (F_X10_planToday  s0) fun s5 =>
    F_X10_holds_16 a1 xN 0 s5 fun (l2_20 : Int) (s21 : xW) =>
    some (-2, s21)
def F_X10_minuteOfGun (a1 : Int) (s0 : xW) : Option (Int × xW) :=
  xgd (0 ≤ a1 ∧ a1 < 8) <|
  xbp (F_X1_of 7 (s0 17 5) s0) fun r3 =>
  xbp (F_X1_of 5 (s0 17 5) s0) fun r5 =>
  xbp (F_X0_on (s0 17 5) r3 r5 s0) fun s7 =>
  xgd ((s7 0 4) ∈ xRules) <|
  xbp (F_X10_far (s7 17 0) (s0 18 a1) s7) fun r10 =>
  xbd (F_X0_minute (s7 0 4) r10 (s0 18 a1) 0 s7) fun r12 s13 =>
  some (r12, s13)
def F_X4_at_4 (l1_1 : Int) (s4 : xW) : Nat → Int → Int → (Int → Int → Option (Int)) → Option (Int)
  | 0, _, _, _ => none
  | f + 1, l2_2, l3_3, k =>
    if (xw l3_3) < (xw (s4 92 0)) then
      xgd (0 ≤ l3_3 ∧ l3_3 < 8) <|
      xli (if (xw (s4 93 l3_3)) = (xw l1_1) then (xshl 1 l3_3) else 0) fun v8 =>
      F_X4_at_4 l1_1 s4 f (xor' l2_2 v8) (l3_3 + 1) k
    else
      k l2_2 l3_3
def F_X4_at (a1 : Int) (s0 : xW) : Option (Int) :=
  F_X4_at_4 a1 s0 xN 0 0 fun (l2_13 : Int) (l3_14 : Int) =>
  some l2_13
def F_X10_house (a1 : Int) (a2 : Int) (s0 : xW) : Option (Int × xW) :=
  xbp (F_X10_isHouse a1 s0) fun r2 =>
  xjn (
    none
  ) fun j3 =>
  if (xw r2) ≠ 0 then
    if 0 ≤ (xw a2) then
      if 5 < (xw a2) then
        j3 
      else
        if (xw a2) = 0 then
          xgd (0 ≤ a1 ∧ a1 < 8) <|
          some ((Int.tdiv (xw (s0 18 a1)) 10), s0)
        else
        if (xw a2) = 1 then
          xgd (0 ≤ a1 ∧ a1 < 8) <|
          some ((Int.tmod (xw (s0 18 a1)) 10), s0)
        else
        if (xw a2) = 2 then
          xgd (0 ≤ a1 ∧ a1 < 8) <|
          some ((s0 19 a1), s0)
        else
        if (xw a2) = 3 then
          xbd (F_X10_minuteOfGun a1 s0) fun r17 s18 =>
          some (r17, s18)
        else
        if (xw a2) = 4 then
          xbd (F_X10_minuteOfEcho a1 s0) fun r21 s22 =>
          some (r21, s22)
        else
        xbp (F_X4_at a1 s0) fun r24 =>
        some (r24, s0)
    else
      j3 
  else
    j3 
def F_X10_readHouses_2 : Nat → Int → xW → (Int → xW → Option (Int × xW)) → Option (Int × xW)
  | 0, _, _, _ => none
  | f + 1, l1_1, s2, k =>
    if (xw l1_1) < (xw (s2 1 1)) then
      xjn (fun (s4 : xW) =>
        some (((-1) - l1_1), s4)
      ) fun j5 =>
      if (xw l1_1) ≠ 23 then
        xbd (F_X10_fitsHouse l1_1 s2) fun r10 s11 =>
        if (xw r10) = 0 then
          j5 s11
        else
          F_X10_readHouses_2  f (l1_1 + 1) s11 k
      else
        j5 s2
    else
      k l1_1 s2
def F_X10_readHouses (s0 : xW) : Option (Int × xW) :=
  F_X10_readHouses_2  xN 0 s0 fun (l1_15 : Int) (s16 : xW) =>
  xjn (fun (t17 : Int) =>
    xjn (fun (t21 : Int) =>
      some (t21, s16)
    ) fun j22 =>
    if (xw t17) ≠ 0 then
      j22 (Int.tdiv (xw ((s16 1 1) + 1)) 3)
    else
      j22 ((-1) - (s16 1 1))
  ) fun j18 =>
  xjn (
    j18 1
  ) fun j26 =>
  if (xw (s16 1 1)) ≠ 0 then
    if (xw (Int.tmod (xw (s16 1 1)) 3)) = 2 then
      j26 
    else
      j18 0
  else
    j26 
def F_X10_houses (s0 : xW) : Option (Int × xW) :=
  xbd (F_X10_readHouses  s0) fun r2 s3 =>
  xjn (fun (s4 : xW) =>
    xbp (F_X8_clear  s4) fun s9 =>
    some (r2, s9)
  ) fun j5 =>
  if 0 < (xw r2) then
    xls (xu s3 0 14 ((s3 0 14) + r2)) fun s11 =>
    xbp (F_X10_forgetPast  s11) fun s14 =>
    j5 s14
  else
    j5 s3
def F_X10_housesAt_4 (l1_1 : Int) (s4 : xW) : Nat → Int → Int → (Int → Int → Option (Int)) → Option (Int)
  | 0, _, _, _ => none
  | f + 1, l2_2, l3_3, k =>
    if (xw l3_3) < (xw (s4 0 14)) then
      xgd (0 ≤ l3_3 ∧ l3_3 < 8) <|
      xli (if (xw (s4 91 l3_3)) = (xw l1_1) then (xshl 1 l3_3) else 0) fun v8 =>
      F_X10_housesAt_4 l1_1 s4 f (xor' l2_2 v8) (l3_3 + 1) k
    else
      k l2_2 l3_3
def F_X10_housesAt (a1 : Int) (s0 : xW) : Option (Int) :=
  F_X10_housesAt_4 a1 s0 xN 0 0 fun (l2_13 : Int) (l3_14 : Int) =>
  some l2_13
def F_X10_salute (a0 : Int) (a1 : Int) (a2 : Int) (s0 : xW) : Option (Int) :=
  xli (if (xw a1) ≤ (xw a2) then a0 else 0) fun v2 =>
  xli (if (xw a1) < (xw a2) then 2 else 0) fun v6 =>
  some ((v2 - a1) - v6)
def F_X10_isContent_10 (l0_3 : Int) (l2_4 : Int) (l3_5 : Int) (s7 : xW) : Nat → Int → (Int → Option (Int)) → Option (Int)
  | 0, _, _ => none
  | f + 1, l4_6, k =>
    if (xw l4_6) ≤ 9 then
      xbp (F_X10_salute l0_3 l4_6 l2_4 s7) fun r10 =>
      if (xw l3_5) < (xw r10) then
        some 0
      else
        F_X10_isContent_10 l0_3 l2_4 l3_5 s7 f (l4_6 + 1) k
    else
      k l4_6
def F_X10_isContent (a0 : Int) (a1 : Int) (a2 : Int) (s0 : xW) : Option (Int) :=
  xbp (F_X10_salute a0 a1 a2 s0) fun r2 =>
  F_X10_isContent_10 a0 a2 r2 s0 xN 0 fun (l4_13 : Int) =>
  some 1
def F_X10_keep (a1 : Int) (s0 : xW) : Option (Int × xW) :=
  xjn (
    some (0, s0)
  ) fun j1 =>
  if 0 ≤ (xw a1) then
    if 3 ≤ (xw a1) then
      j1 
    else
      xgd (0 ≤ a1 ∧ a1 < 3) <|
      xgd ((109 + 4 * a1) ∈ xTowns) <|
      xbp (F_X9_copy (109 + 4 * a1) 17 s0) fun s9 =>
      xgd (0 ≤ a1 ∧ a1 < 3) <|
      xls (xu s9 88 a1 1) fun s11 =>
      some (1, s11)
  else
    j1 
def F_X4_minuteBehind_4 (s3 : xW) : Nat → Int → Int → (Int → Int → Option (Int)) → Option (Int)
  | 0, _, _, _ => none
  | f + 1, l1_1, l2_2, k =>
    if (xw l2_2) < (xw (s3 92 0)) then
      xgd (0 ≤ l2_2 ∧ l2_2 < 8) <|
      F_X4_minuteBehind_4 s3 f (max (xw l1_1) (xw (s3 96 l2_2))) (l2_2 + 1) k
    else
      k l1_1 l2_2
def F_X4_minuteBehind (s0 : xW) : Option (Int) :=
  F_X4_minuteBehind_4  s0 xN 0 0 fun (l1_8 : Int) (l2_9 : Int) =>
  some l1_8
def F_X4_firstMinute_20 (s7 : xW) : Nat → Int → Int → (Int → Int → Option (Int)) → Option (Int)
  | 0, _, _, _ => none
  | f + 1, l1_5, l2_6, k =>
    if (xw l2_6) < (xw (s7 92 0)) then
      xgd (0 ≤ l2_6 ∧ l2_6 < 8) <|
      F_X4_firstMinute_20 s7 f (min (xw l1_5) (xw (s7 95 l2_6))) (l2_6 + 1) k
    else
      k l1_5 l2_6
def F_X4_firstMinute (s0 : xW) : Option (Int) :=
  xjn (fun (t1 : Int) =>
    F_X4_firstMinute_20  s0 xN t1 1 fun (l1_12 : Int) (l2_13 : Int) =>
    some l1_12
  ) fun j2 =>
  if 0 < (xw (s0 92 0)) then
    j2 (s0 95 0)
  else
    j2 0
def F_X4_howMany_5 (l1_1 : Int) (l2_2 : Int) (s5 : xW) : Nat → Int → Int → (Int → Int → Option (Int)) → Option (Int)
  | 0, _, _, _ => none
  | f + 1, l3_3, l4_4, k =>
    if (xw l4_4) < (xw (s5 92 0)) then
      xgd (0 ≤ l4_4 ∧ l4_4 < 8) <|
      xjn (fun (t8 : Int) =>
        xjn (fun (t12 : Int) =>
          F_X4_howMany_5 l1_1 l2_2 s5 f (l3_3 + t12) (l4_4 + 1) k
        ) fun j13 =>
        xjn (
          j13 0
        ) fun j16 =>
        if (xw t8) ≠ 0 then
          xgd (0 ≤ l4_4 ∧ l4_4 < 8) <|
          if (xw (xand (s5 94 l4_4) l2_2)) ≠ 0 then
            j13 1
          else
            j16 
        else
          j16 
      ) fun j9 =>
      xjn (
        j9 0
      ) fun j22 =>
      if (xw (s5 95 l4_4)) ≤ (xw l1_1) then
        xgd (0 ≤ l4_4 ∧ l4_4 < 8) <|
        if (xw l1_1) < (xw (s5 96 l4_4)) then
          j9 1
        else
          j22 
      else
        j22 
    else
      k l3_3 l4_4
def F_X4_howMany (a1 : Int) (a2 : Int) (s0 : xW) : Option (Int) :=
  F_X4_howMany_5 a1 a2 s0 xN 0 0 fun (l3_30 : Int) (l4_31 : Int) =>
  some l3_30
def F_X10_lane_40 (l1_12 : Int) (l5_16 : Int) (s18 : xW) : Nat → Int → Int → Int → Int → (Int → Int → Int → Int → Option (Int × xW)) → Option (Int × xW)
  | 0, _, _, _, _, _ => none
  | f + 1, l2_13, l3_14, l4_15, l6_17, k =>
    if (xw l6_17) < (xw l5_16) then
      xbp (F_X4_howMany l6_17 (xshl 1 l1_12) s18) fun r21 =>
      xli (if 0 < (xw r21) then 1 else 0) fun v23 =>
      xjn (fun (l3_26 : Int) (l4_27 : Int) =>
        F_X10_lane_40 l1_12 l5_16 s18 f (l2_13 + v23) l3_26 l4_27 (l6_17 + 1) k
      ) fun j28 =>
      if (xw l3_14) < (xw r21) then
        j28 r21 l6_17
      else
        j28 l3_14 l4_15
    else
      k l2_13 l3_14 l4_15 l6_17
def F_X10_lane (a1 : Int) (s0 : xW) : Option (Int × xW) :=
  xjn (
    some (-1, s0)
  ) fun j1 =>
  if 0 ≤ (xw a1) then
    if 4 ≤ (xw a1) then
      j1 
    else
      xbp (F_X10_planToday  s0) fun s7 =>
      xbp (F_X4_minuteBehind  s7) fun r9 =>
      xbp (F_X4_firstMinute  s7) fun r11 =>
      F_X10_lane_40 a1 r9 s7 xN 0 0 (-1) r11 fun (l2_36 : Int) (l3_37 : Int) (l4_38 : Int) (l6_39 : Int) =>
      xbp (F_X6_tell_ (xw l3_37) (xw l4_38) s7) fun s41 =>
      some (l2_36, s41)
  else
    j1 
def F_X10_lastMinute_4 (s3 : xW) : Nat → Int → Int → (Int → Int → Option (Int)) → Option (Int)
  | 0, _, _, _ => none
  | f + 1, l1_1, l2_2, k =>
    if (xw l2_2) < (xw (s3 0 14)) then
      xgd (0 ≤ l2_2 ∧ l2_2 < 8) <|
      F_X10_lastMinute_4 s3 f (max (xw l1_1) (xw (s3 91 l2_2))) (l2_2 + 1) k
    else
      k l1_1 l2_2
def F_X10_lastMinute (s0 : xW) : Option (Int) :=
  F_X10_lastMinute_4  s0 xN 0 0 fun (l1_8 : Int) (l2_9 : Int) =>
  some l1_8
def F_X10_lasts_4 : Nat → Int → Int → xW → (Int → Int → xW → Option (Int × xW)) → Option (Int × xW)
  | 0, _, _, _, _ => none
  | f + 1, l1_1, l2_2, s3, k =>
    if (xw l2_2) < (xw (s3 17 2)) then
      xbd (F_X10_pairsOn ((s3 17 5) + l2_2) s3) fun r6 s7 =>
      F_X10_lasts_4  f (l1_1 + r6) (l2_2 + 1) s7 k
    else
      k l1_1 l2_2 s3
def F_X10_lasts (s0 : xW) : Option (Int × xW) :=
  F_X10_lasts_4  xN 0 0 s0 fun (l1_11 : Int) (l2_12 : Int) (s13 : xW) =>
  xbp (F_X6_tell (xw l1_11) s13) fun s15 =>
  some ((s15 17 2), s15)
def F_X7_takeFirst (a0 : Int) (s0 : xW) : Option (xW) :=
  xgd (a0 ∈ xRules) <|
  xls (xfirst s0 (a0 + 1)) fun s1 =>
  xls (xu s1 a0 1 7) fun s2 =>
  some s2
def F_X7_await (a0 : Int) (a1 : Int) (s0 : xW) : Option (xW) :=
  xgd (a0 ∈ xRules) <|
  xjn (fun (s1 : xW) =>
    some s1
  ) fun j2 =>
  if (xw (s0 a0 4)) < 40 then
    xgd (0 ≤ (s0 a0 4) ∧ (s0 a0 4) < 40) <|
    xgd (0 ≤ a1 ∧ a1 < 65536) <|
    xls (xu s0 (a0 + 3) (s0 a0 4) a1) fun s8 =>
    xls (xu s8 a0 4 ((s8 a0 4) + 1)) fun s10 =>
    j2 s10
  else
    j2 s0
def F_X7_step (a0 : Int) (a1 : Int) (s0 : xW) : Option (xW) :=
  xgd (a0 ∈ xRules) <|
  xjn (fun (s1 : xW) =>
    some s1
  ) fun j2 =>
  if (xw (s0 a0 1)) < 40 then
    xgd (0 ≤ (s0 a0 1) ∧ (s0 a0 1) < 40) <|
    xls (xu s0 (a0 + 1) (s0 a0 1) a1) fun s7 =>
    xls (xu s7 a0 1 ((s7 a0 1) + 1)) fun s9 =>
    j2 s9
  else
    j2 s0
def F_X7_beginsThing (a0 : Int) (a1 : Int) (s0 : xW) : Option (Int × xW) :=
  xgd (a0 ∈ xRules) <|
  if (xw a1) = 45 then
    xbp (F_X7_await a0 126 s0) fun s37 =>
    some (1, s37)
  else
    if (xw a1) = 40 then
      xls (xu s0 a0 5 ((s0 a0 5) + 1)) fun s27 =>
      xbp (F_X7_await a0 a1 s27) fun s30 =>
      xli (if (xw (s30 a0 5)) ≤ 4 then 1 else 0) fun v32 =>
      xgd (v32 = 0 ∨ v32 = 1) <|
      some (v32, s30)
    else
      xli (if 48 ≤ (xw a1) then if (xw a1) ≤ 57 then 1 else 0 else 0) fun v5 =>
      xjn (
        xli (if (xw v5) ≠ 0 then (a1 - 48) else (1000 + (xix ([100, 119, 109, 120, 121, 110, 101] : List Int) a1))) fun v12 =>
        xbp (F_X7_step a0 v12 s0) fun s16 =>
        xli (if (xw v5) ≠ 0 then 1 else 3) fun v18 =>
        xls (xu s16 a0 6 v18) fun s21 =>
        xls (xu s21 a0 7 0) fun s23 =>
        some (1, s23)
      ) fun j8 =>
      if (xw v5) = 0 then
        if (xw (xix ([100, 119, 109, 120, 121, 110, 101] : List Int) a1)) < 0 then
          some (0, s0)
        else
          j8 
      else
        j8 
def F_X7_goesOnNumber (a0 : Int) (a1 : Int) (s0 : xW) : Option (Int × xW) :=
  xgd (a0 ∈ xRules) <|
  xjn (
    some (0, s0)
  ) fun j1 =>
  if (xw (s0 a0 6)) < 3 then
    if (xw (s0 a0 1)) = 0 then
      j1 
    else
      xls (xu s0 a0 6 ((s0 a0 6) + 1)) fun s6 =>
      xgd (0 ≤ ((s6 a0 1) - 1) ∧ ((s6 a0 1) - 1) < 40) <|
      xgd (0 ≤ ((s6 a0 1) - 1) ∧ ((s6 a0 1) - 1) < 40) <|
      xls (xu s6 (a0 + 1) ((s6 a0 1) - 1) (((s6 (a0 + 1) ((s6 a0 1) - 1)) * 10) + (a1 - 48))) fun s10 =>
      some (1, s10)
  else
    j1 
def F_X7_lastWaiting (a0 : Int) (s0 : xW) : Option (Int) :=
  xgd (a0 ∈ xRules) <|
  xjn (fun (t1 : Int) =>
    xgd (0 ≤ t1 ∧ t1 < 65536) <|
    some t1
  ) fun j2 =>
  if 0 < (xw (s0 a0 4)) then
    xgd (0 ≤ ((s0 a0 4) - 1) ∧ ((s0 a0 4) - 1) < 40) <|
    j2 (s0 (a0 + 3) ((s0 a0 4) - 1))
  else
    j2 0
def F_X7_binding (a0 : Int) (s0 : xW) : Option (Int) :=
  xjn (
    some 3
  ) fun j1 =>
  xjn (
    some 2
  ) fun j4 =>
  xjn (
    some 1
  ) fun j7 =>
  if (xw a0) = 42 then
    j1 
  else
  if (xw a0) = 43 then
    j4 
  else
  if (xw a0) = 45 then
    j4 
  else
  if (xw a0) = 47 then
    j1 
  else
  if (xw a0) = 60 then
    j7 
  else
  if (xw a0) = 61 then
    j7 
  else
  if (xw a0) = 62 then
    j7 
  else
  if (xw a0) = 126 then
    some 4
  else
  some 0
def F_X7_settle_2 (l0_1 : Int) (l1_3 : Int) : Nat → Int → xW → (Int → xW → Option (xW)) → Option (xW)
  | 0, _, _, _ => none
  | f + 1, l2_4, s5, k =>
    if (xw l2_4) < 40 then
      if 0 < (xw (s5 l0_1 4)) then
        xbp (F_X7_lastWaiting l0_1 s5) fun r9 =>
        xbp (F_X7_binding r9 s5) fun r11 =>
        if (xw l1_3) ≤ (xw r11) then
          xbp (F_X7_lastWaiting l0_1 s5) fun r14 =>
          xbp (F_X7_step l0_1 (2000 + r14) s5) fun s16 =>
          xls (xu s16 l0_1 4 ((s16 l0_1 4) - 1)) fun s17 =>
          F_X7_settle_2 l0_1 l1_3 f (l2_4 + 1) s17 k
        else
          k l2_4 s5
      else
        k l2_4 s5
    else
      k l2_4 s5
def F_X7_settle (a0 : Int) (a1 : Int) (s0 : xW) : Option (xW) :=
  xgd (a0 ∈ xRules) <|
  F_X7_settle_2 a0 a1 xN 0 s0 fun (l2_21 : Int) (s22 : xW) =>
  some s22
def F_X7_closes (a0 : Int) (s0 : xW) : Option (Int × xW) :=
  xgd (a0 ∈ xRules) <|
  xjn (
    some (0, s0)
  ) fun j1 =>
  if (xw (s0 a0 5)) ≠ 0 then
    if (xw (s0 a0 4)) = 0 then
      j1 
    else
      xbp (F_X7_settle a0 1 s0) fun s7 =>
      xls (xu s7 a0 4 ((s7 a0 4) - 1)) fun s8 =>
      xls (xu s8 a0 5 ((s8 a0 5) - 1)) fun s10 =>
      xls (xu s10 a0 6 3) fun s12 =>
      some (1, s12)
  else
    j1 
def F_X7_joins (a0 : Int) (a1 : Int) (s0 : xW) : Option (Int × xW) :=
  xgd (a0 ∈ xRules) <|
  xbp (F_X7_binding a1 s0) fun r2 =>
  xjn (
    some (0, s0)
  ) fun j3 =>
  if (xw r2) ≠ 0 then
    if (xw a1) = 126 then
      j3 
    else
      xbp (F_X7_settle a0 (max (xw r2) 2) s0) fun s9 =>
      xjn (fun (t10 : Int) =>
        xbp (F_X7_await a0 a1 s9) fun s15 =>
        xls (xu s15 a0 7 1) fun s16 =>
        xli (if (xw t10) = 0 then 1 else 0) fun v19 =>
        xgd (v19 = 0 ∨ v19 = 1) <|
        some (v19, s16)
      ) fun j11 =>
      xjn (
        j11 0
      ) fun j23 =>
      if (xw r2) = 1 then
        xbp (F_X7_lastWaiting a0 s9) fun r28 =>
        xbp (F_X7_binding r28 s9) fun r30 =>
        if (xw r30) = 1 then
          j11 1
        else
          j23 
      else
        j23 
  else
    j3 
def F_X7_accepts (a0 : Int) (a1 : Int) (s0 : xW) : Option (Int × xW) :=
  xgd (a0 ∈ xRules) <|
  if (xw (s0 a0 7)) ≠ 0 then
    xbd (F_X7_beginsThing a0 a1 s0) fun r25 s26 =>
    xgd (r25 = 0 ∨ r25 = 1) <|
    some (r25, s26)
  else
    xjn (
      xjn (fun (t5 : Int) (s6 : xW) =>
        xgd (t5 = 0 ∨ t5 = 1) <|
        some (t5, s6)
      ) fun j7 =>
      if (xw a1) = 41 then
        xbd (F_X7_closes a0 s0) fun r16 s17 =>
        j7 r16 s17
      else
        xbd (F_X7_joins a0 a1 s0) fun r13 s14 =>
        j7 r13 s14
    ) fun j2 =>
    if 48 ≤ (xw a1) then
      if (xw a1) ≤ 57 then
        xbd (F_X7_goesOnNumber a0 a1 s0) fun r21 s22 =>
        xgd (r21 = 0 ∨ r21 = 1) <|
        some (r21, s22)
      else
        j2 
    else
      j2 
def F_X7_read_35 (l0_10 : Int) : Nat → Int → xW → (Int → xW → Option (Int × xW)) → Option (Int × xW)
  | 0, _, _, _ => none
  | f + 1, l2_12, s13, k =>
    if (xw l2_12) < (xw (s13 1 1)) then
      xjn (fun (s15 : xW) =>
        some (l2_12, s15)
      ) fun j16 =>
      if (xw l2_12) ≠ 40 then
        xbp (F_X8_at l2_12 s13) fun r21 =>
        xbd (F_X7_accepts l0_10 r21 s13) fun r23 s24 =>
        if (xw r23) = 0 then
          j16 s24
        else
          F_X7_read_35 l0_10 f (l2_12 + 1) s24 k
      else
        j16 s13
    else
      k l2_12 s13
def F_X7_read (a0 : Int) (s0 : xW) : Option (Int × xW) :=
  xgd (a0 ∈ xRules) <|
  if (xw (s0 1 1)) = 0 then
    xbp (F_X7_takeFirst a0 s0) fun s38 =>
    some (-1, s38)
  else
    xls (xu s0 a0 1 0) fun s2 =>
    xls (xu s2 a0 4 0) fun s4 =>
    xls (xu s4 a0 5 0) fun s6 =>
    xls (xu s6 a0 7 1) fun s8 =>
    F_X7_read_35 a0 xN 0 s8 fun (l2_28 : Int) (s29 : xW) =>
    xjn (
      some ((s29 1 1), s29)
    ) fun j30 =>
    if (xw (s29 a0 7)) = 0 then
      if 0 < (xw (s29 a0 5)) then
        j30 
      else
        xbp (F_X7_settle a0 1 s29) fun s36 =>
        some (-1, s36)
    else
      j30 
def F_X10_law_86 (l2_18 : Int) (l3_19 : Int) : Nat → Int → xW → (Int → xW → Option (Int × xW)) → Option (Int × xW)
  | 0, _, _, _ => none
  | f + 1, l4_20, s21, k =>
    if (xw l4_20) < (xw (s21 0 14)) then
      xgd (0 ≤ l4_20 ∧ l4_20 < 8) <|
      xbp (F_X6_add (xw (s21 91 l4_20)) s21) fun s25 =>
      F_X10_law_86 l2_18 l3_19 f (l4_20 + 1) s25 k
    else
      k l4_20 s21
def F_X10_law (s0 : xW) : Option (Int × xW) :=
  xgd ((s0 0 5) ∈ xRules) <|
  xbd (F_X7_read (s0 0 5) s0) fun r3 s4 =>
  xbp (F_X8_clear  s4) fun s6 =>
  if (xw r3) ≠ (-1) then
    some (((-10000) - r3), s6)
  else
    xbd (F_X10_pairsOn (s6 17 5) s6) fun r9 s10 =>
    xgd ((s10 0 5) ∈ xRules) <|
    xbp (F_X10_planFor (s10 0 5) (s10 17 0) (s10 17 5) s10) fun s13 =>
    xbp (F_X4_pairs  s13) fun r15 =>
    xbp (F_X6_tell_ (xw r15) (xw r9) s13) fun s17 =>
    F_X10_law_86 r9 r15 xN 0 s17 fun (l4_28 : Int) (s29 : xW) =>
    some ((r15 - r9), s29)
def F_X10_lengthOf (a0 : Int) (s0 : xW) : Option (Int) :=
  some (max 1 (xw (min 9 (xw a0))))
def F_X10_lengthsOf_4 (l1_1 : Int) (s4 : xW) : Nat → Int → Int → (Int → Int → Option (Int)) → Option (Int)
  | 0, _, _, _ => none
  | f + 1, l2_2, l3_3, k =>
    if (xw l3_3) < (xw (s4 92 0)) then
      xgd (0 ≤ l3_3 ∧ l3_3 < 8) <|
      F_X10_lengthsOf_4 l1_1 s4 f (l2_2 + ((xand (xshr l1_1 l3_3) 1) * (s4 20 l3_3))) (l3_3 + 1) k
    else
      k l2_2 l3_3
def F_X10_lengthsOf (a1 : Int) (s0 : xW) : Option (Int) :=
  F_X10_lengthsOf_4 a1 s0 xN 0 0 fun (l2_9 : Int) (l3_10 : Int) =>
  some l2_9
def F_X10_longest_12 (l1_4 : Int) (s8 : xW) : Nat → Int → Int → Int → (Int → Int → Int → Option (Int × xW)) → Option (Int × xW)
  | 0, _, _, _, _ => none
  | f + 1, l2_5, l3_6, l4_7, k =>
    if (xw l4_7) ≤ (xw l1_4) then
      xbp (F_X10_lengthsOf l4_7 s8) fun r11 =>
      xjn (fun (t12 : Int) =>
        xjn (fun (l2_16 : Int) (l3_17 : Int) =>
          F_X10_longest_12 l1_4 s8 f l2_16 l3_17 (l4_7 + 1) k
        ) fun j18 =>
        if (xw t12) ≠ 0 then
          xbp (F_X10_isPeaceful l4_7 s8) fun r23 =>
          if (xw r23) ≠ 0 then
            j18 r11 l4_7
          else
            j18 l2_5 l3_6
        else
          j18 l2_5 l3_6
      ) fun j13 =>
      xjn (
        j13 1
      ) fun j25 =>
      if (xw r11) ≤ (xw l2_5) then
        xjn (
          j13 0
        ) fun j29 =>
        if (xw r11) = (xw l2_5) then
          if (xw (xbc l3_6)) < (xw (xbc l4_7)) then
            j25 
          else
            j29 
        else
          j29 
      else
        j25 
    else
      k l2_5 l3_6 l4_7
def F_X10_longest (s0 : xW) : Option (Int × xW) :=
  xbd (F_X10_findFoes  s0) fun r2 s3 =>
  F_X10_longest_12 r2 s3 xN 0 0 0 fun (l2_37 : Int) (l3_38 : Int) (l4_39 : Int) =>
  xbp (F_X6_tell (xw l3_38) s3) fun s41 =>
  some (l2_37, s41)
def F_X10_nearOf_4 (l1_1 : Int) (s4 : xW) : Nat → Int → Int → (Int → Int → Option (Int)) → Option (Int)
  | 0, _, _, _ => none
  | f + 1, l2_2, l3_3, k =>
    if (xw l3_3) < (xw (s4 0 14)) then
      xjn (fun (t6 : Int) =>
        F_X10_nearOf_4 l1_1 s4 f (xor' l2_2 t6) (l3_3 + 1) k
      ) fun j7 =>
      if (xw (xand (xshr l1_1 l3_3) 1)) = 1 then
        xgd (0 ≤ l3_3 ∧ l3_3 < 8) <|
        j7 (s4 107 l3_3)
      else
        j7 0
    else
      k l2_2 l3_3
def F_X10_nearOf (a1 : Int) (s0 : xW) : Option (Int) :=
  F_X10_nearOf_4 a1 s0 xN 0 0 fun (l2_14 : Int) (l3_15 : Int) =>
  some l2_14
def F_X10_menders_31 (l2_9 : Int) (s13 : xW) : Nat → Int → Int → Int → (Int → Int → Int → Option (Int × xW)) → Option (Int × xW)
  | 0, _, _, _, _ => none
  | f + 1, l3_10, l4_11, l5_12, k =>
    if (xw l5_12) ≤ (xw l2_9) then
      xjn (fun (l3_15 : Int) (l4_16 : Int) =>
        F_X10_menders_31 l2_9 s13 f l3_15 l4_16 (l5_12 + 1) k
      ) fun j17 =>
      if (xw (xbc l5_12)) < (xw l3_10) then
        xbp (F_X10_nearOf l5_12 s13) fun r22 =>
        if (xw r22) = (xw l2_9) then
          j17 (xbc l5_12) l5_12
        else
          j17 l3_10 l4_11
      else
        j17 l3_10 l4_11
    else
      k l3_10 l4_11 l5_12
def F_X10_menders (a1 : Int) (s0 : xW) : Option (Int × xW) :=
  xjn (
    some (-1, s0)
  ) fun j1 =>
  if 0 ≤ (xw a1) then
    if 18 < (xw a1) then
      j1 
    else
      xbd (F_X10_findNear a1 s0) fun r7 s8 =>
      F_X10_menders_31 r7 s8 xN ((s8 0 14) + 1) 0 0 fun (l3_27 : Int) (l4_28 : Int) (l5_29 : Int) =>
      xbp (F_X6_tell (xw l4_28) s8) fun s31 =>
      some (l3_27, s31)
  else
    j1 
def F_X10_middle_16 : Nat → Int → Int → Int → xW → (Int → Int → Int → xW → Option (Int × xW)) → Option (Int × xW)
  | 0, _, _, _, _, _ => none
  | f + 1, l1_2, l2_3, l3_4, s5, k =>
    if (xw l3_4) < 100 then
      xgd ((s5 0 4) ∈ xRules) <|
      xbp (F_X10_planFor (s5 0 4) l3_4 (s5 17 5) s5) fun s9 =>
      xbp (F_X10_lastMinute  s9) fun r11 =>
      xjn (fun (l1_12 : Int) (l2_13 : Int) =>
        F_X10_middle_16  f l1_12 l2_13 (l3_4 + 1) s9 k
      ) fun j14 =>
      xjn (
        j14 r11 l3_4
      ) fun j17 =>
      if (xw l2_3) ≠ (-1) then
        if (xw r11) < (xw l1_2) then
          j17 
        else
          j14 l1_2 l2_3
      else
        j17 
    else
      k l1_2 l2_3 l3_4 s5
def F_X10_middle (s0 : xW) : Option (Int × xW) :=
  if (xw (s0 0 14)) = 0 then
    some (-2, s0)
  else
    F_X10_middle_16  xN 0 (-1) 0 s0 fun (l1_26 : Int) (l2_27 : Int) (l3_28 : Int) (s29 : xW) =>
    xbp (F_X6_tell_ (xw (Int.tdiv (xw l2_27) 10)) (xw (Int.tmod (xw l2_27) 10)) s29) fun s31 =>
    some (l1_26, s31)
def F_X10_tellFraction_9 (l1_1 : Int) (l3_2 : Int) (s6 : xW) : Nat → Int → Int → Int → (Int → Int → Int → Option (xW)) → Option (xW)
  | 0, _, _, _, _ => none
  | f + 1, l5_3, l7_4, l9_5, k =>
    if (xw l9_5) < 128 then
      if (xwl l7_4) ≠ 0 then
        xgd ((xwl l7_4) ≠ 0) <|
        F_X10_tellFraction_9 l1_1 l3_2 s6 f l7_4 (Int.tmod (xwl l5_3) (xwl l7_4)) (l9_5 + 1) k
      else
        k l5_3 l7_4 l9_5
    else
      k l5_3 l7_4 l9_5
def F_X10_tellFraction (a1 : Int) (a3 : Int) (s0 : xW) : Option (xW) :=
  F_X10_tellFraction_9 a1 a3 s0 xN a3 a1 0 fun (l5_13 : Int) (l7_14 : Int) (l9_15 : Int) =>
  if (xwl l5_13) ≠ 0 then
    xgd ((xwl l5_13) ≠ 0) <|
    xgd ((xwl l5_13) ≠ 0) <|
    xbp (F_X6_tell_ (Int.tdiv (xwl a1) (xwl l5_13)) (Int.tdiv (xwl a3) (xwl l5_13)) s0) fun s20 =>
    some s20
  else
    some s0
def F_X10_misfires_55 (l1_14 : Int) (l2_15 : Int) (l3_16 : Int) : Nat → Int → Int → xW → (Int → Int → xW → Option (Int × xW)) → Option (Int × xW)
  | 0, _, _, _, _ => none
  | f + 1, l4_17, l6_18, s19, k =>
    if (xw l6_18) < (xw l1_14) then
      xbp (F_X10_fireOnce l2_15 l3_16 s19) fun s22 =>
      F_X10_misfires_55 l1_14 l2_15 l3_16 f (l4_17 * 10) (l6_18 + 1) s22 k
    else
      k l4_17 l6_18 s19
def F_X10_misfires (a1 : Int) (a2 : Int) (a3 : Int) (s0 : xW) : Option (Int × xW) :=
  xjn (
    some (-1, s0)
  ) fun j1 =>
  if 1 ≤ (xw a1) then
    if (xw a1) ≤ 15 then
      if 1 ≤ (xw a2) then
        if (xw a2) ≤ 15 then
          if 0 ≤ (xw a3) then
            if 10 < (xw a3) then
              j1 
            else
              xls (xfl s0 108 16 0) fun s10 =>
              xls (xu s10 108 0 1) fun s12 =>
              F_X10_misfires_55 a1 a2 a3 xN 1 0 s12 fun (l4_26 : Int) (l6_27 : Int) (s28 : xW) =>
              xbp (F_X10_sumOfChances a2 s28) fun r30 =>
              xbp (F_X10_tellFraction r30 l4_26 s28) fun s32 =>
              some (0, s32)
          else
            j1 
        else
          j1 
      else
        j1 
    else
      j1 
  else
    j1 
def F_X10_moves (a1 : Int) (a2 : Int) (a3 : Int) (s0 : xW) : Option (Int × xW) :=
  xbp (F_X3_note  s0) fun s2 =>
  xbd (F_X10_move a1 a2 a3 s2) fun r4 s5 =>
  xbd (F_X10_noted r4 s5) fun r7 s8 =>
  some (r7, s8)
def F_X10_order_20 : Nat → Int → xW → (Int → xW → Option (Int × xW)) → Option (Int × xW)
  | 0, _, _, _ => none
  | f + 1, l1_7, s8, k =>
    if (xw l1_7) < (xw (s8 92 0)) then
      xgd (0 ≤ l1_7 ∧ l1_7 < 8) <|
      xbp (F_X6_add (xw (s8 97 l1_7)) s8) fun s12 =>
      F_X10_order_20  f (l1_7 + 1) s12 k
    else
      k l1_7 s8
def F_X10_order (s0 : xW) : Option (Int × xW) :=
  xbp (F_X10_planToday  s0) fun s2 =>
  xbp (F_X4_sort  s2) fun s4 =>
  xbp (F_X6_clear  s4) fun s6 =>
  F_X10_order_20  xN 0 s6 fun (l1_15 : Int) (s16 : xW) =>
  some ((s16 92 0), s16)
def F_X10_quiet_7 : Nat → Int → Int → Int → xW → (Int → Int → Int → xW → Option (Int × xW)) → Option (Int × xW)
  | 0, _, _, _, _, _ => none
  | f + 1, l1_1, l2_2, l3_3, s4, k =>
    if (xw l3_3) < 100 then
      xbd (F_X10_pairsOn ((s4 17 5) + l3_3) s4) fun r7 s8 =>
      xjn (fun (l1_9 : Int) (l2_10 : Int) =>
        F_X10_quiet_7  f l1_9 l2_10 (l3_3 + 1) s8 k
      ) fun j11 =>
      if (xw r7) = 0 then
        xli (if (xw l2_2) = 0 then l3_3 else l1_1) fun v16 =>
        j11 v16 (l2_2 + 1)
      else
        j11 l1_1 l2_2
    else
      k l1_1 l2_2 l3_3 s4
def F_X10_quiet (s0 : xW) : Option (Int × xW) :=
  F_X10_quiet_7  xN (-2) 0 0 s0 fun (l1_23 : Int) (l2_24 : Int) (l3_25 : Int) (s26 : xW) =>
  xjn (fun (s27 : xW) =>
    some (l1_23, s27)
  ) fun j28 =>
  if 0 < (xw l2_24) then
    xbp (F_X6_tell (xw l2_24) s26) fun s33 =>
    j28 s33
  else
    j28 s26
def F_X10_rests_32 (l1_13 : Int) (l3_15 : Int) : Nat → Int → Int → xW → (Int → Int → xW → Option (Int × xW)) → Option (Int × xW)
  | 0, _, _, _, _ => none
  | f + 1, l2_14, l4_16, s17, k =>
    if (xw l4_16) ≤ 9 then
      xbp (F_X10_isContent l1_13 l3_15 l4_16 s17) fun r20 =>
      xjn (fun (l2_21 : Int) (s22 : xW) =>
        F_X10_rests_32 l1_13 l3_15 f l2_21 (l4_16 + 1) s22 k
      ) fun j23 =>
      if (xw r20) ≠ 0 then
        xbp (F_X10_isContent l1_13 l4_16 l3_15 s17) fun r28 =>
        if (xw r28) ≠ 0 then
          if (xw (l2_14 + 1)) = 1 then
            xbp (F_X6_tell_ (xw l3_15) (xw l4_16) s17) fun s32 =>
            j23 (l2_14 + 1) s32
          else
            j23 (l2_14 + 1) s17
        else
          j23 l2_14 s17
      else
        j23 l2_14 s17
    else
      k l2_14 l4_16 s17
def F_X10_rests_23 (l1_8 : Int) : Nat → Int → Int → xW → (Int → Int → xW → Option (Int × xW)) → Option (Int × xW)
  | 0, _, _, _, _ => none
  | f + 1, l2_9, l3_10, s11, k =>
    if (xw l3_10) ≤ 9 then
      F_X10_rests_32 l1_8 l3_10 xN l2_9 0 s11 fun (l2_36 : Int) (l4_37 : Int) (s38 : xW) =>
      F_X10_rests_23 l1_8 f l2_36 (l3_10 + 1) s38 k
    else
      k l2_9 l3_10 s11
def F_X10_rests (a1 : Int) (s0 : xW) : Option (Int × xW) :=
  xjn (
    some (-1, s0)
  ) fun j1 =>
  if 0 ≤ (xw a1) then
    if 20 < (xw a1) then
      j1 
    else
      xbp (F_X6_clear  s0) fun s7 =>
      F_X10_rests_23 a1 xN 0 0 s7 fun (l2_42 : Int) (l3_43 : Int) (s44 : xW) =>
      some (l2_42, s44)
  else
    j1 
def F_X10_row (a1 : Int) (s0 : xW) : Option (Int) :=
  xjn (
    none
  ) fun j1 =>
  if 0 ≤ (xw a1) then
    if (xw (s0 3 1)) ≤ (xw a1) then
      j1 
    else
      xgd (0 ≤ a1 ∧ a1 < 16) <|
      some (s0 4 a1)
  else
    j1 
def F_X10_rule (s0 : xW) : Option (Int × xW) :=
  xgd ((s0 0 5) ∈ xRules) <|
  xbd (F_X7_read (s0 0 5) s0) fun r3 s4 =>
  xjn (fun (s5 : xW) =>
    xbp (F_X8_clear  s5) fun s10 =>
    some (((-1) - r3), s10)
  ) fun j6 =>
  if (xw r3) = (-1) then
    xgd ((s4 0 4) ∈ xRules) <|
    xgd ((s4 0 5) ∈ xRules) <|
    xls (xu s4 0 4 (s4 0 5)) fun s14 =>
    xls (xu s14 0 5 (s4 0 4)) fun s16 =>
    j6 s16
  else
    j6 s4
def F_X10_sheet_47 (l1_14 : Int) (l2_15 : Int) (l3_16 : Int) (l4_17 : Int) (l5_18 : Int) : Nat → Int → Int → xW → (Int → Int → xW → Option (Int × xW)) → Option (Int × xW)
  | 0, _, _, _, _ => none
  | f + 1, l6_19, l7_20, s21, k =>
    if (xw l7_20) < (xw (s21 92 0)) then
      xli (if (xw l5_18) = 0 then if (xw l7_20) < (xw l2_15) then 1 else 0 else 0) fun v25 =>
      xjn (fun (t28 : Int) =>
        xgd (0 ≤ l7_20 ∧ l7_20 < 8) <|
        xls (xu s21 20 l7_20 t28) fun s33 =>
        xgd (0 ≤ l7_20 ∧ l7_20 < 8) <|
        F_X10_sheet_47 l1_14 l2_15 l3_16 l4_17 l5_18 f (l6_19 + (s33 20 l7_20)) (l7_20 + 1) s33 k
      ) fun j29 =>
      if (xw v25) ≠ 0 then
        xbp (F_X10_entry l1_14 (l3_16 + (l7_20 * l4_17)) s21) fun r38 =>
        xbp (F_X10_lengthOf r38 s21) fun r40 =>
        j29 r40
      else
        j29 1
    else
      k l6_19 l7_20 s21
def F_X10_sheet (a1 : Int) (a2 : Int) (a3 : Int) (a4 : Int) (s0 : xW) : Option (Int × xW) :=
  xjn (
    some (-1, s0)
  ) fun j1 =>
  if 0 ≤ (xw a1) then
    if (xw a1) ≤ 3 then
      if 8 < (xw a2) then
        j1 
      else
        xli (if (xw a1) = 3 then 1 else 0) fun v8 =>
        xjn (
          F_X10_sheet_47 a1 a2 a3 a4 v8 xN 0 0 s0 fun (l6_44 : Int) (l7_45 : Int) (s46 : xW) =>
          xli (if (xw v8) ≠ 0 then -3 else l6_44) fun v48 =>
          some (v48, s46)
        ) fun j11 =>
        if (xw v8) = 0 then
          if (xw a2) < 0 then
            some (-2, s0)
          else
            j11 
        else
          j11 
    else
      j1 
  else
    j1 
def F_X8_add_16 (l1_2 : Int) : Nat → Int → xW → (Int → xW → Option (Int × xW)) → Option (Int × xW)
  | 0, _, _, _ => none
  | f + 1, l2_3, s4, k =>
    if 0 ≤ (xw l2_3) then
      xgd (0 ≤ (s4 1 1) ∧ (s4 1 1) < 80) <|
      xgd (0 ≤ (xi2c (xand (xushr l1_2 l2_3) 255)) ∧ (xi2c (xand (xushr l1_2 l2_3) 255)) < 65536) <|
      xls (xu s4 2 (s4 1 1) (xi2c (xand (xushr l1_2 l2_3) 255))) fun s8 =>
      xls (xu s8 1 1 ((s8 1 1) + 1)) fun s10 =>
      F_X8_add_16 l1_2 f (l2_3 + (-8)) s10 k
    else
      k l2_3 s4
def F_X8_add (a1 : Int) (s0 : xW) : Option (Int × xW) :=
  if 80 < (xw ((s0 1 1) + 4)) then
    some (0, s0)
  else
    F_X8_add_16 a1 xN 24 s0 fun (l2_14 : Int) (s15 : xW) =>
    some (1, s15)
def F_X10_sign (a1 : Int) (s0 : xW) : Option (Int × xW) :=
  xbd (F_X8_add a1 s0) fun r2 s3 =>
  xli (if (xw r2) ≠ 0 then (s3 1 1) else -1) fun v5 =>
  some (v5, s3)
def F_X10_span_38 (l1_8 : Int) (l2_9 : Int) (s12 : xW) : Nat → Int → Int → (Int → Int → Option (Int × xW)) → Option (Int × xW)
  | 0, _, _, _ => none
  | f + 1, l3_10, l4_11, k =>
    if (xw l4_11) < (xw l2_9) then
      xbp (F_X4_howMany l4_11 (-1) s12) fun r15 =>
      xjn (fun (l3_16 : Int) =>
        F_X10_span_38 l1_8 l2_9 s12 f l3_16 (l4_11 + 1) k
      ) fun j17 =>
      if 0 < (xw r15) then
        j17 (l3_10 + 1)
      else
        j17 l3_10
    else
      k l3_10 l4_11
def F_X10_span (s0 : xW) : Option (Int × xW) :=
  if (xw (s0 92 0)) = 0 then
    some (-2, s0)
  else
    xbp (F_X10_planToday  s0) fun s3 =>
    xbp (F_X4_firstMinute  s3) fun r5 =>
    xbp (F_X4_minuteBehind  s3) fun r7 =>
    F_X10_span_38 r5 r7 s3 xN 0 r5 fun (l3_23 : Int) (l4_24 : Int) =>
    xbp (F_X6_tell__ (xw r5) (xw r7) (xw ((r7 - r5) - l3_23)) s3) fun s26 =>
    some (l3_23, s26)
def F_X10_takes (a1 : Int) (a2 : Int) (s0 : xW) : Option (Int × xW) :=
  xbp (F_X3_note  s0) fun s2 =>
  xbd (F_X10_lengthen a1 a2 s2) fun r4 s5 =>
  xbd (F_X10_noted r4 s5) fun r7 s8 =>
  some (r7, s8)
def F_X10_together_10 (s6 : xW) : Nat → Int → Int → Int → (Int → Int → Int → Option (Int × xW)) → Option (Int × xW)
  | 0, _, _, _, _ => none
  | f + 1, l1_3, l2_4, l3_5, k =>
    if (xw l3_5) < (xw (s6 0 14)) then
      xgd (0 ≤ l3_5 ∧ l3_5 < 8) <|
      xbp (F_X10_housesAt (s6 91 l3_5) s6) fun r10 =>
      xli (if (xw r10) ≠ (xw (xshl 1 l3_5)) then (xshl 1 l3_5) else 0) fun v12 =>
      xli (if (xw (xshl (xshr r10 l3_5) l3_5)) = (xw r10) then 1 else 0) fun v16 =>
      F_X10_together_10 s6 f (xor' l1_3 v12) (l2_4 + v16) (l3_5 + 1) k
    else
      k l1_3 l2_4 l3_5
def F_X10_together (s0 : xW) : Option (Int × xW) :=
  xbp (F_X10_planToday  s0) fun s2 =>
  F_X10_together_10  s2 xN 0 0 0 fun (l1_22 : Int) (l2_23 : Int) (l3_24 : Int) =>
  xbp (F_X6_tell (xw l2_23) s2) fun s26 =>
  some (l1_22, s26)
def F_X3_takeBack (s0 : xW) : Option (xW) :=
  xgd (0 ≤ (s0 21 1) ∧ (s0 21 1) < 16) <|
  xgd ((23 + 4 * (s0 21 1)) ∈ xTowns) <|
  xbp (F_X9_copy 17 (23 + 4 * (s0 21 1)) s0) fun s4 =>
  some s4
def F_X3_bringBack (s0 : xW) : Option (Int × xW) :=
  if (xw (s0 21 2)) = 0 then
    some (0, s0)
  else
    xls (xu s0 21 1 (Int.tmod (xw ((s0 21 1) + 15)) 16)) fun s2 =>
    xls (xu s2 21 2 ((s2 21 2) - 1)) fun s4 =>
    xbp (F_X3_takeBack  s4) fun s7 =>
    some (1, s7)
def F_X10_undo (s0 : xW) : Option (Int × xW) :=
  xbd (F_X3_bringBack  s0) fun r2 s3 =>
  xli (if (xw r2) ≠ 0 then (s3 21 2) else -1) fun v5 =>
  some (v5, s3)
def F_X10_weekMisfit_6 (s4 : xW) : Nat → Int → Int → Int → (Int → Int → Int → Option (Int)) → Option (Int)
  | 0, _, _, _, _ => none
  | f + 1, l1_1, l2_2, l3_3, k =>
    if (xw l3_3) < (xw (s4 1 1)) then
      if (xw l3_3) = 60 then
        some l3_3
      else
        xjn (fun (l1_7 : Int) (l2_8 : Int) =>
          F_X10_weekMisfit_6 s4 f l1_7 l2_8 (l3_3 + 1) k
        ) fun j9 =>
        if (xw l2_2) = 0 then
          xbp (F_X8_at l3_3 s4) fun r27 =>
          xbp (F_X10_digitsOf r27 s4) fun r29 =>
          if (xw r29) = 0 then
            some l3_3
          else
            j9 r27 r29
        else
          xli (if (xw l1_1) ≠ 98 then if (xw l1_1) = 108 then if (xw l2_2) = 1 then 1 else 0 else 0 else 1) fun v16 =>
          xbp (F_X8_digit l3_3 s4) fun r20 =>
          xli (if (xw v16) ≠ 0 then 1 else 0) fun v22 =>
          if (xw r20) < (xw v22) then
            some l3_3
          else
            j9 l1_1 (l2_2 + (-1))
    else
      k l1_1 l2_2 l3_3
def F_X10_weekMisfit (s0 : xW) : Option (Int) :=
  F_X10_weekMisfit_6  s0 xN 0 0 0 fun (l1_34 : Int) (l2_35 : Int) (l3_36 : Int) =>
  xli (if (xw l2_35) = 0 then -1 else (s0 1 1)) fun v38 =>
  some v38
def F_X10_week_39 : Nat → Int → Int → Int → xW → (Int → Int → Int → xW → Option (Int × xW)) → Option (Int × xW)
  | 0, _, _, _, _, _ => none
  | f + 1, l2_6, l3_7, l4_8, s9, k =>
    if (xw l4_8) < (xw (s9 1 1)) then
      if (xw l3_7) = 0 then
        xbd (F_X10_doAct l4_8 s9) fun r13 s14 =>
        xli (if (xw r13) < 0 then 1 else 0) fun v16 =>
        xli (if (xw v16) ≠ 0 then 0 else 1) fun v20 =>
        xbp (F_X8_at l4_8 s14) fun r24 =>
        xbp (F_X10_digitsOf r24 s14) fun r26 =>
        F_X10_week_39  f (l2_6 + v20) v16 (l4_8 + (1 + r26)) s14 k
      else
        k l2_6 l3_7 l4_8 s9
    else
      k l2_6 l3_7 l4_8 s9
def F_X10_week (s0 : xW) : Option (Int × xW) :=
  xbp (F_X10_weekMisfit  s0) fun r2 =>
  if (xw r2) ≠ (-1) then
    xbp (F_X8_clear  s0) fun s51 =>
    some (((-1) - r2), s51)
  else
    xbp (F_X3_note  s0) fun s5 =>
    F_X10_week_39  xN 0 0 0 s5 fun (l2_31 : Int) (l3_32 : Int) (l4_33 : Int) (s34 : xW) =>
    xjn (fun (s35 : xW) =>
      xbp (F_X8_clear  s35) fun s40 =>
      xli (if (xw l3_32) ≠ 0 then 1 else 0) fun v42 =>
      xbp (F_X6_tell_ v42 (xw (s40 17 3)) s40) fun s46 =>
      some (l2_31, s46)
    ) fun j36 =>
    if 0 < (xw l2_31) then
      xbp (F_X3_add  s34) fun s49 =>
      j36 s49
    else
      j36 s34
def F_X10_winds (s0 : xW) : Option (Int × xW) :=
  xbd (F_X10_readDigits 5 s0) fun r2 s3 =>
  some (r2, s3)
def F_X10_years_37 (l2_10 : Int) : Nat → Int → Int → Int → xW → (Int → Int → Int → xW → Option (Int × xW)) → Option (Int × xW)
  | 0, _, _, _, _, _ => none
  | f + 1, l3_11, l4_12, l5_13, s14, k =>
    if (xw l5_13) < (xw l2_10) then
      xbd (F_X10_draw 4 s14) fun r17 s18 =>
      xjn (fun (l3_19 : Int) (l4_20 : Int) (s21 : xW) =>
        F_X10_years_37 l2_10 f l3_19 l4_20 (l5_13 + 1) s21 k
      ) fun j22 =>
      if (xw r17) < 2 then
        xbd (F_X10_passDay  s18) fun r50 s51 =>
        xli (if (xw r50) = (-1) then 1 else 0) fun v53 =>
        j22 (l3_11 + (max (xw r50) 0)) (l4_12 + v53) s51
      else
        if (xw r17) = 2 then
          xbd (F_X10_draw 10 s18) fun r41 s42 =>
          xbd (F_X10_draw 10 s42) fun r44 s45 =>
          xbd (F_X10_haul r41 r44 s45) fun r47 s48 =>
          j22 l3_11 l4_12 s48
        else
          if 0 < (xw (s18 0 14)) then
            xbd (F_X10_draw (s18 0 14) s18) fun r29 s30 =>
            xbd (F_X10_draw 10 s30) fun r32 s33 =>
            xbd (F_X10_draw 10 s33) fun r35 s36 =>
            xbd (F_X10_move r29 r32 r35 s36) fun r38 s39 =>
            j22 l3_11 l4_12 s39
          else
            j22 l3_11 l4_12 s18
    else
      k l3_11 l4_12 l5_13 s14
def F_X10_years (a1 : Int) (a2 : Int) (s0 : xW) : Option (Int × xW) :=
  xjn (
    some (-1, s0)
  ) fun j1 =>
  if 1 ≤ (xw a2) then
    if 60 < (xw a2) then
      j1 
    else
      xbp (F_X3_note  s0) fun s7 =>
      xls (xu s7 0 15 a1) fun s8 =>
      F_X10_years_37 a2 xN 0 0 0 s8 fun (l3_60 : Int) (l4_61 : Int) (l5_62 : Int) (s63 : xW) =>
      xbp (F_X6_tell_ (xw (s63 17 2)) (xw l4_61) s63) fun s65 =>
      xbp (F_X3_takeBack  s65) fun s67 =>
      some (l3_60, s67)
  else
    j1 
def F_X11_adds_21 (l1_8 : Int) : Nat → Int → xW → (Int → xW → Option (Int × xW)) → Option (Int × xW)
  | 0, _, _, _ => none
  | f + 1, l2_9, s10, k =>
    if (xw l2_9) < 600 then
      xgd (0 ≤ (l2_9 + 40) ∧ (l2_9 + 40) < 640) <|
      xgd (0 ≤ l2_9 ∧ l2_9 < 640) <|
      xls (xu s10 136 l2_9 (s10 136 (l2_9 + 40))) fun s14 =>
      F_X11_adds_21 l1_8 f (l2_9 + 1) s14 k
    else
      k l2_9 s10
def F_X11_adds (a1 : Int) (s0 : xW) : Option (Int × xW) :=
  xls (xu s0 121 28 ((s0 121 28) + 1)) fun s1 =>
  xjn (fun (s3 : xW) =>
    some (a1, s3)
  ) fun j4 =>
  if 15 < (xw (s1 121 28)) then
    F_X11_adds_21 a1 xN 0 s1 fun (l2_18 : Int) (s19 : xW) =>
    xls (xu s19 121 28 ((s19 121 28) - 1)) fun s20 =>
    j4 s20
  else
    j4 s1
def F_X11_in (a0 : Int) (a2 : Int) (a4 : Int) (s0 : xW) : Option (Int) :=
  if (xwl a2) ≤ (xwl a0) then
    if (xwl a0) ≤ (xwl a4) then
      some 1
    else
      some 0
  else
    some 0
def F_X11_again_43 (l1_13 : Int) : Nat → Int → xW → (Int → xW → Option (Int × xW)) → Option (Int × xW)
  | 0, _, _, _ => none
  | f + 1, l2_14, s15, k =>
    if (xw l2_14) < 40 then
      xgd (0 ≤ ((40 * l1_13) + l2_14) ∧ ((40 * l1_13) + l2_14) < 120) <|
      xgd (0 ≤ l2_14 ∧ l2_14 < 40) <|
      xls (xu s15 127 l2_14 (s15 153 ((40 * l1_13) + l2_14))) fun s19 =>
      F_X11_again_43 l1_13 f (l2_14 + 1) s19 k
    else
      k l2_14 s15
def F_X11_again (a1 : Int) (s0 : xW) : Option (Int × xW) :=
  xls (xu s0 121 0 0) fun s1 =>
  xbp (F_X11_in (xw a1) 0 2 s1) fun r4 =>
  xjn (
    some (0, s1)
  ) fun j5 =>
  if (xw r4) ≠ 0 then
    xgd (0 ≤ a1 ∧ a1 < 3) <|
    if (xw (s1 151 a1)) ≠ 0 then
      xgd (0 ≤ a1 ∧ a1 < 3) <|
      if (xw (s1 152 a1)) ≠ (xw (s1 121 5)) then
        j5 
      else
        F_X11_again_43 a1 xN 0 s1 fun (l2_23 : Int) (s24 : xW) =>
        xls (xu s24 121 28 0) fun s25 =>
        some (1, s25)
    else
      j5 
  else
    j5 
def F_X11_copies_2 : Nat → Int → xW → (Int → xW → Option (xW)) → Option (xW)
  | 0, _, _, _ => none
  | f + 1, l1_1, s2, k =>
    if (xw l1_1) < 40 then
      xgd (0 ≤ l1_1 ∧ l1_1 < 40) <|
      xgd (0 ≤ l1_1 ∧ l1_1 < 40) <|
      xls (xu s2 128 l1_1 (s2 127 l1_1)) fun s6 =>
      F_X11_copies_2  f (l1_1 + 1) s6 k
    else
      k l1_1 s2
def F_X11_copies (s0 : xW) : Option (xW) :=
  F_X11_copies_2  xN 0 s0 fun (l1_10 : Int) (s11 : xW) =>
  some s11
def F_X11_dampOn (a1 : Int) (s0 : xW) : Option (Int) :=
  xgd ((xw (s0 121 7)) ≠ 0) <|
  xgd (0 ≤ (Int.tmod (xw a1) (xw (s0 121 7))) ∧ (Int.tmod (xw a1) (xw (s0 121 7))) < 20) <|
  some (s0 124 (Int.tmod (xw a1) (xw (s0 121 7))))
def F_X11_enters (a1 : Int) (s0 : xW) : Option (xW) :=
  xgd (0 ≤ (s0 121 1) ∧ (s0 121 1) < 24) <|
  xls (xu s0 122 (s0 121 1) a1) fun s2 =>
  xls (xu s2 121 1 ((s2 121 1) + 1)) fun s4 =>
  some s4
def F_X11_windOn (a1 : Int) (s0 : xW) : Option (Int) :=
  xgd ((xw (s0 121 6)) ≠ 0) <|
  xgd (0 ≤ (Int.tmod (xw a1) (xw (s0 121 6))) ∧ (Int.tmod (xw a1) (xw (s0 121 6))) < 20) <|
  some (s0 123 (Int.tmod (xw a1) (xw (s0 121 6))))
def F_X11_far (a0 : Int) (a1 : Int) (a2 : Int) (a3 : Int) (s0 : xW) : Option (Int) :=
  some ((xab (xw (a0 - a2))) + (xab (xw (a1 - a3))))
def F_X11_flag (a0 : Int) (s0 : xW) : Option (Int) :=
  xli (if (xw a0) ≠ 0 then 1 else 0) fun v2 =>
  some v2
def F_X11_worked (a0 : Int) (a1 : Int) (a2 : Int) (s0 : xW) : Option (Int) :=
  if (xw a0) = 0 then
    xli (if (xw a1) < (xw a2) then 1 else 0) fun v3 =>
    xbp (F_X11_flag v3 s0) fun r7 =>
    some r7
  else
  if (xw a0) = 1 then
    xli (if (xw a2) < (xw a1) then 1 else 0) fun v10 =>
    xbp (F_X11_flag v10 s0) fun r14 =>
    some r14
  else
  if (xw a0) = 2 then
    xli (if (xw a1) = (xw a2) then 1 else 0) fun v17 =>
    xbp (F_X11_flag v17 s0) fun r21 =>
    some r21
  else
  if (xw a0) = 3 then
    some (a1 + a2)
  else
  if (xw a0) = 4 then
    some (a1 - a2)
  else
  if (xw a0) = 5 then
    some (a1 * a2)
  else
  xjn (fun (t25 : Int) =>
    some t25
  ) fun j26 =>
  if (xw a2) = 0 then
    j26 0
  else
    xgd ((xw a2) ≠ 0) <|
    j26 (Int.tdiv (xw a1) (xw a2))
def F_X11_ruled_4 : Nat → Int → Int → xW → (Int → Int → xW → Option (Int × xW)) → Option (Int × xW)
  | 0, _, _, _, _ => none
  | f + 1, l1_1, l2_2, s3, k =>
    if (xw l2_2) < (xw (s3 121 23)) then
      xgd (0 ≤ l2_2 ∧ l2_2 < 80) <|
      xjn (fun (l1_6 : Int) (s7 : xW) =>
        F_X11_ruled_4  f l1_6 (l2_2 + 1) s7 k
      ) fun j8 =>
      if (xw (s3 131 l2_2)) = 3000 then
        xgd (0 ≤ (l1_1 - 1) ∧ (l1_1 - 1) < 80) <|
        xgd (0 ≤ (l1_1 - 1) ∧ (l1_1 - 1) < 80) <|
        xls (xu s3 133 (l1_1 - 1) (-(s3 133 (l1_1 - 1)))) fun s31 =>
        j8 l1_1 s31
      else
        if 2000 ≤ (xw (s3 131 l2_2)) then
          xgd (0 ≤ ((l1_1 + (-1)) - 1) ∧ ((l1_1 + (-1)) - 1) < 80) <|
          xgd (0 ≤ (l1_1 + (-1)) ∧ (l1_1 + (-1)) < 80) <|
          xbp (F_X11_worked ((s3 131 l2_2) - 2000) (s3 133 ((l1_1 + (-1)) - 1)) (s3 133 (l1_1 + (-1))) s3) fun r25 =>
          xgd (0 ≤ ((l1_1 + (-1)) - 1) ∧ ((l1_1 + (-1)) - 1) < 80) <|
          xls (xu s3 133 ((l1_1 + (-1)) - 1) r25) fun s27 =>
          j8 (l1_1 + (-1)) s27
        else
          xjn (fun (t13 : Int) =>
            xgd (0 ≤ l1_1 ∧ l1_1 < 80) <|
            xls (xu s3 133 l1_1 t13) fun s18 =>
            j8 (l1_1 + 1) s18
          ) fun j14 =>
          if 1000 ≤ (xw (s3 131 l2_2)) then
            xgd (0 ≤ ((s3 131 l2_2) - 1000) ∧ ((s3 131 l2_2) - 1000) < 7) <|
            j14 (s3 134 ((s3 131 l2_2) - 1000))
          else
            j14 (s3 131 l2_2)
    else
      k l1_1 l2_2 s3
def F_X11_ruled (s0 : xW) : Option (Int × xW) :=
  F_X11_ruled_4  xN 0 0 s0 fun (l1_36 : Int) (l2_37 : Int) (s38 : xW) =>
  xjn (fun (t39 : Int) =>
    some (t39, s38)
  ) fun j40 =>
  if (xw (s38 121 23)) = 0 then
    j40 ((2 * (s38 134 0)) - (Int.tdiv (xw (s38 134 1)) 2))
  else
    j40 (s38 133 0)
def F_X11_hearsBy (a1 : Int) (a2 : Int) (a3 : Int) (a4 : Int) (a5 : Int) (s0 : xW) : Option (Int × xW) :=
  xgd (a1 ∈ xNows) <|
  xgd (0 ≤ a2 ∧ a2 < 40) <|
  xgd (0 ≤ (8 + a2) ∧ (8 + a2) < 40) <|
  xbp (F_X11_far (s0 a1 32) (s0 a1 33) (s0 a1 a2) (s0 a1 (8 + a2)) s0) fun r4 =>
  xbp (F_X11_far (s0 a1 32) (s0 a1 33) (s0 a1 34) (s0 a1 35) s0) fun r6 =>
  xbp (F_X11_far (s0 a1 34) (s0 a1 35) (s0 a1 a2) (s0 a1 (8 + a2)) s0) fun r8 =>
  xli (if (xw a3) ≠ 0 then (r6 + r8) else r4) fun v10 =>
  xls (xu s0 134 0 v10) fun s13 =>
  xls (xu s13 134 1 a5) fun s15 =>
  xls (xu s15 134 2 a4) fun s17 =>
  xls (xu s17 134 3 (s0 a1 a2)) fun s19 =>
  xls (xu s19 134 4 (s0 a1 (8 + a2))) fun s21 =>
  xls (xu s21 134 5 (Int.tmod (xw (s21 a1 39)) 7)) fun s23 =>
  xbp (F_X11_flag a3 s23) fun r26 =>
  xls (xu s23 134 6 r26) fun s27 =>
  xbd (F_X11_ruled  s27) fun r30 s31 =>
  some ((a4 + (max 0 (xw (min 99 (xw r30))))), s31)
def F_X11_hears (a1 : Int) (a2 : Int) (s0 : xW) : Option (Int × xW) :=
  xgd (a1 ∈ xNows) <|
  xbp (F_X11_dampOn (s0 a1 39) s0) fun r2 =>
  xbp (F_X11_windOn (s0 a1 39) s0) fun r4 =>
  xbd (F_X11_hearsBy a1 a2 0 r2 r4 s0) fun r6 s7 =>
  some (r6, s7)
def F_X11_laysBegins_2 (l1_1 : Int) : Nat → Int → xW → (Int → xW → Option (xW)) → Option (xW)
  | 0, _, _, _ => none
  | f + 1, l2_3, s4, k =>
    if (xw l2_3) < (xw (s4 121 4)) then
      xgd (0 ≤ l2_3 ∧ l2_3 < 8) <|
      xbd (F_X11_hears l1_1 (s4 125 l2_3) s4) fun r8 s9 =>
      xgd (0 ≤ l2_3 ∧ l2_3 < 8) <|
      xls (xu s9 135 l2_3 r8) fun s11 =>
      F_X11_laysBegins_2 l1_1 f (l2_3 + 1) s11 k
    else
      k l2_3 s4
def F_X11_laysBegins (a1 : Int) (s0 : xW) : Option (xW) :=
  xgd (a1 ∈ xNows) <|
  F_X11_laysBegins_2 a1 xN 0 s0 fun (l2_15 : Int) (s16 : xW) =>
  some s16
def F_X11_meet (a1 : Int) (a2 : Int) (a3 : Int) (s0 : xW) : Option (Int) :=
  xgd (a1 ∈ xNows) <|
  xgd (0 ≤ a2 ∧ a2 < 8) <|
  xgd (0 ≤ a3 ∧ a3 < 8) <|
  xgd (0 ≤ (24 + a3) ∧ (24 + a3) < 40) <|
  xjn (fun (t4 : Int) =>
    xgd (t4 = 0 ∨ t4 = 1) <|
    some t4
  ) fun j5 =>
  xjn (
    j5 0
  ) fun j9 =>
  if (xw (s0 135 a2)) < (xw ((s0 135 a3) + (s0 a1 (24 + a3)))) then
    xgd (0 ≤ a3 ∧ a3 < 8) <|
    xgd (0 ≤ a2 ∧ a2 < 8) <|
    xgd (0 ≤ (24 + a2) ∧ (24 + a2) < 40) <|
    if (xw (s0 135 a3)) < (xw ((s0 135 a2) + (s0 a1 (24 + a2)))) then
      j5 1
    else
      j9 
  else
    j9 
def F_X11_clash (a1 : Int) (a2 : Int) (a3 : Int) (s0 : xW) : Option (Int) :=
  xgd (a1 ∈ xNows) <|
  xgd (0 ≤ a2 ∧ a2 < 8) <|
  xgd (0 ≤ a3 ∧ a3 < 8) <|
  xjn (fun (t3 : Int) =>
    xgd (t3 = 0 ∨ t3 = 1) <|
    some t3
  ) fun j4 =>
  xjn (
    j4 0
  ) fun j8 =>
  if (xw (xand (s0 126 a2) (s0 126 a3))) ≠ 0 then
    xbp (F_X11_meet a1 a2 a3 s0) fun r13 =>
    if (xw r13) ≠ 0 then
      j4 1
    else
      j8 
  else
    j8 
def F_X11_clashing_5 (l1_1 : Int) (l2_3 : Int) (s6 : xW) : Nat → Int → Int → (Int → Int → Option (Int)) → Option (Int)
  | 0, _, _, _ => none
  | f + 1, l3_4, l4_5, k =>
    if (xw l4_5) < (xw (s6 121 4)) then
      xjn (fun (t8 : Int) =>
        F_X11_clashing_5 l1_1 l2_3 s6 f (xor' l3_4 t8) (l4_5 + 1) k
      ) fun j9 =>
      xjn (
        j9 0
      ) fun j12 =>
      if (xw l4_5) ≠ (xw l2_3) then
        xbp (F_X11_clash l1_1 l2_3 l4_5 s6) fun r17 =>
        if (xw r17) ≠ 0 then
          j9 (xshl 1 l4_5)
        else
          j12 
      else
        j12 
    else
      k l3_4 l4_5
def F_X11_clashing (a1 : Int) (a2 : Int) (s0 : xW) : Option (Int) :=
  xgd (a1 ∈ xNows) <|
  F_X11_clashing_5 a1 a2 s0 xN 0 0 fun (l3_21 : Int) (l4_22 : Int) =>
  some l3_21
def F_X11_clashesOn_9 (l1_3 : Int) (s7 : xW) : Nat → Int → Int → (Int → Int → Option (Int × xW)) → Option (Int × xW)
  | 0, _, _, _ => none
  | f + 1, l2_5, l3_6, k =>
    if (xw l3_6) < (xw (s7 121 4)) then
      xbp (F_X11_clashing l1_3 l3_6 s7) fun r10 =>
      F_X11_clashesOn_9 l1_3 s7 f (l2_5 + (xbc r10)) (l3_6 + 1) k
    else
      k l2_5 l3_6
def F_X11_clashesOn (a1 : Int) (s0 : xW) : Option (Int × xW) :=
  xgd (a1 ∈ xNows) <|
  xbp (F_X11_laysBegins a1 s0) fun s2 =>
  F_X11_clashesOn_9 a1 s2 xN 0 0 fun (l2_13 : Int) (l3_14 : Int) =>
  some ((Int.tdiv (xw l2_13) 2), s2)
def F_X11_ahead (a1 : Int) (s0 : xW) : Option (Int × xW) :=
  xls (xu s0 121 0 0) fun s1 =>
  xbp (F_X11_in (xw a1) 0 99 s1) fun r4 =>
  if (xw r4) = 0 then
    some (-1, s1)
  else
    xbp (F_X11_copies  s1) fun s7 =>
    xls (xu s7 128 39 ((s7 128 39) + a1)) fun s8 =>
    xls (xu s8 121 1 0) fun s10 =>
    xbp (F_X11_dampOn (s10 128 39) s10) fun r13 =>
    xbp (F_X11_enters (xw r13) s10) fun s15 =>
    xbp (F_X11_windOn (s15 128 39) s15) fun r17 =>
    xbp (F_X11_enters (xw r17) s15) fun s19 =>
    xbd (F_X11_clashesOn 128 s19) fun r21 s22 =>
    some (r21, s22)
def F_X11_apart_29 (l4_12 : Int) (s14 : xW) : Nat → Int → Int → Int → Int → (Int → Int → Int → Int → Option (Int × xW)) → Option (Int × xW)
  | 0, _, _, _, _, _ => none
  | f + 1, l1_9, l2_10, l3_11, l5_13, k =>
    if (xw l5_13) < (xw (s14 121 3)) then
      xgd (0 ≤ (16 + l4_12) ∧ (16 + l4_12) < 40) <|
      xgd (0 ≤ (16 + l5_13) ∧ (16 + l5_13) < 40) <|
      xjn (fun (l1_18 : Int) (l2_19 : Int) (l3_20 : Int) =>
        F_X11_apart_29 l4_12 s14 f l1_18 l2_19 l3_20 (l5_13 + 1) k
      ) fun j21 =>
      if (xw l3_11) < (xw (xab (xw ((s14 127 (16 + l4_12)) - (s14 127 (16 + l5_13)))))) then
        j21 l4_12 l5_13 (xab (xw ((s14 127 (16 + l4_12)) - (s14 127 (16 + l5_13)))))
      else
        j21 l1_9 l2_10 l3_11
    else
      k l1_9 l2_10 l3_11 l5_13
def F_X11_apart_14 (s7 : xW) : Nat → Int → Int → Int → Int → (Int → Int → Int → Int → Option (Int × xW)) → Option (Int × xW)
  | 0, _, _, _, _, _ => none
  | f + 1, l1_3, l2_4, l3_5, l4_6, k =>
    if (xw l4_6) < (xw (s7 121 3)) then
      F_X11_apart_29 l4_6 s7 xN l1_3 l2_4 l3_5 (l4_6 + 1) fun (l1_29 : Int) (l2_30 : Int) (l3_31 : Int) (l5_32 : Int) =>
      F_X11_apart_14 s7 f l1_29 l2_30 l3_31 (l4_6 + 1) k
    else
      k l1_3 l2_4 l3_5 l4_6
def F_X11_apart (s0 : xW) : Option (Int × xW) :=
  xls (xu s0 121 0 0) fun s1 =>
  F_X11_apart_14  s1 xN (-1) (-1) (-1) 0 fun (l1_37 : Int) (l2_38 : Int) (l3_39 : Int) (l4_40 : Int) =>
  if (xw l1_37) < 0 then
    some (-2, s1)
  else
    xls (xu s1 121 1 0) fun s42 =>
    xbp (F_X11_enters (xw l1_37) s42) fun s45 =>
    xbp (F_X11_enters (xw l2_38) s45) fun s47 =>
    some (l3_39, s47)
def F_X11_isSo_4 (l1_1 : Int) : Nat → Int → Int → xW → (Int → Int → xW → Option (Int × xW)) → Option (Int × xW)
  | 0, _, _, _, _ => none
  | f + 1, l2_2, l3_3, s4, k =>
    if (xw l3_3) < (xw (s4 121 42)) then
      xjn (fun (t6 : Int) (s7 : xW) =>
        F_X11_isSo_4 l1_1 f t6 (l3_3 + 1) s7 k
      ) fun j8 =>
      xjn (fun (s11 : xW) =>
        j8 0 s11
      ) fun j12 =>
      if (xw l2_2) ≠ 0 then
        xgd (0 ≤ l3_3 ∧ l3_3 < 10) <|
        xbd (F_X11_hearsBy 127 (s4 146 l3_3) 0 (Int.tdiv (xw l1_1) 10) (Int.tmod (xw l1_1) 10) s4) fun r18 s19 =>
        xgd (0 ≤ l3_3 ∧ l3_3 < 10) <|
        if (xw r18) = (xw (s19 147 l3_3)) then
          j8 1 s19
        else
          j12 s19
      else
        j12 s4
    else
      k l2_2 l3_3 s4
def F_X11_isSo (a1 : Int) (s0 : xW) : Option (Int × xW) :=
  F_X11_isSo_4 a1 xN 1 0 s0 fun (l2_25 : Int) (l3_26 : Int) (s27 : xW) =>
  xgd (l2_25 = 0 ∨ l2_25 = 1) <|
  some (l2_25, s27)
def F_X11_asks_28 (l1_8 : Int) (l2_9 : Int) (l3_10 : Int) (l4_11 : Int) : Nat → Int → xW → (Int → xW → Option (Int × xW)) → Option (Int × xW)
  | 0, _, _, _ => none
  | f + 1, l5_12, s13, k =>
    if (xw l5_12) < 220 then
      xgd (0 ≤ l5_12 ∧ l5_12 < 220) <|
      xls (xu s13 142 l5_12 0) fun s16 =>
      F_X11_asks_28 l1_8 l2_9 l3_10 l4_11 f (l5_12 + 1) s16 k
    else
      k l5_12 s13
def F_X11_asks_53 (l1_22 : Int) (l2_23 : Int) (l3_24 : Int) : Nat → Int → Int → xW → (Int → Int → xW → Option (Int × xW)) → Option (Int × xW)
  | 0, _, _, _, _ => none
  | f + 1, l4_25, l5_26, s27, k =>
    if (xw l5_26) < 100 then
      xbd (F_X11_isSo l5_26 s27) fun r30 s31 =>
      xjn (fun (l4_32 : Int) (s33 : xW) =>
        F_X11_asks_53 l1_22 l2_23 l3_24 f l4_32 (l5_26 + 1) s33 k
      ) fun j34 =>
      if (xw r30) ≠ 0 then
        xbd (F_X11_hearsBy 127 l3_24 0 (Int.tdiv (xw l5_26) 10) (Int.tmod (xw l5_26) 10) s31) fun r39 s40 =>
        xgd (0 ≤ r39 ∧ r39 < 220) <|
        xgd (0 ≤ r39 ∧ r39 < 220) <|
        xls (xu s40 142 r39 ((s40 142 r39) + 1)) fun s43 =>
        xgd (0 ≤ r39 ∧ r39 < 220) <|
        j34 (max (xw l4_25) (xw (s43 142 r39))) s43
      else
        j34 l4_25 s31
    else
      k l4_25 l5_26 s27
def F_X11_asks_14 : Nat → Int → Int → Int → xW → (Int → Int → Int → xW → Option (Int × xW)) → Option (Int × xW)
  | 0, _, _, _, _, _ => none
  | f + 1, l1_3, l2_4, l3_5, s6, k =>
    if (xw l3_5) < (xw (s6 121 3)) then
      F_X11_asks_28 l1_3 l2_4 l3_5 0 xN 0 s6 fun (l5_20 : Int) (s21 : xW) =>
      F_X11_asks_53 l1_3 l2_4 l3_5 xN 0 0 s21 fun (l4_49 : Int) (l5_50 : Int) (s51 : xW) =>
      xli (if 0 < (xw l4_49) then if (xw l4_49) < (xw l2_4) then l3_5 else l1_3 else l1_3) fun v54 =>
      xjn (fun (t57 : Int) =>
        F_X11_asks_14  f v54 t57 (l3_5 + 1) s51 k
      ) fun j58 =>
      if 0 < (xw l4_49) then
        j58 (min (xw l2_4) (xw l4_49))
      else
        j58 l2_4
    else
      k l1_3 l2_4 l3_5 s6
def F_X11_asks (s0 : xW) : Option (Int × xW) :=
  xls (xu s0 121 0 0) fun s1 =>
  F_X11_asks_14  xN (-2) 1000000 0 s1 fun (l1_66 : Int) (l2_67 : Int) (l3_68 : Int) (s69 : xW) =>
  xjn (fun (s70 : xW) =>
    some (l1_66, s70)
  ) fun j71 =>
  if 0 ≤ (xw l1_66) then
    xls (xu s69 121 1 0) fun s75 =>
    xbp (F_X11_enters (xw l2_67) s75) fun s78 =>
    j71 s78
  else
    j71 s69
def F_X11_begins (a1 : Int) (s0 : xW) : Option (Int × xW) :=
  xls (xu s0 121 15 0) fun s1 =>
  xls (xu s1 121 16 0) fun s3 =>
  xls (xu s3 121 18 0) fun s5 =>
  xls (xu s5 121 17 (min (xw (s0 121 15)) (xw a1))) fun s7 =>
  some ((s0 121 15), s7)
def F_X11_best_27 (l1_8 : Int) : Nat → Int → Int → Int → xW → (Int → Int → Int → xW → Option (Int × xW)) → Option (Int × xW)
  | 0, _, _, _, _, _ => none
  | f + 1, l2_9, l3_10, l4_11, s12, k =>
    if (xw l4_11) < 100 then
      xls (xu s12 128 32 (Int.tdiv (xw l4_11) 10)) fun s14 =>
      xls (xu s14 128 33 (Int.tmod (xw l4_11) 10)) fun s16 =>
      xbd (F_X11_clashesOn 128 s16) fun r19 s20 =>
      xli (if (xw r19) < (xw l3_10) then l4_11 else l2_9) fun v22 =>
      F_X11_best_27 l1_8 f v22 (min (xw l3_10) (xw r19)) (l4_11 + 1) s20 k
    else
      k l2_9 l3_10 l4_11 s12
def F_X11_best (s0 : xW) : Option (Int × xW) :=
  xls (xu s0 121 0 0) fun s1 =>
  xbd (F_X11_clashesOn 127 s1) fun r4 s5 =>
  xbp (F_X11_copies  s5) fun s7 =>
  F_X11_best_27 r4 xN (-1) 1000000 0 s7 fun (l2_29 : Int) (l3_30 : Int) (l4_31 : Int) (s32 : xW) =>
  xls (xu s32 121 1 0) fun s33 =>
  xbp (F_X11_enters (xw (Int.tdiv (xw l2_29) 10)) s33) fun s36 =>
  xbp (F_X11_enters (xw (Int.tmod (xw l2_29) 10)) s36) fun s38 =>
  xbp (F_X11_enters (xw r4) s38) fun s40 =>
  some (l3_30, s40)
def F_X11_putsBy_2 : Nat → Int → xW → (Int → xW → Option (xW)) → Option (xW)
  | 0, _, _, _ => none
  | f + 1, l1_1, s2, k =>
    if (xw l1_1) < 40 then
      xgd (0 ≤ l1_1 ∧ l1_1 < 40) <|
      xgd (0 ≤ ((40 * (s2 121 28)) + l1_1) ∧ ((40 * (s2 121 28)) + l1_1) < 640) <|
      xls (xu s2 136 ((40 * (s2 121 28)) + l1_1) (s2 127 l1_1)) fun s6 =>
      F_X11_putsBy_2  f (l1_1 + 1) s6 k
    else
      k l1_1 s2
def F_X11_putsBy (s0 : xW) : Option (xW) :=
  F_X11_putsBy_2  xN 0 s0 fun (l1_10 : Int) (s11 : xW) =>
  some s11
def F_X11_buysSome (a1 : Int) (s0 : xW) : Option (Int × xW) :=
  xbp (F_X11_in (xw a1) 1 99 s0) fun r2 =>
  if (xw r2) = 0 then
    some (-1, s0)
  else
    if 99 < (xw ((s0 127 36) + a1)) then
      some (-3, s0)
    else
      xls (xu s0 127 36 ((s0 127 36) + a1)) fun s5 =>
      some ((s5 127 36), s5)
def F_X11_counted (a1 : Int) (s0 : xW) : Option (Int × xW) :=
  xjn (fun (t1 : Int) (s2 : xW) =>
    some (t1, s2)
  ) fun j3 =>
  if (xw a1) < 0 then
    j3 a1 s0
  else
    xbd (F_X11_adds a1 s0) fun r8 s9 =>
    j3 r8 s9
def F_X11_buys (a1 : Int) (s0 : xW) : Option (Int × xW) :=
  xls (xu s0 121 0 0) fun s1 =>
  xbp (F_X11_putsBy  s1) fun s4 =>
  xbd (F_X11_buysSome a1 s4) fun r6 s7 =>
  xbd (F_X11_counted r6 s7) fun r9 s10 =>
  some (r9, s10)
def F_X11_clashes_33 (l1_12 : Int) (l2_13 : Int) : Nat → Int → xW → (Int → xW → Option (Int × xW)) → Option (Int × xW)
  | 0, _, _, _ => none
  | f + 1, l3_14, s15, k =>
    if (xw l3_14) < (xw (s15 121 4)) then
      xjn (fun (s17 : xW) =>
        F_X11_clashes_33 l1_12 l2_13 f (l3_14 + 1) s17 k
      ) fun j18 =>
      if (xw (s15 121 1)) = 0 then
        xbp (F_X11_clash 127 l2_13 l3_14 s15) fun r23 =>
        if (xw r23) ≠ 0 then
          xbp (F_X11_enters (xw l2_13) s15) fun s26 =>
          xbp (F_X11_enters (xw l3_14) s26) fun s28 =>
          j18 s28
        else
          j18 s15
      else
        j18 s15
    else
      k l3_14 s15
def F_X11_clashes_21 (l1_8 : Int) : Nat → Int → xW → (Int → xW → Option (Int × xW)) → Option (Int × xW)
  | 0, _, _, _ => none
  | f + 1, l2_9, s10, k =>
    if (xw l2_9) < (xw (s10 121 4)) then
      F_X11_clashes_33 l1_8 l2_9 xN (l2_9 + 1) s10 fun (l3_31 : Int) (s32 : xW) =>
      F_X11_clashes_21 l1_8 f (l2_9 + 1) s32 k
    else
      k l2_9 s10
def F_X11_clashes (s0 : xW) : Option (Int × xW) :=
  xls (xu s0 121 0 0) fun s1 =>
  xbd (F_X11_clashesOn 127 s1) fun r4 s5 =>
  xls (xu s5 121 1 0) fun s6 =>
  F_X11_clashes_21 r4 xN 0 s6 fun (l2_35 : Int) (s36 : xW) =>
  some (r4, s36)
def F_X11_codes (a1 : Int) (s0 : xW) : Option (xW) :=
  xgd (0 ≤ (s0 121 24) ∧ (s0 121 24) < 80) <|
  xls (xu s0 132 (s0 121 24) a1) fun s2 =>
  xls (xu s2 121 24 ((s2 121 24) + 1)) fun s4 =>
  some s4
def F_X11_common_b (rc : Int → Int → Option Int) (a0 : Int) (a2 : Int) (s0 : xW) : Option (Int) :=
  if (xwl a2) = 0 then
    some a0
  else
    xgd ((xwl a2) ≠ 0) <|
    xbp (rc a2 (Int.tmod (xwl a0) (xwl a2))) fun r4 =>
    some r4
def F_common : Nat → Int → Int → Option Int
  | 0, _, _ => none
  | f + 1, a, b => F_X11_common_b (F_common f) a b (fun _ _ => 0)
def F_X11_common (a0 a2 : Int) (_ : xW) : Option Int := F_common 200 a0 a2
def F_X11_count (a1 : Int) (s0 : xW) : Option (Int × xW) :=
  xls (xu s0 121 0 0) fun s1 =>
  if (xw a1) = 0 then
    some ((s1 121 3), s1)
  else
  if (xw a1) = 1 then
    some ((s1 121 4), s1)
  else
  if (xw a1) = 2 then
    some ((s1 127 39), s1)
  else
  if (xw a1) = 3 then
    some ((s1 127 36), s1)
  else
  if (xw a1) = 4 then
    some ((s1 127 37), s1)
  else
  if (xw a1) = 5 then
    some ((s1 127 38), s1)
  else
  if (xw a1) = 6 then
    some ((s1 127 32), s1)
  else
  if (xw a1) = 7 then
    some ((s1 127 33), s1)
  else
  if (xw a1) = 8 then
    xbp (F_X11_windOn (s1 127 39) s1) fun r13 =>
    some (r13, s1)
  else
  if (xw a1) = 9 then
    xbp (F_X11_dampOn (s1 127 39) s1) fun r16 =>
    some (r16, s1)
  else
  if (xw a1) = 10 then
    some ((s1 121 42), s1)
  else
  if (xw a1) = 11 then
    some ((s1 121 28), s1)
  else
  if (xw a1) = 12 then
    some ((s1 121 1), s1)
  else
  if (xw a1) = 13 then
    some ((s1 121 15), s1)
  else
  some (-100, s1)
def F_X11_isDigit (s0 : xW) : Option (Int) :=
  xjn (fun (t1 : Int) =>
    xgd (t1 = 0 ∨ t1 = 1) <|
    some t1
  ) fun j2 =>
  xjn (
    j2 0
  ) fun j6 =>
  if (xw (s0 121 16)) < (xw (s0 121 17)) then
    xgd (0 ≤ (s0 121 16) ∧ (s0 121 16) < 80) <|
    xbp (F_X11_in (xw (s0 129 (s0 121 16))) 48 57 s0) fun r12 =>
    if (xw r12) ≠ 0 then
      j2 1
    else
      j6 
  else
    j6 
def F_X11_number_13 (l1_4 : Int) : Nat → Int → Int → xW → (Int → Int → xW → Option (Int × xW)) → Option (Int × xW)
  | 0, _, _, _, _ => none
  | f + 1, l2_5, l3_6, s7, k =>
    if (xw l3_6) < (xw l1_4) then
      xbp (F_X11_isDigit  s7) fun r10 =>
      if (xw r10) ≠ 0 then
        xgd (0 ≤ (s7 121 16) ∧ (s7 121 16) < 80) <|
        xls (xu s7 121 16 ((s7 121 16) + 1)) fun s13 =>
        F_X11_number_13 l1_4 f (((10 * l2_5) + (s7 129 (s7 121 16))) - 48) (l3_6 + 1) s13 k
      else
        k l2_5 l3_6 s7
    else
      k l2_5 l3_6 s7
def F_X11_number (a1 : Int) (s0 : xW) : Option (Int × xW) :=
  xbp (F_X11_isDigit  s0) fun r2 =>
  if (xw r2) = 0 then
    some (-1, s0)
  else
    F_X11_number_13 a1 xN 0 0 s0 fun (l2_18 : Int) (l3_19 : Int) (s20 : xW) =>
    some (l2_18, s20)
def F_X11_readsDigits_9 : Nat → Int → xW → (Int → xW → Option (Int × xW)) → Option (Int × xW)
  | 0, _, _, _ => none
  | f + 1, l1_4, s5, k =>
    if (xw l1_4) < 20 then
      xbp (F_X11_isDigit  s5) fun r8 =>
      if (xw r8) ≠ 0 then
        xbd (F_X11_number 1 s5) fun r11 s12 =>
        xgd (0 ≤ l1_4 ∧ l1_4 < 24) <|
        xls (xu s12 130 l1_4 r11) fun s14 =>
        F_X11_readsDigits_9  f (l1_4 + 1) s14 k
      else
        k l1_4 s5
    else
      k l1_4 s5
def F_X11_readsDigits (s0 : xW) : Option (Int × xW) :=
  xbd (F_X11_begins 80 s0) fun r2 s3 =>
  F_X11_readsDigits_9  xN 0 s3 fun (l1_18 : Int) (s19 : xW) =>
  xli (if (xw l1_18) ≠ 0 then if (xw (s19 121 16)) < (xw (s19 121 17)) then ((-1) - (s19 121 16)) else l1_18 else ((-1) - (s19 121 16))) fun v22 =>
  some (v22, s19)
def F_X11_damps_23 (l1_9 : Int) : Nat → Int → xW → (Int → xW → Option (Int × xW)) → Option (Int × xW)
  | 0, _, _, _ => none
  | f + 1, l2_10, s11, k =>
    if (xw l2_10) < (xw l1_9) then
      xgd (0 ≤ l2_10 ∧ l2_10 < 24) <|
      xgd (0 ≤ l2_10 ∧ l2_10 < 20) <|
      xls (xu s11 124 l2_10 (s11 130 l2_10)) fun s15 =>
      F_X11_damps_23 l1_9 f (l2_10 + 1) s15 k
    else
      k l2_10 s11
def F_X11_damps (s0 : xW) : Option (Int × xW) :=
  xls (xu s0 121 0 0) fun s1 =>
  xbd (F_X11_readsDigits  s1) fun r4 s5 =>
  if (xw r4) < 0 then
    some (r4, s5)
  else
    xls (xu s5 121 7 r4) fun s7 =>
    F_X11_damps_23 r4 xN 0 s7 fun (l2_19 : Int) (s20 : xW) =>
    some (r4, s20)
def F_X11_dayGoes_49 (l1_21 : Int) : Nat → Int → xW → (Int → xW → Option (xW)) → Option (xW)
  | 0, _, _, _ => none
  | f + 1, l3_23, s24, k =>
    if (xw l3_23) < (xw (s24 121 3)) then
      xbd (F_X11_hears l1_21 l3_23 s24) fun r27 s28 =>
      xgd (0 ≤ (16 + l3_23) ∧ (16 + l3_23) < 40) <|
      xls (xu s28 l1_21 (16 + l3_23) r27) fun s30 =>
      F_X11_dayGoes_49 l1_21 f (l3_23 + 1) s30 k
    else
      k l3_23 s24
def F_X11_dayGoes (a1 : Int) (s0 : xW) : Option (xW) :=
  xgd (a1 ∈ xNows) <|
  xjn (fun (s1 : xW) =>
    xls (xu s1 a1 39 ((s1 a1 39) + 1)) fun s5 =>
    some s5
  ) fun j2 =>
  if 0 < (xw (s0 a1 36)) then
    xbd (F_X11_clashesOn a1 s0) fun r13 s14 =>
    xls (xu s14 a1 36 ((s14 a1 36) - 1)) fun s15 =>
    xls (xu s15 a1 37 (min 9999 (xw ((s15 a1 37) + r13)))) fun s17 =>
    xls (xu s17 121 30 ((s17 121 30) + r13)) fun s19 =>
    F_X11_dayGoes_49 a1 xN 0 s19 fun (l3_34 : Int) (s35 : xW) =>
    j2 s35
  else
    xls (xu s0 a1 38 (min 999 (xw ((s0 a1 38) + 1)))) fun s8 =>
    xls (xu s8 121 31 ((s8 121 31) + 1)) fun s10 =>
    j2 s10
def F_X11_goesOn_12 (l1_5 : Int) (l2_7 : Int) : Nat → Int → xW → (Int → xW → Option (xW)) → Option (xW)
  | 0, _, _, _ => none
  | f + 1, l3_8, s9, k =>
    if (xw l3_8) < (xw l2_7) then
      xbp (F_X11_dayGoes l1_5 s9) fun s12 =>
      F_X11_goesOn_12 l1_5 l2_7 f (l3_8 + 1) s12 k
    else
      k l3_8 s9
def F_X11_goesOn (a1 : Int) (a2 : Int) (s0 : xW) : Option (xW) :=
  xgd (a1 ∈ xNows) <|
  xls (xu s0 121 30 0) fun s1 =>
  xls (xu s1 121 31 0) fun s3 =>
  F_X11_goesOn_12 a1 a2 xN 0 s3 fun (l3_15 : Int) (s16 : xW) =>
  some s16
def F_X11_days (a1 : Int) (s0 : xW) : Option (Int × xW) :=
  xls (xu s0 121 0 0) fun s1 =>
  xbp (F_X11_in (xw a1) 0 60 s1) fun r4 =>
  if (xw r4) = 0 then
    some (-1, s1)
  else
    xbp (F_X11_putsBy  s1) fun s7 =>
    xbp (F_X11_goesOn 127 a1 s7) fun s9 =>
    xls (xu s9 121 1 0) fun s10 =>
    xbp (F_X11_enters (xw (s10 121 30)) s10) fun s13 =>
    xbp (F_X11_enters (xw (s13 121 31)) s13) fun s15 =>
    xbd (F_X11_adds (s15 127 36) s15) fun r17 s18 =>
    some (r17, s18)
def F_X11_isDeed (a1 : Int) (s0 : xW) : Option (Int) :=
  xbp (F_X11_in (xw a1) 0 (xw ((s0 121 4) - 1)) s0) fun r2 =>
  xgd (r2 = 0 ∨ r2 = 1) <|
  some r2
def F_X11_refuse (s0 : xW) : Option (Int × xW) :=
  xls (xu s0 121 0 1) fun s1 =>
  some (0, s1)
def F_X11_deed (a1 : Int) (a2 : Int) (s0 : xW) : Option (Int × xW) :=
  xls (xu s0 121 0 0) fun s1 =>
  xbp (F_X11_isDeed a1 s1) fun r4 =>
  xjn (
    xbd (F_X11_refuse  s1) fun r9 s10 =>
    some (r9, s10)
  ) fun j5 =>
  if (xw r4) ≠ 0 then
    xbp (F_X11_in (xw a2) 0 4 s1) fun r13 =>
    if (xw r13) = 0 then
      j5 
    else
      xbp (F_X11_laysBegins 127 s1) fun s16 =>
      if (xw a2) = 0 then
        xgd (0 ≤ a1 ∧ a1 < 8) <|
        some ((s16 125 a1), s16)
      else
      if (xw a2) = 1 then
        xgd (0 ≤ (24 + a1) ∧ (24 + a1) < 40) <|
        some ((s16 127 (24 + a1)), s16)
      else
      if (xw a2) = 2 then
        xgd (0 ≤ a1 ∧ a1 < 8) <|
        some ((s16 126 a1), s16)
      else
      if (xw a2) = 3 then
        xgd (0 ≤ a1 ∧ a1 < 8) <|
        some ((s16 135 a1), s16)
      else
      xbp (F_X11_clashing 127 a1 s16) fun r26 =>
      some (r26, s16)
  else
    j5 
def F_X11_readsHouse (s0 : xW) : Option (Int × xW) :=
  if (xw ((s0 121 3) + (s0 121 20))) = 8 then
    some (0, s0)
  else
    xbd (F_X11_number 1 s0) fun r3 s4 =>
    xgd (0 ≤ (2 * (s0 121 20)) ∧ (2 * (s0 121 20)) < 24) <|
    xls (xu s4 130 (2 * (s0 121 20)) r3) fun s6 =>
    xgd (0 ≤ (2 * (s0 121 20)) ∧ (2 * (s0 121 20)) < 24) <|
    xjn (fun (t9 : Int) (s10 : xW) =>
      xgd (0 ≤ ((2 * (s0 121 20)) + 1) ∧ ((2 * (s0 121 20)) + 1) < 24) <|
      xls (xu s10 130 ((2 * (s0 121 20)) + 1) t9) fun s15 =>
      xls (xu s15 121 20 ((s15 121 20) + 1)) fun s17 =>
      xgd (0 ≤ ((2 * (s0 121 20)) + 1) ∧ ((2 * (s0 121 20)) + 1) < 24) <|
      xli (if 0 ≤ (xw (s17 130 ((2 * (s0 121 20)) + 1))) then 1 else 0) fun v21 =>
      xgd (v21 = 0 ∨ v21 = 1) <|
      some (v21, s17)
    ) fun j11 =>
    if (xw (s6 130 (2 * (s0 121 20)))) < 0 then
      j11 (-1) s6
    else
      xbd (F_X11_number 1 s6) fun r27 s28 =>
      j11 r27 s28
def F_X11_digitIn (a1 : Int) (a2 : Int) (s0 : xW) : Option (Int × xW) :=
  xjn (
    some (-1, s0)
  ) fun j1 =>
  if (xw (s0 121 16)) < (xw (s0 121 17)) then
    xgd (0 ≤ (s0 121 16) ∧ (s0 121 16) < 80) <|
    xbp (F_X11_in (xw ((s0 129 (s0 121 16)) - 48)) (xw a1) (xw a2) s0) fun r7 =>
    if (xw r7) = 0 then
      j1 
    else
      xls (xu s0 121 16 ((s0 121 16) + 1)) fun s9 =>
      xgd (0 ≤ ((s9 121 16) - 1) ∧ ((s9 121 16) - 1) < 80) <|
      some (((s9 129 ((s9 121 16) - 1)) - 48), s9)
  else
    j1 
def F_X11_takesOf_2 (l1_1 : List Int) : Nat → Int → xW → (Int → xW → Option (Int × xW)) → Option (Int × xW)
  | 0, _, _, _ => none
  | f + 1, l2_2, s3, k =>
    if (xw l2_2) < (xw (l1_1.length : Int)) then
      if (xw (s3 121 16)) < (xw (s3 121 17)) then
        xgd (0 ≤ l2_2 ∧ l2_2 < (l1_1.length : Int)) <|
        xgd (0 ≤ (s3 121 16) ∧ (s3 121 16) < 80) <|
        if (xw (xch l1_1 l2_2)) = (xw (s3 129 (s3 121 16))) then
          xls (xu s3 121 16 ((s3 121 16) + 1)) fun s9 =>
          some (l2_2, s9)
        else
          F_X11_takesOf_2 l1_1 f (l2_2 + 1) s3 k
      else
        k l2_2 s3
    else
      k l2_2 s3
def F_X11_takesOf (w : List Int) (s0 : xW) : Option (Int × xW) :=
  F_X11_takesOf_2 w xN 0 s0 fun (l2_13 : Int) (s14 : xW) =>
  some (-1, s14)
def F_X11_readsDeed_96 (l1_25 : Int) : Nat → Int → Int → xW → (Int → Int → xW → Option (Int × xW)) → Option (Int × xW)
  | 0, _, _, _, _ => none
  | f + 1, l2_26, l3_27, s28, k =>
    if (xw l3_27) ≠ 0 then
      xgd (0 ≤ (l2_26 + 1) ∧ (l2_26 + 1) ≤ (([97, 98, 99, 100] : List Int).length : Int)) <|
      xbd (F_X11_takesOf (([97, 98, 99, 100] : List Int).drop (l2_26 + 1).toNat) s28) fun r32 s33 =>
      xli (if 0 ≤ (xw r32) then 1 else 0) fun v35 =>
      xli (if (xw v35) ≠ 0 then ((l2_26 + 1) + r32) else l2_26) fun v39 =>
      xgd (0 ≤ (l1_25 + 2) ∧ (l1_25 + 2) < 24) <|
      xli (if (xw v35) ≠ 0 then (xshl 1 v39) else 0) fun v44 =>
      xgd (0 ≤ (l1_25 + 2) ∧ (l1_25 + 2) < 24) <|
      xls (xu s33 130 (l1_25 + 2) (xor' (s33 130 (l1_25 + 2)) v44)) fun s48 =>
      F_X11_readsDeed_96 l1_25 f v39 v35 s48 k
    else
      k l2_26 l3_27 s28
def F_X11_readsDeed (s0 : xW) : Option (Int × xW) :=
  if (xw ((s0 121 4) + (s0 121 20))) = 8 then
    some (0, s0)
  else
    xbd (F_X11_digitIn 0 ((s0 121 3) - 1) s0) fun r3 s4 =>
    xgd (0 ≤ (3 * (s0 121 20)) ∧ (3 * (s0 121 20)) < 24) <|
    xls (xu s4 130 (3 * (s0 121 20)) r3) fun s6 =>
    xgd (0 ≤ (3 * (s0 121 20)) ∧ (3 * (s0 121 20)) < 24) <|
    xjn (fun (t9 : Int) (s10 : xW) =>
      xgd (0 ≤ ((3 * (s0 121 20)) + 1) ∧ ((3 * (s0 121 20)) + 1) < 24) <|
      xls (xu s10 130 ((3 * (s0 121 20)) + 1) t9) fun s15 =>
      xgd (0 ≤ ((3 * (s0 121 20)) + 2) ∧ ((3 * (s0 121 20)) + 2) < 24) <|
      xls (xu s15 130 ((3 * (s0 121 20)) + 2) 0) fun s18 =>
      xgd (0 ≤ ((3 * (s0 121 20)) + 1) ∧ ((3 * (s0 121 20)) + 1) < 24) <|
      xli (if 0 < (xw (s18 130 ((3 * (s0 121 20)) + 1))) then 1 else 0) fun v22 =>
      F_X11_readsDeed_96 (3 * (s0 121 20)) xN (-1) v22 s18 fun (l2_53 : Int) (l3_54 : Int) (s55 : xW) =>
      xls (xu s55 121 20 ((s55 121 20) + 1)) fun s56 =>
      xgd (0 ≤ ((3 * (s0 121 20)) + 2) ∧ ((3 * (s0 121 20)) + 2) < 24) <|
      xli (if 0 < (xw (s56 130 ((3 * (s0 121 20)) + 2))) then 1 else 0) fun v60 =>
      xgd (v60 = 0 ∨ v60 = 1) <|
      some (v60, s56)
    ) fun j11 =>
    if (xw (s6 130 (3 * (s0 121 20)))) < 0 then
      j11 (-1) s6
    else
      xbd (F_X11_digitIn 1 9 s6) fun r66 s67 =>
      j11 r66 s67
def F_X11_takesSign (a1 : Int) (s0 : xW) : Option (Int × xW) :=
  xjn (fun (t1 : Int) =>
    xbp (F_X11_flag t1 s0) fun r6 =>
    xls (xu s0 121 16 ((s0 121 16) + r6)) fun s7 =>
    xgd (t1 = 0 ∨ t1 = 1) <|
    some (t1, s7)
  ) fun j2 =>
  xjn (
    j2 0
  ) fun j10 =>
  if (xw (s0 121 16)) < (xw (s0 121 17)) then
    xgd (0 ≤ (s0 121 16) ∧ (s0 121 16) < 80) <|
    if (xw (s0 129 (s0 121 16))) = (xw a1) then
      j2 1
    else
      j10 
  else
    j10 
def F_X11_faultOf (a1 : Int) (a2 : Int) (a3 : Int) (s0 : xW) : Option (Int) :=
  xli (if (xw a3) ≠ 0 then if (xw (s0 121 16)) = (xw (s0 121 17)) then 1 else 0 else 0) fun v3 =>
  xjn (
    xli (if (xw v3) ≠ 0 then 0 else ((-1) - (s0 121 16))) fun v10 =>
    some v10
  ) fun j6 =>
  if (xw a2) < (xw a1) then
    xjn (
      some ((-1) - a2)
    ) fun j14 =>
    if (xw v3) = 0 then
      if (xw a2) ≤ (xw (s0 121 16)) then
        j14 
      else
        j6 
    else
      j14 
  else
    j6 
def F_X11_readsLines_25 (l1_10 : Int) (l2_11 : Int) (l3_12 : Int) : Nat → Int → Int → xW → (Int → Int → xW → Option (Int × xW)) → Option (Int × xW)
  | 0, _, _, _, _ => none
  | f + 1, l4_13, l5_14, s15, k =>
    if (xw l5_14) ≠ 0 then
      xjn (fun (t17 : Int) (s18 : xW) =>
        xjn (fun (t22 : Int) (s23 : xW) =>
          F_X11_readsLines_25 l1_10 l2_11 l3_12 f t17 t22 s23 k
        ) fun j24 =>
        xjn (fun (s27 : xW) =>
          j24 0 s27
        ) fun j28 =>
        if (xw t17) ≠ 0 then
          xbd (F_X11_takesSign 59 s18) fun r33 s34 =>
          if (xw r33) ≠ 0 then
            j24 1 s34
          else
            j28 s34
        else
          j28 s18
      ) fun j19 =>
      if (xw l1_10) ≠ 0 then
        xbd (F_X11_readsHouse  s15) fun r41 s42 =>
        j19 r41 s42
      else
        xbd (F_X11_readsDeed  s15) fun r38 s39 =>
        j19 r38 s39
    else
      k l4_13 l5_14 s15
def F_X11_readsLines (a1 : Int) (a2 : Int) (s0 : xW) : Option (Int × xW) :=
  xbd (F_X11_begins a2 s0) fun r2 s3 =>
  xls (xu s3 121 20 0) fun s4 =>
  xli (if 0 < (xw r2) then 1 else 0) fun v7 =>
  F_X11_readsLines_25 a1 a2 r2 xN 1 v7 s4 fun (l4_46 : Int) (l5_47 : Int) (s48 : xW) =>
  xbp (F_X11_faultOf r2 a2 l4_46 s48) fun r50 =>
  some (r50, s48)
def F_X11_isNew (s0 : xW) : Option (Int × xW) :=
  xli (if 0 < (xw (s0 121 20)) then 0 else (s0 121 28)) fun v2 =>
  xls (xu s0 121 28 v2) fun s5 =>
  xli (if 0 < (xw (s5 121 20)) then 1 else 0) fun v8 =>
  xbp (F_X11_flag v8 s5) fun r12 =>
  xls (xu s5 121 5 ((s5 121 5) + r12)) fun s13 =>
  some ((s13 121 20), s13)
def F_X11_deeds_21 : Nat → Int → xW → (Int → xW → Option (Int × xW)) → Option (Int × xW)
  | 0, _, _, _ => none
  | f + 1, l2_7, s8, k =>
    if (xw l2_7) < (xw (s8 121 20)) then
      xgd (0 ≤ (3 * l2_7) ∧ (3 * l2_7) < 24) <|
      xgd (0 ≤ (s8 121 4) ∧ (s8 121 4) < 8) <|
      xls (xu s8 125 (s8 121 4) (s8 130 (3 * l2_7))) fun s12 =>
      xgd (0 ≤ ((3 * l2_7) + 1) ∧ ((3 * l2_7) + 1) < 24) <|
      xgd (0 ≤ (24 + (s12 121 4)) ∧ (24 + (s12 121 4)) < 40) <|
      xls (xu s12 127 (24 + (s12 121 4)) (s12 130 ((3 * l2_7) + 1))) fun s16 =>
      xgd (0 ≤ ((3 * l2_7) + 2) ∧ ((3 * l2_7) + 2) < 24) <|
      xgd (0 ≤ (s16 121 4) ∧ (s16 121 4) < 8) <|
      xls (xu s16 126 (s16 121 4) (s16 130 ((3 * l2_7) + 2))) fun s20 =>
      xls (xu s20 121 4 ((s20 121 4) + 1)) fun s22 =>
      F_X11_deeds_21  f (l2_7 + 1) s22 k
    else
      k l2_7 s8
def F_X11_deeds (s0 : xW) : Option (Int × xW) :=
  xls (xu s0 121 0 0) fun s1 =>
  xbd (F_X11_readsLines 0 55 s1) fun r4 s5 =>
  if (xw r4) < 0 then
    some (r4, s5)
  else
    F_X11_deeds_21  xN 0 s5 fun (l2_26 : Int) (s27 : xW) =>
    xbd (F_X11_isNew  s27) fun r29 s30 =>
    some (r29, s30)
def F_X11_isPlace (a0 : Int) (a1 : Int) (s0 : xW) : Option (Int) :=
  xbp (F_X11_in (xw a0) 0 9 s0) fun r2 =>
  xjn (fun (t3 : Int) =>
    xgd (t3 = 0 ∨ t3 = 1) <|
    some t3
  ) fun j4 =>
  xjn (
    j4 0
  ) fun j8 =>
  if (xw r2) ≠ 0 then
    xbp (F_X11_in (xw a1) 0 9 s0) fun r13 =>
    if (xw r13) ≠ 0 then
      j4 1
    else
      j8 
  else
    j8 
def F_X11_puts (a0 : Int) (a1 : Int) (a2 : Int) (a3 : Int) (a4 : Int) (s0 : xW) : Option (Int × xW) :=
  xgd (a0 ∈ xNows) <|
  xgd (0 ≤ a1 ∧ a1 < 40) <|
  xgd (0 ≤ a2 ∧ a2 < 40) <|
  xbp (F_X11_far (s0 a0 a1) (s0 a0 a2) a3 a4 s0) fun r4 =>
  xgd (0 ≤ a1 ∧ a1 < 40) <|
  xls (xu s0 a0 a1 a3) fun s6 =>
  xgd (0 ≤ a2 ∧ a2 < 40) <|
  xls (xu s6 a0 a2 a4) fun s9 =>
  some (r4, s9)
def F_X11_haulsTo (a0 : Int) (a1 : Int) (a2 : Int) (s0 : xW) : Option (Int × xW) :=
  xgd (a0 ∈ xNows) <|
  xbp (F_X11_isPlace a1 a2 s0) fun r2 =>
  xjn (fun (t3 : Int) (s4 : xW) =>
    xli (if (xw t3) = 0 then -2 else t3) fun v9 =>
    some (v9, s4)
  ) fun j5 =>
  if (xw r2) ≠ 0 then
    xbd (F_X11_puts a0 32 33 a1 a2 s0) fun r14 s15 =>
    j5 r14 s15
  else
    j5 (-1) s0
def F_X11_takesSome (a1 : Int) (a2 : Int) (s0 : xW) : Option (Int × xW) :=
  xbp (F_X11_isDeed a1 s0) fun r2 =>
  xjn (
    some (-1, s0)
  ) fun j3 =>
  if (xw r2) ≠ 0 then
    xbp (F_X11_in (xw a2) 1 9 s0) fun r8 =>
    if (xw r8) = 0 then
      j3 
    else
      xgd (0 ≤ (24 + a1) ∧ (24 + a1) < 40) <|
      xgd (0 ≤ (24 + a1) ∧ (24 + a1) < 40) <|
      xls (xu s0 127 (24 + a1) a2) fun s12 =>
      xli (if (xw (s0 127 (24 + a1))) = (xw a2) then -2 else (s0 127 (24 + a1))) fun v15 =>
      some (v15, s12)
  else
    j3 
def F_X11_isHouse (a1 : Int) (s0 : xW) : Option (Int) :=
  xbp (F_X11_in (xw a1) 0 (xw ((s0 121 3) - 1)) s0) fun r2 =>
  xgd (r2 = 0 ∨ r2 = 1) <|
  some r2
def F_X11_movesTo (a1 : Int) (a2 : Int) (a3 : Int) (a4 : Int) (s0 : xW) : Option (Int × xW) :=
  xgd (a1 ∈ xNows) <|
  xbp (F_X11_isHouse a2 s0) fun r2 =>
  xjn (fun (t3 : Int) (s4 : xW) =>
    xli (if (xw t3) = 0 then -2 else t3) fun v9 =>
    some (v9, s4)
  ) fun j5 =>
  xjn (
    j5 (-1) s0
  ) fun j12 =>
  if (xw r2) ≠ 0 then
    xbp (F_X11_isPlace a3 a4 s0) fun r17 =>
    if (xw r17) ≠ 0 then
      xbd (F_X11_puts a1 a2 (8 + a2) a3 a4 s0) fun r20 s21 =>
      j5 r20 s21
    else
      j12 
  else
    j12 
def F_X11_does_46 (l2_4 : Int) : Nat → Int → xW → (Int → xW → Option (Int × xW)) → Option (Int × xW)
  | 0, _, _, _ => none
  | f + 1, l3_5, s6, k =>
    if (xw l3_5) < (xw l2_4) then
      xbp (F_X11_dayGoes 127 s6) fun s9 =>
      F_X11_does_46 l2_4 f (l3_5 + 1) s9 k
    else
      k l3_5 s6
def F_X11_does (a1 : Int) (s0 : xW) : Option (Int × xW) :=
  xgd (0 ≤ a1 ∧ a1 < 60) <|
  xgd (0 ≤ a1 ∧ a1 < 60) <|
  if (xw (s0 137 a1)) = 0 then
    F_X11_does_46 (s0 138 a1) xN 0 s0 fun (l3_12 : Int) (s13 : xW) =>
    some (1, s13)
  else
  if (xw (s0 137 a1)) = 1 then
    xbd (F_X11_buysSome (s0 138 a1) s0) fun r16 s17 =>
    xli (if 0 ≤ (xw r16) then 1 else 0) fun v19 =>
    xgd (v19 = 0 ∨ v19 = 1) <|
    some (v19, s17)
  else
  if (xw (s0 137 a1)) = 2 then
    xgd (0 ≤ a1 ∧ a1 < 60) <|
    xbd (F_X11_haulsTo 127 (s0 138 a1) (s0 139 a1) s0) fun r26 s27 =>
    xli (if 0 ≤ (xw r26) then 1 else 0) fun v29 =>
    xgd (v29 = 0 ∨ v29 = 1) <|
    some (v29, s27)
  else
  if (xw (s0 137 a1)) = 3 then
    xgd (0 ≤ a1 ∧ a1 < 60) <|
    xbd (F_X11_takesSome (s0 138 a1) (s0 139 a1) s0) fun r36 s37 =>
    xli (if 0 ≤ (xw r36) then 1 else 0) fun v39 =>
    xgd (v39 = 0 ∨ v39 = 1) <|
    some (v39, s37)
  else
  xgd (0 ≤ a1 ∧ a1 < 60) <|
  xgd (0 ≤ a1 ∧ a1 < 60) <|
  xbd (F_X11_movesTo 127 (s0 138 a1) (s0 139 a1) (s0 140 a1) s0) fun r46 s47 =>
  xli (if 0 ≤ (xw r46) then 1 else 0) fun v49 =>
  xgd (v49 = 0 ∨ v49 = 1) <|
  some (v49, s47)
def F_X11_draws (a1 : Int) (s0 : xW) : Option (Int × xW) :=
  xls (xu s0 121 48 (((s0 121 48) * 1103515245) + 12345)) fun s1 =>
  xgd ((xw a1) ≠ 0) <|
  some ((Int.tmod (xw (xushr (s1 121 48) 16)) (xw a1)), s1)
def F_X11_echoes (a1 : Int) (a2 : Int) (s0 : xW) : Option (Int × xW) :=
  xgd (a1 ∈ xNows) <|
  xbp (F_X11_dampOn (s0 a1 39) s0) fun r2 =>
  xbp (F_X11_windOn (s0 a1 39) s0) fun r4 =>
  xbd (F_X11_hearsBy a1 a2 1 r2 r4 s0) fun r6 s7 =>
  some (r6, s7)
def F_X11_echo_30 (l1_9 : Int) (l2_10 : Int) : Nat → Int → Int → xW → (Int → Int → xW → Option (Int × xW)) → Option (Int × xW)
  | 0, _, _, _, _ => none
  | f + 1, l3_11, l4_12, s13, k =>
    if (xw l4_12) < (xw (s13 121 3)) then
      xbd (F_X11_hears 127 l4_12 s13) fun r16 s17 =>
      xli (if (xw l2_10) < (xw r16) then (xshl 1 l4_12) else 0) fun v19 =>
      F_X11_echo_30 l1_9 l2_10 f (xor' l3_11 v19) (l4_12 + 1) s17 k
    else
      k l3_11 l4_12 s13
def F_X11_echo (a1 : Int) (s0 : xW) : Option (Int × xW) :=
  xls (xu s0 121 0 0) fun s1 =>
  xbp (F_X11_isHouse a1 s1) fun r4 =>
  if (xw r4) = 0 then
    some (-1, s1)
  else
    xbd (F_X11_echoes 127 a1 s1) fun r7 s8 =>
    F_X11_echo_30 a1 r7 xN 0 0 s8 fun (l3_25 : Int) (l4_26 : Int) (s27 : xW) =>
    xls (xu s27 121 1 0) fun s28 =>
    xbp (F_X11_enters (xw l3_25) s28) fun s31 =>
    xbd (F_X11_hears 127 a1 s31) fun r33 s34 =>
    some (((100 + r7) - r33), s34)
def F_X11_end (a1 : Int) (s0 : xW) : Option (Int × xW) :=
  xls (xu s0 121 0 0) fun s1 =>
  xbp (F_X11_in (xw a1) 0 (xw (s1 121 15)) s1) fun r4 =>
  if (xw r4) = 0 then
    some (0, s1)
  else
    xls (xu s1 121 15 a1) fun s6 =>
    some (1, s6)
def F_X11_laysFoes_10 : Nat → Int → xW → (Int → xW → Option (xW)) → Option (xW)
  | 0, _, _, _ => none
  | f + 1, l1_3, s4, k =>
    if (xw l1_3) < (xw (s4 121 4)) then
      xbp (F_X11_clashing 127 l1_3 s4) fun r7 =>
      xgd (0 ≤ l1_3 ∧ l1_3 < 8) <|
      xls (xu s4 143 l1_3 r7) fun s9 =>
      F_X11_laysFoes_10  f (l1_3 + 1) s9 k
    else
      k l1_3 s4
def F_X11_laysFoes (s0 : xW) : Option (xW) :=
  xbp (F_X11_laysBegins 127 s0) fun s2 =>
  F_X11_laysFoes_10  xN 0 s2 fun (l1_13 : Int) (s14 : xW) =>
  some s14
def F_X11_isFewer (a0 : Int) (a1 : Int) (s0 : xW) : Option (Int) :=
  xjn (fun (t1 : Int) =>
    xgd (t1 = 0 ∨ t1 = 1) <|
    some t1
  ) fun j2 =>
  xjn (
    j2 1
  ) fun j6 =>
  if 0 ≤ (xw a1) then
    if (xw (xbc a0)) < (xw (xbc a1)) then
      j6 
    else
      j2 0
  else
    j6 
def F_X11_has (a0 : Int) (a2 : Int) (s0 : xW) : Option (Int) :=
  if (xwl (xland (xlshr a0 a2) 1)) = 1 then
    some 1
  else
    some 0
def F_X11_isPeace_4 (l1_1 : Int) (s4 : xW) : Nat → Int → Int → (Int → Int → Option (Int)) → Option (Int)
  | 0, _, _, _ => none
  | f + 1, l2_2, l3_3, k =>
    if (xw l3_3) < (xw (s4 121 4)) then
      xjn (fun (t6 : Int) =>
        F_X11_isPeace_4 l1_1 s4 f t6 (l3_3 + 1) k
      ) fun j7 =>
      xjn (
        j7 0
      ) fun j10 =>
      if (xw l2_2) ≠ 0 then
        xbp (F_X11_has (xw l1_1) l3_3 s4) fun r15 =>
        xjn (
          j7 1
        ) fun j16 =>
        if (xw r15) ≠ 0 then
          xgd (0 ≤ l3_3 ∧ l3_3 < 8) <|
          if (xw (xand (s4 143 l3_3) l1_1)) = 0 then
            j16 
          else
            j10 
        else
          j16 
      else
        j10 
    else
      k l2_2 l3_3
def F_X11_isPeace (a1 : Int) (s0 : xW) : Option (Int) :=
  F_X11_isPeace_4 a1 s0 xN 1 0 fun (l2_24 : Int) (l3_25 : Int) =>
  xgd (l2_24 = 0 ∨ l2_24 = 1) <|
  some l2_24
def F_X11_fewest_22 (l1_5 : Int) (s8 : xW) : Nat → Int → Int → (Int → Int → Option (Int × xW)) → Option (Int × xW)
  | 0, _, _, _ => none
  | f + 1, l2_6, l3_7, k =>
    if (xw l3_7) ≤ (xw l1_5) then
      xbp (F_X11_isFewer l3_7 l2_6 s8) fun r11 =>
      xjn (fun (t12 : Int) =>
        F_X11_fewest_22 l1_5 s8 f t12 (l3_7 + 1) k
      ) fun j13 =>
      xjn (
        j13 l2_6
      ) fun j16 =>
      if (xw r11) ≠ 0 then
        xbp (F_X11_isPeace (xand l1_5 (xxor l3_7 (-1))) s8) fun r21 =>
        if (xw r21) ≠ 0 then
          j13 l3_7
        else
          j16 
      else
        j16 
    else
      k l2_6 l3_7
def F_X11_fewest (s0 : xW) : Option (Int × xW) :=
  xls (xu s0 121 0 0) fun s1 =>
  xbp (F_X11_laysFoes  s1) fun s4 =>
  F_X11_fewest_22 ((xshl 1 (s4 121 4)) - 1) s4 xN (-1) 0 fun (l2_25 : Int) (l3_26 : Int) =>
  xls (xu s4 121 1 0) fun s27 =>
  xbp (F_X11_enters (xw l2_25) s27) fun s30 =>
  some ((xbc l2_25), s30)
def F_X11_fits_14 : Nat → Int → Int → xW → (Int → Int → xW → Option (Int × xW)) → Option (Int × xW)
  | 0, _, _, _, _ => none
  | f + 1, l1_5, l2_6, s7, k =>
    if (xw l2_6) < 100 then
      xbd (F_X11_isSo l2_6 s7) fun r10 s11 =>
      xjn (fun (s12 : xW) =>
        xbp (F_X11_flag r10 s12) fun r17 =>
        F_X11_fits_14  f (l1_5 + r17) (l2_6 + 1) s12 k
      ) fun j13 =>
      if (xw r10) ≠ 0 then
        if (xw l1_5) = 0 then
          xbp (F_X11_enters (xw (Int.tdiv (xw l2_6) 10)) s11) fun s21 =>
          xbp (F_X11_enters (xw (Int.tmod (xw l2_6) 10)) s21) fun s23 =>
          j13 s23
        else
          j13 s11
      else
        j13 s11
    else
      k l1_5 l2_6 s7
def F_X11_fits (s0 : xW) : Option (Int × xW) :=
  xls (xu s0 121 0 0) fun s1 =>
  xls (xu s1 121 1 0) fun s3 =>
  F_X11_fits_14  xN 0 0 s3 fun (l1_27 : Int) (l2_28 : Int) (s29 : xW) =>
  some (l1_27, s29)
def F_X11_forget (s0 : xW) : Option (Int × xW) :=
  xls (xu s0 121 0 0) fun s1 =>
  xls (xu s1 121 42 0) fun s3 =>
  some ((s1 121 42), s3)
def F_X11_place (a0 : Int) (a1 : Int) (s0 : xW) : Option (Int) :=
  some ((21 * a0) + a1)
def F_X11_isGood (a1 : Int) (a2 : Int) (a3 : Int) (a4 : Int) (s0 : xW) : Option (Int) :=
  xli (if 0 < (xw (a3 + a4)) then if (xw a3) ≠ 0 then if (xw a4) ≠ 0 then if (xw a3) = 1 then if (xw a4) = 1 then 1 else 0 else 0 else 1 else 1 else 0) fun v6 =>
  xjn (fun (t9 : Int) =>
    xgd (t9 = 0 ∨ t9 = 1) <|
    some t9
  ) fun j10 =>
  xjn (
    j10 0
  ) fun j14 =>
  if (xw v6) ≠ 0 then
    if (xw a3) ≤ (xw a1) then
      if (xw a4) ≤ (xw a2) then
        xbp (F_X11_place (a1 - a3) (a2 - a4) s0) fun r21 =>
        xgd (0 ≤ r21 ∧ r21 < 441) <|
        if (xw (s0 149 r21)) = 0 then
          j10 1
        else
          j14 
      else
        j14 
    else
      j14 
  else
    j14 
def F_X11_forts_82 (l1_36 : Int) (l2_37 : Int) (l3_38 : Int) (l4_39 : Int) (l6_41 : Int) (s43 : xW) : Nat → Int → Int → (Int → Int → Option (Int × xW)) → Option (Int × xW)
  | 0, _, _, _ => none
  | f + 1, l5_40, l7_42, k =>
    if (xw l7_42) ≤ (xw l4_39) then
      xjn (fun (t45 : Int) =>
        F_X11_forts_82 l1_36 l2_37 l3_38 l4_39 l6_41 s43 f t45 (l7_42 + 1) k
      ) fun j46 =>
      xjn (
        j46 1
      ) fun j49 =>
      if (xw l5_40) = 0 then
        xbp (F_X11_isGood l3_38 l4_39 l6_41 l7_42 s43) fun r54 =>
        if (xw r54) ≠ 0 then
          j49 
        else
          j46 0
      else
        j49 
    else
      k l5_40 l7_42
def F_X11_forts_73 (l1_28 : Int) (l2_29 : Int) (l3_30 : Int) (l4_31 : Int) (s34 : xW) : Nat → Int → Int → (Int → Int → Option (Int × xW)) → Option (Int × xW)
  | 0, _, _, _ => none
  | f + 1, l5_32, l6_33, k =>
    if (xw l6_33) ≤ (xw l3_30) then
      F_X11_forts_82 l1_28 l2_29 l3_30 l4_31 l6_33 s34 xN l5_32 0 fun (l5_58 : Int) (l7_59 : Int) =>
      F_X11_forts_73 l1_28 l2_29 l3_30 l4_31 s34 f l5_58 (l6_33 + 1) k
    else
      k l5_32 l6_33
def F_X11_forts_50 (l1_18 : Int) (l2_19 : Int) (l3_20 : Int) : Nat → Int → xW → (Int → xW → Option (Int × xW)) → Option (Int × xW)
  | 0, _, _, _ => none
  | f + 1, l4_21, s22, k =>
    if (xw l4_21) ≤ (xw l2_19) then
      xli (if (xw (l3_20 + l4_21)) = 0 then 1 else 0) fun v25 =>
      F_X11_forts_73 l1_18 l2_19 l3_20 l4_21 s22 xN v25 0 fun (l5_62 : Int) (l6_63 : Int) =>
      xbp (F_X11_place l3_20 l4_21 s22) fun r65 =>
      xgd (0 ≤ r65 ∧ r65 < 441) <|
      xgd (l5_62 = 0 ∨ l5_62 = 1) <|
      xls (xu s22 149 r65 l5_62) fun s68 =>
      F_X11_forts_50 l1_18 l2_19 l3_20 f (l4_21 + 1) s68 k
    else
      k l4_21 s22
def F_X11_forts_42 (l1_13 : Int) (l2_14 : Int) : Nat → Int → xW → (Int → xW → Option (Int × xW)) → Option (Int × xW)
  | 0, _, _, _ => none
  | f + 1, l3_15, s16, k =>
    if (xw l3_15) ≤ (xw l1_13) then
      F_X11_forts_50 l1_13 l2_14 l3_15 xN 0 s16 fun (l4_72 : Int) (s73 : xW) =>
      F_X11_forts_42 l1_13 l2_14 f (l3_15 + 1) s73 k
    else
      k l3_15 s16
def F_X11_forts_167 (l1_85 : Int) (l2_86 : Int) (l3_87 : Int) : Nat → Int → xW → (Int → xW → Option (Int × xW)) → Option (Int × xW)
  | 0, _, _, _ => none
  | f + 1, l4_88, s89, k =>
    if (xw l4_88) ≤ (xw l2_86) then
      xjn (fun (s91 : xW) =>
        F_X11_forts_167 l1_85 l2_86 l3_87 f (l4_88 + 1) s91 k
      ) fun j92 =>
      if (xw (s89 121 1)) = 0 then
        xbp (F_X11_isGood l1_85 l2_86 l3_87 l4_88 s89) fun r97 =>
        if (xw r97) ≠ 0 then
          xbp (F_X11_enters (xw l3_87) s89) fun s100 =>
          xbp (F_X11_enters (xw l4_88) s100) fun s102 =>
          j92 s102
        else
          j92 s89
      else
        j92 s89
    else
      k l4_88 s89
def F_X11_forts_159 (l1_80 : Int) (l2_81 : Int) : Nat → Int → xW → (Int → xW → Option (Int × xW)) → Option (Int × xW)
  | 0, _, _, _ => none
  | f + 1, l3_82, s83, k =>
    if (xw l3_82) ≤ (xw l1_80) then
      F_X11_forts_167 l1_80 l2_81 l3_82 xN 0 s83 fun (l4_105 : Int) (s106 : xW) =>
      F_X11_forts_159 l1_80 l2_81 f (l3_82 + 1) s106 k
    else
      k l3_82 s83
def F_X11_forts (a1 : Int) (a2 : Int) (s0 : xW) : Option (Int × xW) :=
  xls (xu s0 121 0 0) fun s1 =>
  xbp (F_X11_in (xw a1) 0 20 s1) fun r4 =>
  xjn (
    some (-1, s1)
  ) fun j5 =>
  if (xw r4) ≠ 0 then
    xbp (F_X11_in (xw a2) 0 20 s1) fun r10 =>
    if (xw r10) = 0 then
      j5 
    else
      if (xw (a1 + a2)) = 0 then
        some (-2, s1)
      else
        F_X11_forts_42 a1 a2 xN 0 s1 fun (l3_76 : Int) (s77 : xW) =>
        xls (xu s77 121 1 0) fun s78 =>
        F_X11_forts_159 a1 a2 xN 0 s78 fun (l3_109 : Int) (s110 : xW) =>
        xli (if 0 < (xw (s110 121 1)) then 1 else 0) fun v112 =>
        xbp (F_X11_flag v112 s110) fun r116 =>
        some (r116, s110)
  else
    j5 
def F_X11_gets (a0 : Int) (a1 : Int) (a2 : Int) (s0 : xW) : Option (Int) :=
  xli (if (xw a0) ≤ (xw a1) then a2 else 0) fun v2 =>
  xli (if (xw a0) < (xw a1) then 1 else 0) fun v6 =>
  xbp (F_X11_flag v6 s0) fun r10 =>
  some ((v2 - a0) - (2 * r10))
def F_X11_laysLine_14 (l1_4 : Int) (s7 : xW) : Nat → Int → Int → (Int → Int → Option (xW)) → Option (xW)
  | 0, _, _, _ => none
  | f + 1, l2_5, l3_6, k =>
    if (xw l3_6) < (xw (s7 121 4)) then
      xgd (0 ≤ l3_6 ∧ l3_6 < 8) <|
      xgd (0 ≤ l1_4 ∧ l1_4 < 8) <|
      xjn (fun (t11 : Int) =>
        xbp (F_X11_flag t11 s7) fun r16 =>
        F_X11_laysLine_14 l1_4 s7 f (l2_5 + r16) (l3_6 + 1) k
      ) fun j12 =>
      xjn (
        j12 1
      ) fun j17 =>
      if (xw (s7 135 l1_4)) ≤ (xw (s7 135 l3_6)) then
        xgd (0 ≤ l3_6 ∧ l3_6 < 8) <|
        xgd (0 ≤ l1_4 ∧ l1_4 < 8) <|
        xjn (
          j12 0
        ) fun j23 =>
        if (xw (s7 135 l3_6)) = (xw (s7 135 l1_4)) then
          if (xw l3_6) < (xw l1_4) then
            j17 
          else
            j23 
        else
          j23 
      else
        j17 
    else
      k l2_5 l3_6
def F_X11_laysLine_2 : Nat → Int → xW → (Int → xW → Option (xW)) → Option (xW)
  | 0, _, _, _ => none
  | f + 1, l1_1, s2, k =>
    if (xw l1_1) < (xw (s2 121 4)) then
      F_X11_laysLine_14 l1_1 s2 xN 0 0 fun (l2_30 : Int) (l3_31 : Int) =>
      xgd (0 ≤ l2_30 ∧ l2_30 < 8) <|
      xls (xu s2 141 l2_30 l1_1) fun s33 =>
      F_X11_laysLine_2  f (l1_1 + 1) s33 k
    else
      k l1_1 s2
def F_X11_laysLine (s0 : xW) : Option (xW) :=
  F_X11_laysLine_2  xN 0 s0 fun (l1_37 : Int) (s38 : xW) =>
  some s38
def F_X11_isFree_5 (l1_1 : Int) (l2_2 : Int) (s5 : xW) : Nat → Int → Int → (Int → Int → Option (Int)) → Option (Int)
  | 0, _, _, _ => none
  | f + 1, l3_3, l4_4, k =>
    if (xw l4_4) < (xw (s5 121 4)) then
      xjn (fun (t7 : Int) =>
        F_X11_isFree_5 l1_1 l2_2 s5 f t7 (l4_4 + 1) k
      ) fun j8 =>
      xjn (
        j8 0
      ) fun j11 =>
      if (xw l3_3) ≠ 0 then
        xbp (F_X11_has (xw l1_1) l4_4 s5) fun r16 =>
        xjn (
          j8 1
        ) fun j17 =>
        if (xw r16) ≠ 0 then
          xbp (F_X11_meet 127 l2_2 l4_4 s5) fun r22 =>
          if (xw r22) = 0 then
            j17 
          else
            j11 
        else
          j17 
      else
        j11 
    else
      k l3_3 l4_4
def F_X11_isFree (a1 : Int) (a2 : Int) (s0 : xW) : Option (Int) :=
  F_X11_isFree_5 a1 a2 s0 xN 1 0 fun (l3_26 : Int) (l4_27 : Int) =>
  xgd (l3_26 = 0 ∨ l3_26 = 1) <|
  some l3_26
def F_X11_hands_21 (l1_7 : Int) : Nat → Int → xW → (Int → xW → Option (Int × xW)) → Option (Int × xW)
  | 0, _, _, _ => none
  | f + 1, l2_8, s9, k =>
    if (xw l2_8) < 8 then
      xgd (0 ≤ l2_8 ∧ l2_8 < 8) <|
      xls (xu s9 144 l2_8 0) fun s12 =>
      F_X11_hands_21 l1_7 f (l2_8 + 1) s12 k
    else
      k l2_8 s9
def F_X11_hands_52 (l1_22 : Int) (l2_23 : Int) (s25 : xW) : Nat → Int → (Int → Option (Int × xW)) → Option (Int × xW)
  | 0, _, _ => none
  | f + 1, l3_24, k =>
    xgd (0 ≤ l3_24 ∧ l3_24 < 8) <|
    xgd (0 ≤ l2_23 ∧ l2_23 < 8) <|
    xbp (F_X11_isFree (s25 144 l3_24) (s25 141 l2_23) s25) fun r29 =>
    if (xw r29) = 0 then
      F_X11_hands_52 l1_22 l2_23 s25 f (l3_24 + 1) k
    else
      k l3_24
def F_X11_hands_42 : Nat → Int → Int → xW → (Int → Int → xW → Option (Int × xW)) → Option (Int × xW)
  | 0, _, _, _, _ => none
  | f + 1, l1_18, l2_19, s20, k =>
    if (xw l2_19) < (xw (s20 121 4)) then
      F_X11_hands_52 l1_18 l2_19 s20 xN 0 fun (l3_32 : Int) =>
      xgd (0 ≤ l3_32 ∧ l3_32 < 8) <|
      xgd (0 ≤ l2_19 ∧ l2_19 < 8) <|
      xgd (0 ≤ l3_32 ∧ l3_32 < 8) <|
      xls (xu s20 144 l3_32 (xor' (s20 144 l3_32) (xshl 1 (s20 141 l2_19)))) fun s36 =>
      xgd (0 ≤ l2_19 ∧ l2_19 < 8) <|
      xgd (0 ≤ (s36 141 l2_19) ∧ (s36 141 l2_19) < 8) <|
      xls (xu s36 145 (s36 141 l2_19) l3_32) fun s40 =>
      F_X11_hands_42  f (max (xw l1_18) (xw (l3_32 + 1))) (l2_19 + 1) s40 k
    else
      k l1_18 l2_19 s20
def F_X11_hands_127 (l1_50 : Int) : Nat → Int → xW → (Int → xW → Option (Int × xW)) → Option (Int × xW)
  | 0, _, _, _ => none
  | f + 1, l2_51, s52, k =>
    if (xw l2_51) < (xw (s52 121 4)) then
      xgd (0 ≤ l2_51 ∧ l2_51 < 8) <|
      xbp (F_X11_enters (xw (s52 145 l2_51)) s52) fun s56 =>
      F_X11_hands_127 l1_50 f (l2_51 + 1) s56 k
    else
      k l2_51 s52
def F_X11_hands (s0 : xW) : Option (Int × xW) :=
  xls (xu s0 121 0 0) fun s1 =>
  xbp (F_X11_laysBegins 127 s1) fun s4 =>
  xbp (F_X11_laysLine  s4) fun s6 =>
  F_X11_hands_21 0 xN 0 s6 fun (l2_16 : Int) (s17 : xW) =>
  F_X11_hands_42  xN 0 0 s17 fun (l1_45 : Int) (l2_46 : Int) (s47 : xW) =>
  xls (xu s47 121 1 0) fun s48 =>
  F_X11_hands_127 l1_45 xN 0 s48 fun (l2_59 : Int) (s60 : xW) =>
  some (l1_45, s60)
def F_X11_hauls (a1 : Int) (a2 : Int) (s0 : xW) : Option (Int × xW) :=
  xls (xu s0 121 0 0) fun s1 =>
  xbp (F_X11_putsBy  s1) fun s4 =>
  xbd (F_X11_haulsTo 127 a1 a2 s4) fun r6 s7 =>
  xbd (F_X11_counted r6 s7) fun r9 s10 =>
  some (r9, s10)
def F_X11_heard (a1 : Int) (a2 : Int) (s0 : xW) : Option (Int × xW) :=
  xls (xu s0 121 0 0) fun s1 =>
  xbp (F_X11_isHouse a1 s1) fun r4 =>
  xjn (
    some (-1, s1)
  ) fun j5 =>
  if (xw r4) ≠ 0 then
    xbp (F_X11_in (xw a2) 0 199 s1) fun r10 =>
    if (xw r10) ≠ 0 then
      if (xw (s1 121 42)) = 10 then
        j5 
      else
        xgd (0 ≤ (s1 121 42) ∧ (s1 121 42) < 10) <|
        xls (xu s1 146 (s1 121 42) a1) fun s14 =>
        xgd (0 ≤ (s14 121 42) ∧ (s14 121 42) < 10) <|
        xls (xu s14 147 (s14 121 42) a2) fun s17 =>
        xls (xu s17 121 42 ((s17 121 42) + 1)) fun s19 =>
        some ((s19 121 42), s19)
    else
      j5 
  else
    j5 
def F_X11_hill (a1 : Int) (a2 : Int) (s0 : xW) : Option (Int × xW) :=
  xls (xu s0 121 0 0) fun s1 =>
  xbp (F_X11_isPlace a1 a2 s1) fun r4 =>
  if (xw r4) = 0 then
    some (-1, s1)
  else
    xbp (F_X11_putsBy  s1) fun s7 =>
    xbd (F_X11_puts 127 34 35 a1 a2 s7) fun r9 s10 =>
    xbd (F_X11_adds r9 s10) fun r12 s13 =>
    some (r12, s13)
def F_X11_holds_25 (l1_8 : Int) : Nat → Int → xW → (Int → xW → Option (Int × xW)) → Option (Int × xW)
  | 0, _, _, _ => none
  | f + 1, l2_9, s10, k =>
    if (xw l2_9) ≤ 9 then
      xbp (F_X11_clashing 127 l1_8 s10) fun r13 =>
      if (xw r13) = 0 then
        xls (xu s10 121 1 0) fun s19 =>
        xgd (0 ≤ l1_8 ∧ l1_8 < 8) <|
        xbp (F_X11_enters (xw (s19 135 l1_8)) s19) fun s23 =>
        some (l2_9, s23)
      else
        xgd (0 ≤ l1_8 ∧ l1_8 < 8) <|
        xgd (0 ≤ l1_8 ∧ l1_8 < 8) <|
        xls (xu s10 135 l1_8 ((s10 135 l1_8) + 1)) fun s17 =>
        F_X11_holds_25 l1_8 f (l2_9 + 1) s17 k
    else
      k l2_9 s10
def F_X11_holds (a1 : Int) (s0 : xW) : Option (Int × xW) :=
  xls (xu s0 121 0 0) fun s1 =>
  xbp (F_X11_isDeed a1 s1) fun r4 =>
  if (xw r4) = 0 then
    some (-1, s1)
  else
    xbp (F_X11_laysBegins 127 s1) fun s7 =>
    F_X11_holds_25 a1 xN 0 s7 fun (l2_26 : Int) (s27 : xW) =>
    some (-2, s27)
def F_X11_house_35 (l1_15 : Int) (l2_16 : Int) (s19 : xW) : Nat → Int → Int → (Int → Int → Option (Int × xW)) → Option (Int × xW)
  | 0, _, _, _ => none
  | f + 1, l3_17, l4_18, k =>
    if (xw l4_18) < (xw (s19 121 4)) then
      xgd (0 ≤ l4_18 ∧ l4_18 < 8) <|
      xli (if (xw (s19 125 l4_18)) = (xw l1_15) then (xshl 1 l4_18) else 0) fun v23 =>
      F_X11_house_35 l1_15 l2_16 s19 f (xor' l3_17 v23) (l4_18 + 1) k
    else
      k l3_17 l4_18
def F_X11_house (a1 : Int) (a2 : Int) (s0 : xW) : Option (Int × xW) :=
  xls (xu s0 121 0 0) fun s1 =>
  xbp (F_X11_isHouse a1 s1) fun r4 =>
  xjn (
    xbd (F_X11_refuse  s1) fun r9 s10 =>
    some (r9, s10)
  ) fun j5 =>
  if (xw r4) ≠ 0 then
    xbp (F_X11_in (xw a2) 0 5 s1) fun r13 =>
    if (xw r13) = 0 then
      j5 
    else
      F_X11_house_35 a1 a2 s1 xN 0 0 fun (l3_28 : Int) (l4_29 : Int) =>
      if (xw a2) = 0 then
        xgd (0 ≤ a1 ∧ a1 < 40) <|
        some ((s1 127 a1), s1)
      else
      if (xw a2) = 1 then
        xgd (0 ≤ (8 + a1) ∧ (8 + a1) < 40) <|
        some ((s1 127 (8 + a1)), s1)
      else
      if (xw a2) = 2 then
        xgd (0 ≤ (16 + a1) ∧ (16 + a1) < 40) <|
        some ((s1 127 (16 + a1)), s1)
      else
      if (xw a2) = 3 then
        xbd (F_X11_hears 127 a1 s1) fun r38 s39 =>
        some (r38, s39)
      else
      if (xw a2) = 4 then
        xbd (F_X11_echoes 127 a1 s1) fun r42 s43 =>
        some (r42, s43)
      else
      some (l3_28, s1)
  else
    j5 
def F_X11_houses_21 : Nat → Int → xW → (Int → xW → Option (Int × xW)) → Option (Int × xW)
  | 0, _, _, _ => none
  | f + 1, l2_7, s8, k =>
    if (xw l2_7) < (xw (s8 121 20)) then
      xgd (0 ≤ (2 * l2_7) ∧ (2 * l2_7) < 24) <|
      xgd (0 ≤ (s8 121 3) ∧ (s8 121 3) < 40) <|
      xls (xu s8 127 (s8 121 3) (s8 130 (2 * l2_7))) fun s12 =>
      xgd (0 ≤ ((2 * l2_7) + 1) ∧ ((2 * l2_7) + 1) < 24) <|
      xgd (0 ≤ (8 + (s12 121 3)) ∧ (8 + (s12 121 3)) < 40) <|
      xls (xu s12 127 (8 + (s12 121 3)) (s12 130 ((2 * l2_7) + 1))) fun s16 =>
      xgd (0 ≤ (16 + (s16 121 3)) ∧ (16 + (s16 121 3)) < 40) <|
      xls (xu s16 127 (16 + (s16 121 3)) 0) fun s19 =>
      xls (xu s19 121 3 ((s19 121 3) + 1)) fun s21 =>
      F_X11_houses_21  f (l2_7 + 1) s21 k
    else
      k l2_7 s8
def F_X11_houses (s0 : xW) : Option (Int × xW) :=
  xls (xu s0 121 0 0) fun s1 =>
  xbd (F_X11_readsLines 1 23 s1) fun r4 s5 =>
  if (xw r4) < 0 then
    some (r4, s5)
  else
    F_X11_houses_21  xN 0 s5 fun (l2_25 : Int) (s26 : xW) =>
    xbd (F_X11_isNew  s26) fun r28 s29 =>
    some (r28, s29)
def F_X11_isRest_5 (l0_1 : Int) (l1_2 : Int) (l2_3 : Int) (s6 : xW) : Nat → Int → Int → (Int → Int → Option (Int)) → Option (Int)
  | 0, _, _, _ => none
  | f + 1, l3_4, l4_5, k =>
    if (xw l4_5) ≤ 9 then
      xjn (fun (t8 : Int) =>
        F_X11_isRest_5 l0_1 l1_2 l2_3 s6 f t8 (l4_5 + 1) k
      ) fun j9 =>
      xjn (
        j9 0
      ) fun j12 =>
      if (xw l3_4) ≠ 0 then
        xbp (F_X11_gets l4_5 l1_2 l2_3 s6) fun r17 =>
        xbp (F_X11_gets l0_1 l1_2 l2_3 s6) fun r19 =>
        if (xw r17) ≤ (xw r19) then
          j9 1
        else
          j12 
      else
        j12 
    else
      k l3_4 l4_5
def F_X11_isRest (a0 : Int) (a1 : Int) (a2 : Int) (s0 : xW) : Option (Int) :=
  F_X11_isRest_5 a0 a1 a2 s0 xN 1 0 fun (l3_23 : Int) (l4_24 : Int) =>
  xgd (l3_23 = 0 ∨ l3_23 = 1) <|
  some l3_23
def F_X11_keep_38 (l1_12 : Int) : Nat → Int → xW → (Int → xW → Option (Int × xW)) → Option (Int × xW)
  | 0, _, _, _ => none
  | f + 1, l2_13, s14, k =>
    if (xw l2_13) < 40 then
      xgd (0 ≤ l2_13 ∧ l2_13 < 40) <|
      xgd (0 ≤ ((40 * l1_12) + l2_13) ∧ ((40 * l1_12) + l2_13) < 120) <|
      xls (xu s14 153 ((40 * l1_12) + l2_13) (s14 127 l2_13)) fun s18 =>
      F_X11_keep_38 l1_12 f (l2_13 + 1) s18 k
    else
      k l2_13 s14
def F_X11_keep (a1 : Int) (s0 : xW) : Option (Int × xW) :=
  xls (xu s0 121 0 0) fun s1 =>
  xbp (F_X11_in (xw a1) 0 2 s1) fun r4 =>
  if (xw r4) = 0 then
    some (0, s1)
  else
    xgd (0 ≤ a1 ∧ a1 < 3) <|
    xls (xu s1 151 a1 1) fun s7 =>
    xgd (0 ≤ a1 ∧ a1 < 3) <|
    xls (xu s7 152 a1 (s7 121 5)) fun s10 =>
    F_X11_keep_38 a1 xN 0 s10 fun (l2_22 : Int) (s23 : xW) =>
    some (1, s23)
def F_X11_laysBusy_10 (l1_3 : Int) : Nat → Int → xW → (Int → xW → Option (xW)) → Option (xW)
  | 0, _, _, _ => none
  | f + 1, l2_4, s5, k =>
    if (xw l2_4) < 220 then
      xgd (0 ≤ l2_4 ∧ l2_4 < 220) <|
      xls (xu s5 142 l2_4 0) fun s8 =>
      F_X11_laysBusy_10 l1_3 f (l2_4 + 1) s8 k
    else
      k l2_4 s5
def F_X11_laysBusy_42 (l1_18 : Int) (l2_19 : Int) : Nat → Int → xW → (Int → xW → Option (xW)) → Option (xW)
  | 0, _, _, _ => none
  | f + 1, l3_20, s21, k =>
    xgd (0 ≤ (24 + l2_19) ∧ (24 + l2_19) < 40) <|
    if (xw l3_20) < (xw (s21 127 (24 + l2_19))) then
      xgd (0 ≤ l2_19 ∧ l2_19 < 8) <|
      if (xw (xand (s21 126 l2_19) l1_18)) ≠ 0 then
        xgd (0 ≤ l2_19 ∧ l2_19 < 8) <|
        xgd (0 ≤ ((s21 135 l2_19) + l3_20) ∧ ((s21 135 l2_19) + l3_20) < 220) <|
        xgd (0 ≤ ((s21 135 l2_19) + l3_20) ∧ ((s21 135 l2_19) + l3_20) < 220) <|
        xls (xu s21 142 ((s21 135 l2_19) + l3_20) ((s21 142 ((s21 135 l2_19) + l3_20)) + 1)) fun s29 =>
        F_X11_laysBusy_42 l1_18 l2_19 f (l3_20 + 1) s29 k
      else
        k l3_20 s21
    else
      k l3_20 s21
def F_X11_laysBusy_32 (l1_14 : Int) : Nat → Int → xW → (Int → xW → Option (xW)) → Option (xW)
  | 0, _, _, _ => none
  | f + 1, l2_15, s16, k =>
    if (xw l2_15) < (xw (s16 121 4)) then
      F_X11_laysBusy_42 l1_14 l2_15 xN 0 s16 fun (l3_33 : Int) (s34 : xW) =>
      F_X11_laysBusy_32 l1_14 f (l2_15 + 1) s34 k
    else
      k l2_15 s16
def F_X11_laysBusy (a1 : Int) (s0 : xW) : Option (xW) :=
  xbp (F_X11_laysBegins 127 s0) fun s2 =>
  F_X11_laysBusy_10 a1 xN 0 s2 fun (l2_12 : Int) (s13 : xW) =>
  F_X11_laysBusy_32 a1 xN 0 s13 fun (l2_37 : Int) (s38 : xW) =>
  some s38
def F_X11_lane_36 (s12 : xW) : Nat → Int → Int → Int → Int → (Int → Int → Int → Int → Option (Int × xW)) → Option (Int × xW)
  | 0, _, _, _, _, _ => none
  | f + 1, l2_8, l3_9, l4_10, l5_11, k =>
    if (xw l5_11) < 220 then
      xgd (0 ≤ l5_11 ∧ l5_11 < 220) <|
      xli (if 0 < (xw (s12 142 l5_11)) then 1 else 0) fun v16 =>
      xbp (F_X11_flag v16 s12) fun r20 =>
      xgd (0 ≤ l5_11 ∧ l5_11 < 220) <|
      xli (if (xw l4_10) < (xw (s12 142 l5_11)) then l5_11 else l3_9) fun v23 =>
      xgd (0 ≤ l5_11 ∧ l5_11 < 220) <|
      F_X11_lane_36 s12 f (l2_8 + r20) v23 (max (xw l4_10) (xw (s12 142 l5_11))) (l5_11 + 1) k
    else
      k l2_8 l3_9 l4_10 l5_11
def F_X11_lane (a1 : Int) (s0 : xW) : Option (Int × xW) :=
  xls (xu s0 121 0 0) fun s1 =>
  xbp (F_X11_in (xw a1) 0 3 s1) fun r4 =>
  if (xw r4) = 0 then
    some (-1, s1)
  else
    xbp (F_X11_laysBusy (xshl 1 a1) s1) fun s7 =>
    F_X11_lane_36  s7 xN 0 (-1) 0 0 fun (l2_31 : Int) (l3_32 : Int) (l4_33 : Int) (l5_34 : Int) =>
    xls (xu s7 121 1 0) fun s35 =>
    xbp (F_X11_enters (xw l4_33) s35) fun s38 =>
    xbp (F_X11_enters (xw l3_32) s38) fun s40 =>
    some (l2_31, s40)
def F_X11_lasts_13 : Nat → Int → Int → xW → (Int → Int → xW → Option (Int × xW)) → Option (Int × xW)
  | 0, _, _, _, _ => none
  | f + 1, l1_5, l2_6, s7, k =>
    if (xw l2_6) < (xw (s7 127 36)) then
      xbd (F_X11_clashesOn 128 s7) fun r10 s11 =>
      xls (xu s11 128 39 ((s11 128 39) + 1)) fun s12 =>
      F_X11_lasts_13  f (l1_5 + r10) (l2_6 + 1) s12 k
    else
      k l1_5 l2_6 s7
def F_X11_lasts (s0 : xW) : Option (Int × xW) :=
  xls (xu s0 121 0 0) fun s1 =>
  xbp (F_X11_copies  s1) fun s4 =>
  F_X11_lasts_13  xN 0 0 s4 fun (l1_17 : Int) (l2_18 : Int) (s19 : xW) =>
  xls (xu s19 121 1 0) fun s20 =>
  xbp (F_X11_enters (xw l1_17) s20) fun s23 =>
  some ((s23 127 36), s23)
def F_X11_readsThing_b (rc : Int → xW → Option (Int × xW)) (s0 : xW) : Option (Int × xW) :=
  xbd (F_X11_takesSign 45 s0) fun r2 s3 =>
  if (xw r2) ≠ 0 then
    xbd (rc (-1) s3) fun r45 s46 =>
    xbp (F_X11_codes 3000 s46) fun s48 =>
    xgd (r45 = 0 ∨ r45 = 1) <|
    some (r45, s48)
  else
    xbp (F_X11_isDigit  s3) fun r6 =>
    if (xw r6) ≠ 0 then
      xbd (F_X11_number 3 s3) fun r40 s41 =>
      xbp (F_X11_codes r40 s41) fun s43 =>
      some (1, s43)
    else
      xbd (F_X11_takesOf ([100, 119, 109, 120, 121, 110, 101] : List Int) s3) fun r9 s10 =>
      if 0 ≤ (xw r9) then
        xbp (F_X11_codes (1000 + r9) s10) fun s38 =>
        some (1, s38)
      else
        xjn (fun (s12 : xW) =>
          some (0, s12)
        ) fun j13 =>
        if (xw (s10 121 18)) ≠ 4 then
          xbd (F_X11_takesSign 40 s10) fun r18 s19 =>
          if (xw r18) = 0 then
            j13 s19
          else
            xls (xu s19 121 18 ((s19 121 18) + 1)) fun s21 =>
            xbd (rc 0 s21) fun r24 s25 =>
            xjn (fun (s26 : xW) =>
              some (0, s26)
            ) fun j27 =>
            if (xw r24) ≠ 0 then
              xbd (F_X11_takesSign 41 s25) fun r32 s33 =>
              if (xw r32) = 0 then
                j27 s33
              else
                xls (xu s33 121 18 ((s33 121 18) - 1)) fun s35 =>
                some (1, s35)
            else
              j27 s25
        else
          j13 s10
def F_X11_readsRank_24 (rc : Int → xW → Option (Int × xW)) (l1_6 : Int) : Nat → Int → xW → (Int → xW → Option (Int × xW)) → Option (Int × xW)
  | 0, _, _, _ => none
  | f + 1, l2_7, s8, k =>
    if (xw l2_7) ≠ 0 then
      xjn (fun (t10 : List Int) =>
        xbd (F_X11_takesOf t10 s8) fun r15 s16 =>
        if (xw r15) < 0 then
          some (1, s16)
        else
          xbd (rc (l1_6 + 1) s16) fun r19 s20 =>
          if (xw r19) = 0 then
            some (0, s20)
          else
            xli (if (xw l1_6) = 0 then 0 else if (xw l1_6) = 1 then 3 else 5) fun v24 =>
            xbp (F_X11_codes ((2000 + r15) + v24) s20) fun s28 =>
            xli (if 0 < (xw l1_6) then 1 else 0) fun v30 =>
            F_X11_readsRank_24 rc l1_6 f v30 s28 k
      ) fun j11 =>
      if (xw l1_6) = 0 then
        j11 ([60, 62, 61] : List Int)
      else
        if (xw l1_6) = 1 then
          j11 ([43, 45] : List Int)
        else
          j11 ([42, 47] : List Int)
    else
      k l2_7 s8
def F_X11_readsRank_b (rc : Int → xW → Option (Int × xW)) (a1 : Int) (s0 : xW) : Option (Int × xW) :=
  if (xw a1) = 3 then
    xbd (rc (-1) s0) fun r40 s41 =>
    xgd (r40 = 0 ∨ r40 = 1) <|
    some (r40, s41)
  else
    xbd (rc (a1 + 1) s0) fun r3 s4 =>
    if (xw r3) = 0 then
      some (0, s4)
    else
      F_X11_readsRank_24 rc a1 xN 1 s4 fun (l2_37 : Int) (s38 : xW) =>
      some (1, s38)
def F_rd : Nat → Int → xW → Option (Int × xW)
  | 0, _, _ => none
  | f + 1, r, s => if r = -1 then F_X11_readsThing_b (F_rd f) s else F_X11_readsRank_b (F_rd f) r s
def F_X11_readsRank (a1 : Int) (s0 : xW) : Option (Int × xW) := F_rd 300 a1 s0
def F_X11_readsThing (s0 : xW) : Option (Int × xW) := F_rd 300 (-1) s0
def F_X11_readsRule (s0 : xW) : Option (Int × xW) :=
  xbd (F_X11_begins 40 s0) fun r2 s3 =>
  xls (xu s3 121 24 0) fun s4 =>
  xjn (fun (t6 : Int) (s7 : xW) =>
    xbp (F_X11_faultOf r2 40 t6 s7) fun r12 =>
    some (r12, s7)
  ) fun j8 =>
  xjn (fun (s13 : xW) =>
    j8 1 s13
  ) fun j14 =>
  if (xw r2) ≠ 0 then
    xbd (F_X11_readsRank 0 s4) fun r19 s20 =>
    if (xw r19) ≠ 0 then
      j14 s20
    else
      j8 0 s20
  else
    j14 s4
def F_X11_laysCode_7 (l1_3 : Int) (l2_5 : Int) : Nat → Int → xW → (Int → xW → Option (xW)) → Option (xW)
  | 0, _, _, _ => none
  | f + 1, l3_6, s7, k =>
    if (xw l3_6) < (xw l2_5) then
      xgd (0 ≤ l3_6 ∧ l3_6 < 80) <|
      xgd (0 ≤ l3_6 ∧ l3_6 < 80) <|
      xls (xu s7 131 l3_6 (s7 l1_3 l3_6)) fun s11 =>
      F_X11_laysCode_7 l1_3 l2_5 f (l3_6 + 1) s11 k
    else
      k l3_6 s7
def F_X11_laysCode (a1 : Int) (a2 : Int) (s0 : xW) : Option (xW) :=
  xgd (a1 ∈ xCodes) <|
  xls (xu s0 121 23 a2) fun s1 =>
  F_X11_laysCode_7 a1 a2 xN 0 s1 fun (l3_15 : Int) (s16 : xW) =>
  some s16
def F_X11_law_39 (l2_10 : Int) (l3_11 : Int) : Nat → Int → xW → (Int → xW → Option (Int × xW)) → Option (Int × xW)
  | 0, _, _, _ => none
  | f + 1, l4_12, s13, k =>
    if (xw l4_12) < (xw (s13 121 23)) then
      xgd (0 ≤ l4_12 ∧ l4_12 < 80) <|
      xgd (0 ≤ l4_12 ∧ l4_12 < 80) <|
      xls (xu s13 150 l4_12 (s13 131 l4_12)) fun s17 =>
      F_X11_law_39 l2_10 l3_11 f (l4_12 + 1) s17 k
    else
      k l4_12 s13
def F_X11_law_111 (l2_34 : Int) (l3_35 : Int) (l4_36 : Int) : Nat → Int → xW → (Int → xW → Option (Int × xW)) → Option (Int × xW)
  | 0, _, _, _ => none
  | f + 1, l5_37, s38, k =>
    if (xw l5_37) < (xw (s38 121 3)) then
      xbd (F_X11_hears 127 l5_37 s38) fun r41 s42 =>
      xbp (F_X11_enters (xw r41) s42) fun s44 =>
      F_X11_law_111 l2_34 l3_35 l4_36 f (l5_37 + 1) s44 k
    else
      k l5_37 s38
def F_X11_law (s0 : xW) : Option (Int × xW) :=
  xls (xu s0 121 0 0) fun s1 =>
  xbd (F_X11_readsRule  s1) fun r4 s5 =>
  if (xw r4) < 0 then
    some (((r4 + 1) - 10000), s5)
  else
    xbd (F_X11_clashesOn 127 s5) fun r8 s9 =>
    F_X11_law_39 r8 (s9 121 23) xN 0 s9 fun (l4_21 : Int) (s22 : xW) =>
    xbp (F_X11_laysCode 132 (s22 121 24) s22) fun s24 =>
    xbd (F_X11_clashesOn 127 s24) fun r26 s27 =>
    xls (xu s27 121 1 0) fun s28 =>
    xbp (F_X11_enters (xw r26) s28) fun s31 =>
    xbp (F_X11_enters (xw r8) s31) fun s33 =>
    F_X11_law_111 r8 (s9 121 23) r26 xN 0 s33 fun (l5_47 : Int) (s48 : xW) =>
    xbp (F_X11_laysCode 150 (s9 121 23) s48) fun s50 =>
    some ((r26 - r8), s50)
def F_X11_lengthOf_4 (l1_1 : Int) (s4 : xW) : Nat → Int → Int → (Int → Int → Option (Int)) → Option (Int)
  | 0, _, _, _ => none
  | f + 1, l2_2, l3_3, k =>
    if (xw l3_3) < (xw (s4 121 4)) then
      xbp (F_X11_has (xw l1_1) l3_3 s4) fun r7 =>
      xjn (fun (t8 : Int) =>
        F_X11_lengthOf_4 l1_1 s4 f (l2_2 + t8) (l3_3 + 1) k
      ) fun j9 =>
      if (xw r7) ≠ 0 then
        xgd (0 ≤ (24 + l3_3) ∧ (24 + l3_3) < 40) <|
        j9 (s4 127 (24 + l3_3))
      else
        j9 0
    else
      k l2_2 l3_3
def F_X11_lengthOf (a1 : Int) (s0 : xW) : Option (Int) :=
  F_X11_lengthOf_4 a1 s0 xN 0 0 fun (l2_16 : Int) (l3_17 : Int) =>
  some l2_16
def F_X11_longest_13 (s7 : xW) : Nat → Int → Int → (Int → Int → Option (Int × xW)) → Option (Int × xW)
  | 0, _, _, _ => none
  | f + 1, l1_5, l2_6, k =>
    if (xw l2_6) < (xw (xshl 1 (s7 121 4))) then
      xbp (F_X11_lengthOf l2_6 s7) fun r10 =>
      xbp (F_X11_lengthOf l1_5 s7) fun r12 =>
      xjn (fun (t13 : Int) =>
        xjn (fun (t17 : Int) =>
          F_X11_longest_13 s7 f t17 (l2_6 + 1) k
        ) fun j18 =>
        xjn (
          j18 l1_5
        ) fun j21 =>
        if (xw t13) ≠ 0 then
          xbp (F_X11_isPeace l2_6 s7) fun r26 =>
          if (xw r26) ≠ 0 then
            j18 l2_6
          else
            j21 
        else
          j21 
      ) fun j14 =>
      xjn (
        j14 1
      ) fun j28 =>
      if (xw (r10 - r12)) ≤ 0 then
        xjn (
          j14 0
        ) fun j32 =>
        if (xw (r10 - r12)) = 0 then
          if (xw (xbc l1_5)) < (xw (xbc l2_6)) then
            j28 
          else
            j32 
        else
          j32 
      else
        j28 
    else
      k l1_5 l2_6
def F_X11_longest (s0 : xW) : Option (Int × xW) :=
  xls (xu s0 121 0 0) fun s1 =>
  xbp (F_X11_laysFoes  s1) fun s4 =>
  F_X11_longest_13  s4 xN 0 1 fun (l1_39 : Int) (l2_40 : Int) =>
  xls (xu s4 121 1 0) fun s41 =>
  xbp (F_X11_enters (xw l1_39) s41) fun s44 =>
  xbp (F_X11_lengthOf l1_39 s44) fun r46 =>
  some (r46, s44)
def F_X11_menders_63 (l1_21 : Int) (l2_22 : Int) (l3_23 : Int) (l5_24 : Int) (s27 : xW) : Nat → Int → Int → (Int → Int → Option (Int × xW)) → Option (Int × xW)
  | 0, _, _, _ => none
  | f + 1, l6_25, l7_26, k =>
    if (xw l7_26) < (xw (s27 121 3)) then
      xjn (fun (t29 : Int) =>
        F_X11_menders_63 l1_21 l2_22 l3_23 l5_24 s27 f t29 (l7_26 + 1) k
      ) fun j30 =>
      xjn (
        j30 1
      ) fun j33 =>
      if (xw l6_25) = 0 then
        xbp (F_X11_has (xw l3_23) l7_26 s27) fun r38 =>
        xjn (
          j30 0
        ) fun j39 =>
        if (xw r38) ≠ 0 then
          xgd (0 ≤ l5_24 ∧ l5_24 < 40) <|
          xgd (0 ≤ (8 + l5_24) ∧ (8 + l5_24) < 40) <|
          xgd (0 ≤ l7_26 ∧ l7_26 < 40) <|
          xgd (0 ≤ (8 + l7_26) ∧ (8 + l7_26) < 40) <|
          xbp (F_X11_far (s27 127 l5_24) (s27 127 (8 + l5_24)) (s27 127 l7_26) (s27 127 (8 + l7_26)) s27) fun r48 =>
          if (xw r48) ≤ (xw l1_21) then
            j33 
          else
            j39 
        else
          j39 
      else
        j33 
    else
      k l6_25 l7_26
def F_X11_menders_43 (l1_13 : Int) (l2_14 : Int) (l3_15 : Int) (s18 : xW) : Nat → Int → Int → (Int → Int → Option (Int × xW)) → Option (Int × xW)
  | 0, _, _, _ => none
  | f + 1, l4_16, l5_17, k =>
    if (xw l5_17) < (xw (s18 121 3)) then
      if (xw l4_16) ≠ 0 then
        F_X11_menders_63 l1_13 l2_14 l3_15 l5_17 s18 xN 0 0 fun (l6_52 : Int) (l7_53 : Int) =>
        F_X11_menders_43 l1_13 l2_14 l3_15 s18 f l6_52 (l5_17 + 1) k
      else
        k l4_16 l5_17
    else
      k l4_16 l5_17
def F_X11_menders_23 (l1_6 : Int) (s9 : xW) : Nat → Int → Int → (Int → Int → Option (Int × xW)) → Option (Int × xW)
  | 0, _, _, _ => none
  | f + 1, l2_7, l3_8, k =>
    if (xw l3_8) < (xw (xshl 1 (s9 121 3))) then
      xbp (F_X11_isFewer l3_8 l2_7 s9) fun r12 =>
      F_X11_menders_43 l1_6 l2_7 l3_8 s9 xN r12 0 fun (l4_56 : Int) (l5_57 : Int) =>
      xli (if (xw l4_56) ≠ 0 then l3_8 else l2_7) fun v59 =>
      F_X11_menders_23 l1_6 s9 f v59 (l3_8 + 1) k
    else
      k l2_7 l3_8
def F_X11_menders (a1 : Int) (s0 : xW) : Option (Int × xW) :=
  xls (xu s0 121 0 0) fun s1 =>
  xbp (F_X11_in (xw a1) 0 18 s1) fun r4 =>
  if (xw r4) = 0 then
    some (-1, s1)
  else
    F_X11_menders_23 a1 s1 xN (-1) 0 fun (l2_64 : Int) (l3_65 : Int) =>
    xls (xu s1 121 1 0) fun s66 =>
    xbp (F_X11_enters (xw l2_64) s66) fun s69 =>
    some ((xbc l2_64), s69)
def F_X11_middle_61 (l1_15 : Int) (l2_16 : Int) (l3_17 : Int) : Nat → Int → Int → xW → (Int → Int → xW → Option (Int × xW)) → Option (Int × xW)
  | 0, _, _, _, _ => none
  | f + 1, l4_18, l5_19, s20, k =>
    if (xw l5_19) < (xw (s20 121 3)) then
      xbd (F_X11_hears 128 l5_19 s20) fun r23 s24 =>
      F_X11_middle_61 l1_15 l2_16 l3_17 f (max (xw l4_18) (xw r23)) (l5_19 + 1) s24 k
    else
      k l4_18 l5_19 s20
def F_X11_middle_27 : Nat → Int → Int → Int → xW → (Int → Int → Int → xW → Option (Int × xW)) → Option (Int × xW)
  | 0, _, _, _, _, _ => none
  | f + 1, l1_6, l2_7, l3_8, s9, k =>
    if (xw l3_8) < 100 then
      xls (xu s9 128 32 (Int.tdiv (xw l3_8) 10)) fun s11 =>
      xls (xu s11 128 33 (Int.tmod (xw l3_8) 10)) fun s13 =>
      F_X11_middle_61 l1_6 l2_7 l3_8 xN 0 0 s13 fun (l4_28 : Int) (l5_29 : Int) (s30 : xW) =>
      xli (if (xw l4_28) < (xw l2_7) then l3_8 else l1_6) fun v32 =>
      F_X11_middle_27  f v32 (min (xw l2_7) (xw l4_28)) (l3_8 + 1) s30 k
    else
      k l1_6 l2_7 l3_8 s9
def F_X11_middle (s0 : xW) : Option (Int × xW) :=
  xls (xu s0 121 0 0) fun s1 =>
  if (xw (s1 121 3)) = 0 then
    some (-2, s1)
  else
    xbp (F_X11_copies  s1) fun s5 =>
    F_X11_middle_27  xN (-1) 1000000 0 s5 fun (l1_39 : Int) (l2_40 : Int) (l3_41 : Int) (s42 : xW) =>
    xls (xu s42 121 1 0) fun s43 =>
    xbp (F_X11_enters (xw (Int.tdiv (xw l1_39) 10)) s43) fun s46 =>
    xbp (F_X11_enters (xw (Int.tmod (xw l1_39) 10)) s46) fun s48 =>
    some (l2_40, s48)
def F_X11_tellsFraction (a1 : Int) (a3 : Int) (s0 : xW) : Option (xW) :=
  xbp (F_X11_common a1 a3 s0) fun r2 =>
  xls (xu s0 121 1 0) fun s3 =>
  xgd ((xwl r2) ≠ 0) <|
  xbp (F_X11_enters (Int.tdiv (xwl a1) (xwl r2)) s3) fun s7 =>
  xgd ((xwl r2) ≠ 0) <|
  xbp (F_X11_enters (Int.tdiv (xwl a3) (xwl r2)) s7) fun s10 =>
  some s10
def F_X11_misfires_49 (l1_15 : Int) (l2_16 : Int) (l3_17 : Int) (l4_18 : Int) : Nat → Int → xW → (Int → xW → Option (Int × xW)) → Option (Int × xW)
  | 0, _, _, _ => none
  | f + 1, l6_19, s20, k =>
    if (xw l6_19) ≤ (xw l2_16) then
      xli (if (xw l6_19) = 0 then 1 else 0) fun v23 =>
      xbp (F_X11_flag v23 s20) fun r27 =>
      xgd (0 ≤ l6_19 ∧ l6_19 < 17) <|
      xls (xu s20 148 l6_19 (xw r27)) fun s29 =>
      F_X11_misfires_49 l1_15 l2_16 l3_17 l4_18 f (l6_19 + 1) s29 k
    else
      k l6_19 s20
def F_X11_misfires_99 (l1_42 : Int) (l2_43 : Int) (l3_44 : Int) (l4_45 : Int) (l6_46 : Int) : Nat → Int → Int → xW → (Int → Int → xW → Option (Int × xW)) → Option (Int × xW)
  | 0, _, _, _, _ => none
  | f + 1, l7_47, l9_48, s49, k =>
    if 0 ≤ (xw l9_48) then
      xgd (0 ≤ l9_48 ∧ l9_48 < 17) <|
      xgd (0 ≤ l9_48 ∧ l9_48 < 17) <|
      xgd (0 ≤ (l9_48 + 1) ∧ (l9_48 + 1) < 17) <|
      xls (xu s49 148 (l9_48 + 1) ((s49 148 l9_48) * (xw l3_44))) fun s54 =>
      F_X11_misfires_99 l1_42 l2_43 l3_44 l4_45 l6_46 f (l7_47 + (s49 148 l9_48)) (l9_48 + (-1)) s54 k
    else
      k l7_47 l9_48 s49
def F_X11_misfires_85 (l1_35 : Int) (l2_36 : Int) (l3_37 : Int) : Nat → Int → Int → xW → (Int → Int → xW → Option (Int × xW)) → Option (Int × xW)
  | 0, _, _, _, _ => none
  | f + 1, l4_38, l6_39, s40, k =>
    if (xw l6_39) < (xw l1_35) then
      F_X11_misfires_99 l1_35 l2_36 l3_37 l4_38 l6_39 xN 0 (l2_36 - 1) s40 fun (l7_59 : Int) (l9_60 : Int) (s61 : xW) =>
      xls (xu s61 148 0 (l7_59 * (xw (10 - l3_37)))) fun s62 =>
      F_X11_misfires_85 l1_35 l2_36 l3_37 f (l4_38 * 10) (l6_39 + 1) s62 k
    else
      k l4_38 l6_39 s40
def F_X11_misfires_175 (l2_70 : Int) (l4_71 : Int) (s74 : xW) : Nat → Int → Int → (Int → Int → Option (Int × xW)) → Option (Int × xW)
  | 0, _, _, _ => none
  | f + 1, l6_72, l8_73, k =>
    if (xw l8_73) < (xw l2_70) then
      xgd (0 ≤ l8_73 ∧ l8_73 < 17) <|
      F_X11_misfires_175 l2_70 l4_71 s74 f (l6_72 + (s74 148 l8_73)) (l8_73 + 1) k
    else
      k l6_72 l8_73
def F_X11_misfires (a1 : Int) (a2 : Int) (a3 : Int) (s0 : xW) : Option (Int × xW) :=
  xls (xu s0 121 0 0) fun s1 =>
  xbp (F_X11_in (xw a1) 1 15 s1) fun r4 =>
  xjn (
    some (-1, s1)
  ) fun j5 =>
  if (xw r4) ≠ 0 then
    xbp (F_X11_in (xw a2) 1 15 s1) fun r10 =>
    if (xw r10) ≠ 0 then
      xbp (F_X11_in (xw a3) 0 10 s1) fun r13 =>
      if (xw r13) = 0 then
        j5 
      else
        F_X11_misfires_49 a1 a2 a3 1 xN 0 s1 fun (l6_33 : Int) (s34 : xW) =>
        F_X11_misfires_85 a1 a2 a3 xN 1 0 s34 fun (l4_67 : Int) (l6_68 : Int) (s69 : xW) =>
        F_X11_misfires_175 a2 l4_67 s69 xN 0 0 fun (l6_79 : Int) (l8_80 : Int) =>
        xbp (F_X11_tellsFraction l6_79 l4_67 s69) fun s82 =>
        some (0, s82)
    else
      j5 
  else
    j5 
def F_X11_moves (a1 : Int) (a2 : Int) (a3 : Int) (s0 : xW) : Option (Int × xW) :=
  xls (xu s0 121 0 0) fun s1 =>
  xbp (F_X11_putsBy  s1) fun s4 =>
  xbd (F_X11_movesTo 127 a1 a2 a3 s4) fun r6 s7 =>
  xbd (F_X11_counted r6 s7) fun r9 s10 =>
  some (r9, s10)
def F_X11_order_24 : Nat → Int → xW → (Int → xW → Option (Int × xW)) → Option (Int × xW)
  | 0, _, _, _ => none
  | f + 1, l1_9, s10, k =>
    if (xw l1_9) < (xw (s10 121 4)) then
      xgd (0 ≤ l1_9 ∧ l1_9 < 8) <|
      xbp (F_X11_enters (xw (s10 141 l1_9)) s10) fun s14 =>
      F_X11_order_24  f (l1_9 + 1) s14 k
    else
      k l1_9 s10
def F_X11_order (s0 : xW) : Option (Int × xW) :=
  xls (xu s0 121 0 0) fun s1 =>
  xbp (F_X11_laysBegins 127 s1) fun s4 =>
  xbp (F_X11_laysLine  s4) fun s6 =>
  xls (xu s6 121 1 0) fun s7 =>
  F_X11_order_24  xN 0 s7 fun (l1_17 : Int) (s18 : xW) =>
  some ((s18 121 4), s18)
def F_X11_quiet_16 : Nat → Int → Int → Int → xW → (Int → Int → Int → xW → Option (Int × xW)) → Option (Int × xW)
  | 0, _, _, _, _, _ => none
  | f + 1, l1_5, l2_6, l3_7, s8, k =>
    if (xw l3_7) ≤ 99 then
      xbd (F_X11_clashesOn 128 s8) fun r11 s12 =>
      xli (if (xw r11) = 0 then 1 else 0) fun v14 =>
      xli (if (xw v14) ≠ 0 then if (xw l2_6) = 0 then l3_7 else l1_5 else l1_5) fun v19 =>
      xbp (F_X11_flag v14 s12) fun r23 =>
      xls (xu s12 128 39 ((s12 128 39) + 1)) fun s24 =>
      F_X11_quiet_16  f v19 (l2_6 + r23) (l3_7 + 1) s24 k
    else
      k l1_5 l2_6 l3_7 s8
def F_X11_quiet (s0 : xW) : Option (Int × xW) :=
  xls (xu s0 121 0 0) fun s1 =>
  xbp (F_X11_copies  s1) fun s4 =>
  F_X11_quiet_16  xN (-2) 0 0 s4 fun (l1_30 : Int) (l2_31 : Int) (l3_32 : Int) (s33 : xW) =>
  xjn (fun (s34 : xW) =>
    some (l1_30, s34)
  ) fun j35 =>
  if 0 < (xw l2_31) then
    xls (xu s33 121 1 0) fun s39 =>
    xbp (F_X11_enters (xw l2_31) s39) fun s42 =>
    j35 s42
  else
    j35 s33
def F_X11_readsAct (s0 : xW) : Option (Int × xW) :=
  xbd (F_X11_takesOf ([110, 98, 103, 108, 109] : List Int) s0) fun r2 s3 =>
  xgd (0 ≤ (s0 121 36) ∧ (s0 121 36) < 60) <|
  xls (xu s3 137 (s0 121 36) r2) fun s5 =>
  xls (xu s5 121 36 ((s5 121 36) + 1)) fun s7 =>
  xgd (0 ≤ (s0 121 36) ∧ (s0 121 36) < 60) <|
  if (xw (s7 137 (s0 121 36))) < 0 then
    some (0, s7)
  else
    xgd (0 ≤ (s0 121 36) ∧ (s0 121 36) < 60) <|
    xli (if (xw (s7 137 (s0 121 36))) = 1 then 1 else 0) fun v13 =>
    xbp (F_X11_flag v13 s7) fun r17 =>
    xbd (F_X11_digitIn r17 9 s7) fun r19 s20 =>
    xgd (0 ≤ (s0 121 36) ∧ (s0 121 36) < 60) <|
    xls (xu s20 138 (s0 121 36) r19) fun s22 =>
    xgd (0 ≤ (s0 121 36) ∧ (s0 121 36) < 60) <|
    xjn (
      xgd (0 ≤ (s0 121 36) ∧ (s0 121 36) < 60) <|
      xli (if 0 ≤ (xw (s22 138 (s0 121 36))) then 1 else 0) fun v30 =>
      xgd (v30 = 0 ∨ v30 = 1) <|
      some (v30, s22)
    ) fun j25 =>
    if 0 ≤ (xw (s22 138 (s0 121 36))) then
      xgd (0 ≤ (s0 121 36) ∧ (s0 121 36) < 60) <|
      if (xw (s22 137 (s0 121 36))) < 2 then
        j25 
      else
        xgd (0 ≤ (s0 121 36) ∧ (s0 121 36) < 60) <|
        xli (if (xw (s22 137 (s0 121 36))) = 3 then 1 else 0) fun v39 =>
        xbp (F_X11_flag v39 s22) fun r43 =>
        xbd (F_X11_digitIn r43 9 s22) fun r45 s46 =>
        xgd (0 ≤ (s0 121 36) ∧ (s0 121 36) < 60) <|
        xls (xu s46 139 (s0 121 36) r45) fun s48 =>
        xgd (0 ≤ (s0 121 36) ∧ (s0 121 36) < 60) <|
        xjn (
          xgd (0 ≤ (s0 121 36) ∧ (s0 121 36) < 60) <|
          xli (if 0 ≤ (xw (s48 139 (s0 121 36))) then 1 else 0) fun v56 =>
          xgd (v56 = 0 ∨ v56 = 1) <|
          some (v56, s48)
        ) fun j51 =>
        if 0 ≤ (xw (s48 139 (s0 121 36))) then
          xgd (0 ≤ (s0 121 36) ∧ (s0 121 36) < 60) <|
          if (xw (s48 137 (s0 121 36))) < 4 then
            j51 
          else
            xbd (F_X11_number 1 s48) fun r64 s65 =>
            xgd (0 ≤ (s0 121 36) ∧ (s0 121 36) < 60) <|
            xls (xu s65 140 (s0 121 36) r64) fun s67 =>
            xgd (0 ≤ (s0 121 36) ∧ (s0 121 36) < 60) <|
            xli (if 0 ≤ (xw (s67 140 (s0 121 36))) then 1 else 0) fun v71 =>
            xgd (v71 = 0 ∨ v71 = 1) <|
            some (v71, s67)
        else
          j51 
    else
      j25 
def F_X11_rests_37 (l1_13 : Int) (l3_15 : Int) : Nat → Int → Int → xW → (Int → Int → xW → Option (Int × xW)) → Option (Int × xW)
  | 0, _, _, _, _ => none
  | f + 1, l2_14, l4_16, s17, k =>
    if (xw l4_16) ≤ 9 then
      xbp (F_X11_isRest l3_15 l4_16 l1_13 s17) fun r20 =>
      xjn (fun (l2_21 : Int) (s22 : xW) =>
        F_X11_rests_37 l1_13 l3_15 f l2_21 (l4_16 + 1) s22 k
      ) fun j23 =>
      if (xw r20) ≠ 0 then
        xbp (F_X11_isRest l4_16 l3_15 l1_13 s17) fun r28 =>
        if (xw r28) ≠ 0 then
          xjn (fun (s30 : xW) =>
            j23 (l2_14 + 1) s30
          ) fun j31 =>
          if (xw l2_14) = 0 then
            xbp (F_X11_enters (xw l3_15) s17) fun s36 =>
            xbp (F_X11_enters (xw l4_16) s36) fun s38 =>
            j31 s38
          else
            j31 s17
        else
          j23 l2_14 s17
      else
        j23 l2_14 s17
    else
      k l2_14 l4_16 s17
def F_X11_rests_28 (l1_8 : Int) : Nat → Int → Int → xW → (Int → Int → xW → Option (Int × xW)) → Option (Int × xW)
  | 0, _, _, _, _ => none
  | f + 1, l2_9, l3_10, s11, k =>
    if (xw l3_10) ≤ 9 then
      F_X11_rests_37 l1_8 l3_10 xN l2_9 0 s11 fun (l2_42 : Int) (l4_43 : Int) (s44 : xW) =>
      F_X11_rests_28 l1_8 f l2_42 (l3_10 + 1) s44 k
    else
      k l2_9 l3_10 s11
def F_X11_rests (a1 : Int) (s0 : xW) : Option (Int × xW) :=
  xls (xu s0 121 0 0) fun s1 =>
  xbp (F_X11_in (xw a1) 0 20 s1) fun r4 =>
  if (xw r4) = 0 then
    some (-1, s1)
  else
    xls (xu s1 121 1 0) fun s6 =>
    F_X11_rests_28 a1 xN 0 0 s6 fun (l2_48 : Int) (l3_49 : Int) (s50 : xW) =>
    some (l2_48, s50)
def F_X11_row (a1 : Int) (s0 : xW) : Option (Int × xW) :=
  xls (xu s0 121 0 0) fun s1 =>
  xbp (F_X11_in (xw a1) 0 (xw ((s1 121 1) - 1)) s1) fun r4 =>
  if (xw r4) = 0 then
    xls (xu s1 121 0 1) fun s7 =>
    some (0, s7)
  else
    xgd (0 ≤ a1 ∧ a1 < 24) <|
    some ((s1 122 a1), s1)
def F_X11_rule (s0 : xW) : Option (Int × xW) :=
  xls (xu s0 121 0 0) fun s1 =>
  xbd (F_X11_readsRule  s1) fun r4 s5 =>
  xjn (fun (s6 : xW) =>
    some (r4, s6)
  ) fun j7 =>
  if (xw r4) = 0 then
    xbp (F_X11_laysCode 132 (s5 121 24) s5) fun s12 =>
    j7 s12
  else
    j7 s5
def F_X11_sheet_46 (l1_13 : Int) (l2_14 : Int) (l4_15 : Int) : Nat → Int → Int → Int → xW → (Int → Int → Int → xW → Option (Int × xW)) → Option (Int × xW)
  | 0, _, _, _, _, _ => none
  | f + 1, l5_16, l6_17, l7_18, s19, k =>
    if (xw l7_18) < (xw (s19 121 4)) then
      xli (if (xw l1_13) = 0 then (xi2b l6_17) else if (xw l1_13) = 1 then (xi2s l6_17) else l6_17) fun v23 =>
      xjn (fun (t26 : Int) =>
        xgd (0 ≤ (24 + l7_18) ∧ (24 + l7_18) < 40) <|
        xls (xu s19 127 (24 + l7_18) t26) fun s31 =>
        xgd (0 ≤ (24 + l7_18) ∧ (24 + l7_18) < 40) <|
        F_X11_sheet_46 l1_13 l2_14 l4_15 f (l5_16 + (s31 127 (24 + l7_18))) (l6_17 + l4_15) (l7_18 + 1) s31 k
      ) fun j27 =>
      xjn (
        j27 1
      ) fun j34 =>
      if (xw l1_13) ≠ 3 then
        if (xw l2_14) ≤ (xw l7_18) then
          j34 
        else
          j27 (max 1 (xw (min 9 (xw v23))))
      else
        j34 
    else
      k l5_16 l6_17 l7_18 s19
def F_X11_sheet (a1 : Int) (a2 : Int) (a3 : Int) (a4 : Int) (s0 : xW) : Option (Int × xW) :=
  xls (xu s0 121 0 0) fun s1 =>
  xbp (F_X11_in (xw a1) 0 3 s1) fun r4 =>
  xjn (
    some (-1, s1)
  ) fun j5 =>
  if (xw r4) ≠ 0 then
    if 8 < (xw a2) then
      j5 
    else
      xjn (
        F_X11_sheet_46 a1 a2 a4 xN 0 a3 0 s1 fun (l5_43 : Int) (l6_44 : Int) (l7_45 : Int) (s46 : xW) =>
        xli (if (xw a1) = 3 then -3 else l5_43) fun v48 =>
        some (v48, s46)
      ) fun j10 =>
      if (xw a1) ≠ 3 then
        if (xw a2) < 0 then
          some (-2, s1)
        else
          j10 
      else
        j10 
  else
    j5 
def F_X11_sign_18 (l1_4 : Int) : Nat → Int → xW → (Int → xW → Option (Int × xW)) → Option (Int × xW)
  | 0, _, _, _ => none
  | f + 1, l2_5, s6, k =>
    if (xw l2_5) < 4 then
      xgd (0 ≤ ((s6 121 15) + l2_5) ∧ ((s6 121 15) + l2_5) < 80) <|
      xls (xu s6 129 ((s6 121 15) + l2_5) (xand (xshr l1_4 (24 - (8 * l2_5))) 255)) fun s9 =>
      F_X11_sign_18 l1_4 f (l2_5 + 1) s9 k
    else
      k l2_5 s6
def F_X11_sign (a1 : Int) (s0 : xW) : Option (Int × xW) :=
  xls (xu s0 121 0 0) fun s1 =>
  if 76 < (xw (s1 121 15)) then
    some (-1, s1)
  else
    F_X11_sign_18 a1 xN 0 s1 fun (l2_13 : Int) (s14 : xW) =>
    xls (xu s14 121 15 ((s14 121 15) + 4)) fun s15 =>
    some ((s15 121 15), s15)
def F_X11_span_32 (s10 : xW) : Nat → Int → Int → Int → Int → (Int → Int → Int → Int → Option (Int × xW)) → Option (Int × xW)
  | 0, _, _, _, _, _ => none
  | f + 1, l1_6, l2_7, l3_8, l4_9, k =>
    if (xw l4_9) < 220 then
      xgd (0 ≤ l4_9 ∧ l4_9 < 220) <|
      xjn (fun (l1_13 : Int) (l2_14 : Int) (l3_15 : Int) =>
        F_X11_span_32 s10 f l1_13 l2_14 l3_15 (l4_9 + 1) k
      ) fun j16 =>
      if 0 < (xw (s10 142 l4_9)) then
        j16 (min (xw l1_6) (xw l4_9)) (l4_9 + 1) (l3_8 + 1)
      else
        j16 l1_6 l2_7 l3_8
    else
      k l1_6 l2_7 l3_8 l4_9
def F_X11_span (s0 : xW) : Option (Int × xW) :=
  xls (xu s0 121 0 0) fun s1 =>
  if (xw (s1 121 4)) = 0 then
    some (-2, s1)
  else
    xbp (F_X11_laysBusy 15 s1) fun s5 =>
    F_X11_span_32  s5 xN 220 0 0 0 fun (l1_24 : Int) (l2_25 : Int) (l3_26 : Int) (l4_27 : Int) =>
    xls (xu s5 121 1 0) fun s28 =>
    xbp (F_X11_enters (xw l1_24) s28) fun s31 =>
    xbp (F_X11_enters (xw l2_25) s31) fun s33 =>
    xbp (F_X11_enters (xw ((l2_25 - l1_24) - l3_26)) s33) fun s35 =>
    some (l3_26, s35)
def F_X11_takes (a1 : Int) (a2 : Int) (s0 : xW) : Option (Int × xW) :=
  xls (xu s0 121 0 0) fun s1 =>
  xbp (F_X11_putsBy  s1) fun s4 =>
  xbd (F_X11_takesSome a1 a2 s4) fun r6 s7 =>
  xbd (F_X11_counted r6 s7) fun r9 s10 =>
  some (r9, s10)
def F_X11_thrown (s0 : xW) : Option (Int) :=
  some (s0 121 0)
def F_X11_together_25 (l2_9 : Int) (l3_10 : Int) : Nat → Int → Int → Int → xW → (Int → Int → Int → xW → Option (Int × xW)) → Option (Int × xW)
  | 0, _, _, _, _, _ => none
  | f + 1, l1_8, l4_11, l5_12, s13, k =>
    if (xw l5_12) < (xw (s13 121 3)) then
      xjn (fun (t15 : Int) (s16 : xW) =>
        xli (if (xw t15) ≠ 0 then (xshl 1 l3_10) else 0) fun v21 =>
        xli (if (xw l4_11) ≠ 0 then if (xw t15) ≠ 0 then if (xw l3_10) < (xw l5_12) then 1 else 0 else 1 else 0) fun v27 =>
        F_X11_together_25 l2_9 l3_10 f (xor' l1_8 v21) v27 (l5_12 + 1) s16 k
      ) fun j17 =>
      xjn (fun (s30 : xW) =>
        j17 0 s30
      ) fun j31 =>
      if (xw l5_12) ≠ (xw l3_10) then
        xbd (F_X11_hears 127 l5_12 s13) fun r36 s37 =>
        xbd (F_X11_hears 127 l3_10 s37) fun r39 s40 =>
        if (xw r36) = (xw r39) then
          j17 1 s40
        else
          j31 s40
      else
        j31 s13
    else
      k l1_8 l4_11 l5_12 s13
def F_X11_together_11 : Nat → Int → Int → Int → xW → (Int → Int → Int → xW → Option (Int × xW)) → Option (Int × xW)
  | 0, _, _, _, _, _ => none
  | f + 1, l1_3, l2_4, l3_5, s6, k =>
    if (xw l3_5) < (xw (s6 121 3)) then
      F_X11_together_25 l2_4 l3_5 xN l1_3 1 0 s6 fun (l1_46 : Int) (l4_47 : Int) (l5_48 : Int) (s49 : xW) =>
      xbp (F_X11_flag l4_47 s49) fun r51 =>
      F_X11_together_11  f l1_46 (l2_4 + r51) (l3_5 + 1) s49 k
    else
      k l1_3 l2_4 l3_5 s6
def F_X11_together (s0 : xW) : Option (Int × xW) :=
  xls (xu s0 121 0 0) fun s1 =>
  F_X11_together_11  xN 0 0 0 s1 fun (l1_56 : Int) (l2_57 : Int) (l3_58 : Int) (s59 : xW) =>
  xls (xu s59 121 1 0) fun s60 =>
  xbp (F_X11_enters (xw l2_57) s60) fun s63 =>
  some (l1_56, s63)
def F_X11_undo_26 : Nat → Int → xW → (Int → xW → Option (Int × xW)) → Option (Int × xW)
  | 0, _, _, _ => none
  | f + 1, l1_6, s7, k =>
    if (xw l1_6) < 40 then
      xgd (0 ≤ ((40 * (s7 121 28)) + l1_6) ∧ ((40 * (s7 121 28)) + l1_6) < 640) <|
      xgd (0 ≤ l1_6 ∧ l1_6 < 40) <|
      xls (xu s7 127 l1_6 (s7 136 ((40 * (s7 121 28)) + l1_6))) fun s11 =>
      F_X11_undo_26  f (l1_6 + 1) s11 k
    else
      k l1_6 s7
def F_X11_undo (s0 : xW) : Option (Int × xW) :=
  xls (xu s0 121 0 0) fun s1 =>
  if (xw (s1 121 28)) = 0 then
    some (-1, s1)
  else
    xls (xu s1 121 28 ((s1 121 28) - 1)) fun s4 =>
    F_X11_undo_26  xN 0 s4 fun (l1_15 : Int) (s16 : xW) =>
    some ((s16 121 28), s16)
def F_X11_week_19 (l1_8 : Int) : Nat → Int → xW → (Int → xW → Option (Int × xW)) → Option (Int × xW)
  | 0, _, _, _ => none
  | f + 1, l2_9, s10, k =>
    if (xw l2_9) ≠ 0 then
      if (xw (s10 121 16)) < (xw (s10 121 17)) then
        xbd (F_X11_readsAct  s10) fun r14 s15 =>
        F_X11_week_19 l1_8 f r14 s15 k
      else
        k l2_9 s10
    else
      k l2_9 s10
def F_X11_week_64 : Nat → Int → xW → (Int → xW → Option (Int × xW)) → Option (Int × xW)
  | 0, _, _, _ => none
  | f + 1, l4_25, s26, k =>
    if (xw l4_25) < (xw (s26 121 36)) then
      xbd (F_X11_does l4_25 s26) fun r29 s30 =>
      if (xw r29) ≠ 0 then
        F_X11_week_64  f (l4_25 + 1) s30 k
      else
        k l4_25 s30
    else
      k l4_25 s26
def F_X11_week (s0 : xW) : Option (Int × xW) :=
  xls (xu s0 121 0 0) fun s1 =>
  xbd (F_X11_begins 60 s1) fun r4 s5 =>
  xls (xu s5 121 36 0) fun s6 =>
  F_X11_week_19 r4 xN 1 s6 fun (l2_18 : Int) (s19 : xW) =>
  xbp (F_X11_faultOf r4 60 l2_18 s19) fun r21 =>
  if (xw r21) < 0 then
    some (r21, s19)
  else
    xbp (F_X11_putsBy  s19) fun s24 =>
    F_X11_week_64  xN 0 s24 fun (l4_34 : Int) (s35 : xW) =>
    xls (xu s35 121 1 0) fun s36 =>
    xli (if (xw l4_34) < (xw (s36 121 36)) then 1 else 0) fun v39 =>
    xbp (F_X11_flag v39 s36) fun r43 =>
    xbp (F_X11_enters (xw r43) s36) fun s45 =>
    xbp (F_X11_enters (xw (s45 127 37)) s45) fun s47 =>
    xjn (fun (t48 : Int) (s49 : xW) =>
      some (t48, s49)
    ) fun j50 =>
    if 0 < (xw l4_34) then
      xbd (F_X11_adds l4_34 s47) fun r55 s56 =>
      j50 r55 s56
    else
      j50 0 s47
def F_X11_winds_23 (l1_9 : Int) : Nat → Int → xW → (Int → xW → Option (Int × xW)) → Option (Int × xW)
  | 0, _, _, _ => none
  | f + 1, l2_10, s11, k =>
    if (xw l2_10) < (xw l1_9) then
      xgd (0 ≤ l2_10 ∧ l2_10 < 24) <|
      xgd (0 ≤ l2_10 ∧ l2_10 < 20) <|
      xls (xu s11 123 l2_10 (s11 130 l2_10)) fun s15 =>
      F_X11_winds_23 l1_9 f (l2_10 + 1) s15 k
    else
      k l2_10 s11
def F_X11_winds (s0 : xW) : Option (Int × xW) :=
  xls (xu s0 121 0 0) fun s1 =>
  xbd (F_X11_readsDigits  s1) fun r4 s5 =>
  if (xw r4) < 0 then
    some (r4, s5)
  else
    xls (xu s5 121 6 r4) fun s7 =>
    F_X11_winds_23 r4 xN 0 s7 fun (l2_19 : Int) (s20 : xW) =>
    some (r4, s20)
def F_X11_years_39 (l2_12 : Int) : Nat → Int → xW → (Int → xW → Option (Int × xW)) → Option (Int × xW)
  | 0, _, _, _ => none
  | f + 1, l3_13, s14, k =>
    if (xw l3_13) < (xw l2_12) then
      xbd (F_X11_draws 4 s14) fun r17 s18 =>
      xjn (fun (s19 : xW) =>
        F_X11_years_39 l2_12 f (l3_13 + 1) s19 k
      ) fun j20 =>
      if (xw r17) < 2 then
        xbp (F_X11_dayGoes 128 s18) fun s52 =>
        j20 s52
      else
        xjn (
          xjn (fun (t27 : Int) (s28 : xW) =>
            xbd (F_X11_draws 10 s28) fun r33 s34 =>
            xbd (F_X11_draws 10 s34) fun r36 s37 =>
            if (xw r17) = 2 then
              xbd (F_X11_haulsTo 128 r33 r36 s37) fun r43 s44 =>
              j20 s44
            else
              xbd (F_X11_movesTo 128 t27 r33 r36 s37) fun r40 s41 =>
              j20 s41
          ) fun j29 =>
          if (xw r17) = 2 then
            j29 0 s18
          else
            xbd (F_X11_draws (s18 121 3) s18) fun r47 s48 =>
            j29 r47 s48
        ) fun j24 =>
        if (xw r17) ≠ 2 then
          if 0 < (xw (s18 121 3)) then
            j24 
          else
            j20 s18
        else
          j24 
    else
      k l3_13 s14
def F_X11_years (a1 : Int) (a2 : Int) (s0 : xW) : Option (Int × xW) :=
  xls (xu s0 121 0 0) fun s1 =>
  xbp (F_X11_in (xw a2) 1 60 s1) fun r4 =>
  if (xw r4) = 0 then
    some (-1, s1)
  else
    xls (xu s1 121 48 a1) fun s6 =>
    xbp (F_X11_copies  s6) fun s9 =>
    xbp (F_X11_goesOn 128 0 s9) fun s11 =>
    F_X11_years_39 a2 xN 0 s11 fun (l3_55 : Int) (s56 : xW) =>
    xls (xu s56 121 1 0) fun s57 =>
    xbp (F_X11_enters (xw (s57 128 36)) s57) fun s60 =>
    xbp (F_X11_enters (xw (s60 121 31)) s60) fun s62 =>
    some ((s62 121 30), s62)
end
