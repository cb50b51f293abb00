/-! reading: the signs -/
theorem at_c {i : Int} {s : xW} (h : 0 ≤ s 1 1 ∧ s 1 1 ≤ 80) (hb : ∀ i : Int, 0 ≤ s 2 i ∧ s 2 i ≤ 255) (hi : -1000 ≤ i ∧ i ≤ 1000) : F_X8_at i s = some (if 0 ≤ i ∧ i < s 1 1 then s 2 i else 0) := by
  have hbi := hb i
  unfold F_X8_at
  simp only [xbp_s, xbd_s, xls, xli, xlt, xjn]
  rw [xw_sm (x := i) (by omega) (by omega), xw_sm (x := s 1 1) (by omega) (by omega)]
  by_cases z1 : 0 ≤ i
  · by_cases z2 : i < s 1 1
    · rw [if_pos z1, if_pos z2, if_pos ⟨z1, z2⟩, xgd_t (show 0 ≤ i ∧ i < 80 by omega), xgd_t (show 0 ≤ s 2 i ∧ s 2 i < 65536 by omega)]
    · rw [if_pos z1, if_neg z2, if_neg (fun w => z2 w.2), xgd_t (show (0 : Int) ≤ 0 ∧ (0 : Int) < 65536 by decide)]
  · rw [if_neg z1, if_neg (fun w => z1 w.1), xgd_t (show (0 : Int) ≤ 0 ∧ (0 : Int) < 65536 by decide)]
theorem digit_m {s : xW} (h : 0 ≤ s 121 16 ∧ s 121 16 ≤ 80) (h2 : 0 ≤ s 121 17 ∧ s 121 17 ≤ 80) (hb : s 121 16 < s 121 17 → 0 ≤ s 129 (s 121 16) ∧ s 129 (s 121 16) ≤ 255) : F_X11_isDigit s = some (if s 121 16 < s 121 17 ∧ 48 ≤ s 129 (s 121 16) ∧ s 129 (s 121 16) ≤ 57 then 1 else 0) := by
  unfold F_X11_isDigit
  simp only [xbp_s, xbd_s, xls, xli, xlt, xjn]
  rw [xw_sm (x := s 121 16) (by omega) (by omega), xw_sm (x := s 121 17) (by omega) (by omega)]
  by_cases z1 : s 121 16 < s 121 17
  · have hbi := hb z1
    rw [if_pos z1, xgd_t (show 0 ≤ s 121 16 ∧ s 121 16 < 80 by omega), xw_sm (x := s 129 (s 121 16)) (by omega) (by omega), in_eq (by omega) (by omega) (by omega)]
    simp only [xbp_s, xbd_s, xls, xli, xlt, xjn]
    by_cases z2 : 48 ≤ s 129 (s 121 16) ∧ s 129 (s 121 16) ≤ 57
    · rw [if_pos z2, if_pos (show xw 1 ≠ 0 by decide), if_pos ⟨z1, z2⟩, xgd_t (by decide)]
    · rw [if_neg z2, if_neg (show ¬ xw 0 ≠ 0 by decide), if_neg (fun w => z2 w.2), xgd_t (by decide)]
  · rw [if_neg z1, if_neg (fun w => z1 w.1), xgd_t (by decide)]
theorem number1_m {s : xW} (h : 0 ≤ s 121 16 ∧ s 121 16 ≤ 80) (h2 : 0 ≤ s 121 17 ∧ s 121 17 ≤ 80) (hb : s 121 16 < s 121 17 → 0 ≤ s 129 (s 121 16) ∧ s 129 (s 121 16) ≤ 255) (hd : s 121 16 < s 121 17 ∧ 48 ≤ s 129 (s 121 16) ∧ s 129 (s 121 16) ≤ 57) : F_X11_number 1 s = some (s 129 (s 121 16) - 48, xu s 121 16 (s 121 16 + 1)) := by
  obtain ⟨f, hf, hf2⟩ := xN_s
  obtain ⟨g, hg⟩ : ∃ g, f = g + 1 := ⟨f - 1, by omega⟩
  rw [hg] at hf
  have e := digit_m h h2 hb
  rw [if_pos hd] at e
  unfold F_X11_number
  rw [e]
  simp only [xbp_s, xbd_s, xls, xli, xlt, xjn]
  rw [if_neg (show ¬ xw 1 = 0 by decide), hf, F_X11_number_13]
  simp only [xbp_s, xbd_s, xls, xli, xlt, xjn]
  rw [if_pos (show xw 0 < xw 1 by decide), e]
  simp only [xbp_s, xbd_s, xls, xli, xlt, xjn]
  rw [if_pos (show xw 1 ≠ 0 by decide), xgd_t (by omega), F_X11_number_13, if_neg (show ¬ xw (0 + 1) < xw 1 by decide), Int.mul_zero, Int.zero_add]
