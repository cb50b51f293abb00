/-! what holds at the law's entry -/
abbrev xFl : List Cond := flatC (Cond.and given_1 narrow_1)
theorem x_size {args : Array Value} {s : State} {tm : Term} {N t : Nat} {ty : FieldType} {f : Nat → Value} {A : Nat → Prop} (hN : N < 2 ^ 31) (hv : (Term.length tm).eval args s none [] s = some (.int (Int32.ofNat N))) (ht : tm.eval args s none [] s = some (.ref t)) (hT : va_T ty t N f A s s.heap) : ∃ cell : Cell, s.heap[t]? = some cell ∧ cell.slots.size = N := by
  obtain ⟨b, cell, hb1, harr, -⟩ := Term.length_spec hv
  have hsz : cell.slots.size < 2 ^ 31 := by
    simp only [Term.eval, hb1, harr, Option.bind_eq_bind, Option.bind_some] at hv
    by_cases hlt : cell.slots.size < 2147483648
    · exact hlt
    · simp [hlt] at hv
  cases ht.symm.trans hb1
  obtain ⟨hcell, -, -, -⟩ := State.arrayAt?_spec harr
  obtain ⟨cell2, t1, -, -, t4, t5, -, -⟩ := hT
  cases hcell.symm.trans t1
  refine ⟨cell, t1, ?_⟩
  have e1 : (Int32.ofNat cell.slots.size).toInt = (Int32.ofNat N).toInt := congrArg Int32.toInt t5
  rw [Int32.toInt_ofNat_small hsz, Int32.toInt_ofNat_small hN] at e1
  exact Int.ofNat.inj e1
theorem x_lit {args : Array Value} {s : State} {own tx : String} {k : Nat} {bs : List Int} {A : Nat → Prop} (hr : (Cond.stringRef own k tx).before args s = true) (hex : (Cond.exactly (.string own k) "java/lang/String").before args s = true) (hco : (Cond.eq (.field (.string own k) "java/lang/String" "coder" "B") (.int 0)).before args s = true)
    (har : (Cond.arrayOf (.field (.string own k) "java/lang/String" "value" "[B") .byte).before args s = true) (hle : (Cond.eq (.length (.field (.string own k) "java/lang/String" "value" "[B")) (.int (Int32.ofNat bs.length))).before args s = true)
    (hel : ∀ j : Nat, j < bs.length → (Cond.eq (.elem (.field (.string own k) "java/lang/String" "value" "[B") (.int (Int32.ofNat j))) (.int (Int32.ofInt (bs.getD j 0)))).before args s = true) (hb : bs.length < 2 ^ 31) (hA : ∀ a : Nat, a < s.heap.size → ¬ A a) : ∃ a, vk_R own k tx a s ∧ xSO A s s.heap a bs := by
  obtain ⟨a, c, cA, kA, q1, q2, q3, q4, q5, q6, -⟩ := Cond.exactly_spec (args := args) (first := s) (o := none) (s := s) (idx := []) (t := .string own k) (cls := "java/lang/String") hex
  obtain ⟨t, ht, hT⟩ := va_Tof (f := fun j => .int (Int32.ofInt (bs.getD j 0))) (A := A) hb har (va_eqt hle) (fun j hj => va_eqt (hel j hj)) hA
  exact ⟨a, vk_R.of hr q1, ⟨cA, q3, q5, by rw [q6]; exact q2, hA a (Array.getElem?_eq_some_iff.mp q3).1⟩, vk_OFof q1 (va_eqt hco) hA, t, vk_OFof q1 ht hA, hT, x_size hb (va_eqt hle) ht hT⟩
section ST
variable {args : Array Value} {s : State} {A : Nat → Prop}
theorem el_0 : ∀ j : Nat, j < 7 → xFl[38 + j]? = some (Cond.eq (.elem (.field (.string "NoonGun$Bang" 11) "java/lang/String" "value" "[B") (.int (Int32.ofNat j))) (.int (Int32.ofInt (([100, 119, 109, 120, 121, 110, 101] : List Int).getD j 0)))) := by decide +kernel
theorem lit_0 (ht : ∀ w ∈ tables_1, w.before args s = true) (hs : ∀ w ∈ xFl, w.before args s = true) (hA : ∀ a : Nat, a < s.heap.size → ¬ A a) : ∃ a, vk_R "NoonGun$Bang" 11 "dwmxyne" a s ∧ xSO A s s.heap a [100, 119, 109, 120, 121, 110, 101] :=
  x_lit (ht _ (tb1 190 (by decide +kernel))) (hs _ (List.mem_of_getElem? (i := 34) (by decide +kernel))) (hs _ (List.mem_of_getElem? (i := 35) (by decide +kernel))) (hs _ (List.mem_of_getElem? (i := 36) (by decide +kernel))) (hs _ (List.mem_of_getElem? (i := 37) (by decide +kernel))) (fun j hj => hs _ (List.mem_of_getElem? (i := 38 + j) (el_0 j hj))) (by decide) hA
theorem el_1 : ∀ j : Nat, j < 7 → xFl[49 + j]? = some (Cond.eq (.elem (.field (.string "NoonGun$Rule" 85) "java/lang/String" "value" "[B") (.int (Int32.ofNat j))) (.int (Int32.ofInt (([100, 119, 109, 120, 121, 110, 101] : List Int).getD j 0)))) := by decide +kernel
theorem lit_1 (ht : ∀ w ∈ tables_1, w.before args s = true) (hs : ∀ w ∈ xFl, w.before args s = true) (hA : ∀ a : Nat, a < s.heap.size → ¬ A a) : ∃ a, vk_R "NoonGun$Rule" 85 "dwmxyne" a s ∧ xSO A s s.heap a [100, 119, 109, 120, 121, 110, 101] :=
  x_lit (ht _ (tb2 213 (by decide +kernel))) (hs _ (List.mem_of_getElem? (i := 45) (by decide +kernel))) (hs _ (List.mem_of_getElem? (i := 46) (by decide +kernel))) (hs _ (List.mem_of_getElem? (i := 47) (by decide +kernel))) (hs _ (List.mem_of_getElem? (i := 48) (by decide +kernel))) (fun j hj => hs _ (List.mem_of_getElem? (i := 49 + j) (el_1 j hj))) (by decide) hA
theorem el_2 : ∀ j : Nat, j < 36 → xFl[61 + j]? = some (Cond.eq (.elem (.field (.string "NoonGun" 147) "java/lang/String" "value" "[B") (.int (Int32.ofNat j))) (.int (Int32.ofInt (([110, 111, 32, 115, 117, 99, 104, 32, 104, 111, 117, 115, 101, 44, 32, 111, 114, 32, 110, 111, 116, 104, 105, 110, 103, 32, 115, 117, 99, 104, 32, 111, 102, 32, 105, 116] : List Int).getD j 0)))) := by decide +kernel
theorem lit_2 (ht : ∀ w ∈ tables_1, w.before args s = true) (hs : ∀ w ∈ xFl, w.before args s = true) (hA : ∀ a : Nat, a < s.heap.size → ¬ A a) : ∃ a, vk_R "NoonGun" 147 "no such house, or nothing such of it" a s ∧ xSO A s s.heap a [110, 111, 32, 115, 117, 99, 104, 32, 104, 111, 117, 115, 101, 44, 32, 111, 114, 32, 110, 111, 116, 104, 105, 110, 103, 32, 115, 117, 99, 104, 32, 111, 102, 32, 105, 116] :=
  x_lit (ht _ (tb5 89 (by decide +kernel))) (hs _ (List.mem_of_getElem? (i := 57) (by decide +kernel))) (hs _ (List.mem_of_getElem? (i := 58) (by decide +kernel))) (hs _ (List.mem_of_getElem? (i := 59) (by decide +kernel))) (hs _ (List.mem_of_getElem? (i := 60) (by decide +kernel))) (fun j hj => hs _ (List.mem_of_getElem? (i := 61 + j) (el_2 j hj))) (by decide) hA
theorem el_3 : ∀ j : Nat, j < 35 → xFl[103 + j]? = some (Cond.eq (.elem (.field (.string "NoonGun" 171) "java/lang/String" "value" "[B") (.int (Int32.ofNat j))) (.int (Int32.ofInt (([110, 111, 32, 115, 117, 99, 104, 32, 100, 101, 101, 100, 44, 32, 111, 114, 32, 110, 111, 116, 104, 105, 110, 103, 32, 115, 117, 99, 104, 32, 111, 102, 32, 105, 116] : List Int).getD j 0)))) := by decide +kernel
theorem lit_3 (ht : ∀ w ∈ tables_1, w.before args s = true) (hs : ∀ w ∈ xFl, w.before args s = true) (hA : ∀ a : Nat, a < s.heap.size → ¬ A a) : ∃ a, vk_R "NoonGun" 171 "no such deed, or nothing such of it" a s ∧ xSO A s s.heap a [110, 111, 32, 115, 117, 99, 104, 32, 100, 101, 101, 100, 44, 32, 111, 114, 32, 110, 111, 116, 104, 105, 110, 103, 32, 115, 117, 99, 104, 32, 111, 102, 32, 105, 116] :=
  x_lit (ht _ (tb5 130 (by decide +kernel))) (hs _ (List.mem_of_getElem? (i := 99) (by decide +kernel))) (hs _ (List.mem_of_getElem? (i := 100) (by decide +kernel))) (hs _ (List.mem_of_getElem? (i := 101) (by decide +kernel))) (hs _ (List.mem_of_getElem? (i := 102) (by decide +kernel))) (fun j hj => hs _ (List.mem_of_getElem? (i := 103 + j) (el_3 j hj))) (by decide) hA
theorem el_4 : ∀ j : Nat, j < 25 → xFl[145 + j]? = some (Cond.eq (.elem (.field (.string "NoonGun" 408) "java/lang/String" "value" "[B") (.int (Int32.ofNat j))) (.int (Int32.ofInt (([110, 111, 32, 115, 117, 99, 104, 32, 110, 117, 109, 98, 101, 114, 32, 111, 102, 32, 116, 104, 101, 32, 114, 111, 119] : List Int).getD j 0)))) := by decide +kernel
theorem lit_4 (ht : ∀ w ∈ tables_1, w.before args s = true) (hs : ∀ w ∈ xFl, w.before args s = true) (hA : ∀ a : Nat, a < s.heap.size → ¬ A a) : ∃ a, vk_R "NoonGun" 408 "no such number of the row" a s ∧ xSO A s s.heap a [110, 111, 32, 115, 117, 99, 104, 32, 110, 117, 109, 98, 101, 114, 32, 111, 102, 32, 116, 104, 101, 32, 114, 111, 119] :=
  x_lit (ht _ (tb5 138 (by decide +kernel))) (hs _ (List.mem_of_getElem? (i := 141) (by decide +kernel))) (hs _ (List.mem_of_getElem? (i := 142) (by decide +kernel))) (hs _ (List.mem_of_getElem? (i := 143) (by decide +kernel))) (hs _ (List.mem_of_getElem? (i := 144) (by decide +kernel))) (fun j hj => hs _ (List.mem_of_getElem? (i := 145 + j) (el_4 j hj))) (by decide) hA
theorem el_5 : ∀ j : Nat, j < 4 → xFl[178 + j]? = some (Cond.eq (.elem (.field (.string "NoonGunModel" 191) "java/lang/String" "value" "[B") (.int (Int32.ofNat j))) (.int (Int32.ofInt (([97, 98, 99, 100] : List Int).getD j 0)))) := by decide +kernel
theorem lit_5 (ht : ∀ w ∈ tables_1, w.before args s = true) (hs : ∀ w ∈ xFl, w.before args s = true) (hA : ∀ a : Nat, a < s.heap.size → ¬ A a) : ∃ a, vk_R "NoonGunModel" 191 "abcd" a s ∧ xSO A s s.heap a [97, 98, 99, 100] :=
  x_lit (ht _ (tb6 112 (by decide +kernel))) (hs _ (List.mem_of_getElem? (i := 174) (by decide +kernel))) (hs _ (List.mem_of_getElem? (i := 175) (by decide +kernel))) (hs _ (List.mem_of_getElem? (i := 176) (by decide +kernel))) (hs _ (List.mem_of_getElem? (i := 177) (by decide +kernel))) (fun j hj => hs _ (List.mem_of_getElem? (i := 178 + j) (el_5 j hj))) (by decide) hA
theorem lit_6 (ht : ∀ w ∈ tables_1, w.before args s = true) (hs : ∀ w ∈ xFl, w.before args s = true) (hA : ∀ a : Nat, a < s.heap.size → ¬ A a) : ∃ a, vk_R "java/lang/StringLatin1" 151 "" a s ∧ xSO A s s.heap a [] :=
  x_lit (ht _ (tb6 125 (by decide +kernel))) (hs _ (List.mem_of_getElem? (i := 187) (by decide +kernel))) (hs _ (List.mem_of_getElem? (i := 188) (by decide +kernel))) (hs _ (List.mem_of_getElem? (i := 189) (by decide +kernel))) (hs _ (List.mem_of_getElem? (i := 190) (by decide +kernel))) (fun j hj => absurd hj (Nat.not_lt_zero _)) (by decide) hA
theorem el_7 : ∀ j : Nat, j < 7 → xFl[212 + j]? = some (Cond.eq (.elem (.field (.string "NoonGunModel" 244) "java/lang/String" "value" "[B") (.int (Int32.ofNat j))) (.int (Int32.ofInt (([100, 119, 109, 120, 121, 110, 101] : List Int).getD j 0)))) := by decide +kernel
theorem lit_7 (ht : ∀ w ∈ tables_1, w.before args s = true) (hs : ∀ w ∈ xFl, w.before args s = true) (hA : ∀ a : Nat, a < s.heap.size → ¬ A a) : ∃ a, vk_R "NoonGunModel" 244 "dwmxyne" a s ∧ xSO A s s.heap a [100, 119, 109, 120, 121, 110, 101] :=
  x_lit (ht _ (tb7 27 (by decide +kernel))) (hs _ (List.mem_of_getElem? (i := 208) (by decide +kernel))) (hs _ (List.mem_of_getElem? (i := 209) (by decide +kernel))) (hs _ (List.mem_of_getElem? (i := 210) (by decide +kernel))) (hs _ (List.mem_of_getElem? (i := 211) (by decide +kernel))) (fun j hj => hs _ (List.mem_of_getElem? (i := 212 + j) (el_7 j hj))) (by decide) hA
theorem el_8 : ∀ j : Nat, j < 3 → xFl[231 + j]? = some (Cond.eq (.elem (.field (.string "NoonGunModel" 249) "java/lang/String" "value" "[B") (.int (Int32.ofNat j))) (.int (Int32.ofInt (([60, 62, 61] : List Int).getD j 0)))) := by decide +kernel
theorem lit_8 (ht : ∀ w ∈ tables_1, w.before args s = true) (hs : ∀ w ∈ xFl, w.before args s = true) (hA : ∀ a : Nat, a < s.heap.size → ¬ A a) : ∃ a, vk_R "NoonGunModel" 249 "<>=" a s ∧ xSO A s s.heap a [60, 62, 61] :=
  x_lit (ht _ (tb7 28 (by decide +kernel))) (hs _ (List.mem_of_getElem? (i := 227) (by decide +kernel))) (hs _ (List.mem_of_getElem? (i := 228) (by decide +kernel))) (hs _ (List.mem_of_getElem? (i := 229) (by decide +kernel))) (hs _ (List.mem_of_getElem? (i := 230) (by decide +kernel))) (fun j hj => hs _ (List.mem_of_getElem? (i := 231 + j) (el_8 j hj))) (by decide) hA
theorem el_9 : ∀ j : Nat, j < 2 → xFl[247 + j]? = some (Cond.eq (.elem (.field (.string "NoonGunModel" 251) "java/lang/String" "value" "[B") (.int (Int32.ofNat j))) (.int (Int32.ofInt (([43, 45] : List Int).getD j 0)))) := by decide +kernel
theorem lit_9 (ht : ∀ w ∈ tables_1, w.before args s = true) (hs : ∀ w ∈ xFl, w.before args s = true) (hA : ∀ a : Nat, a < s.heap.size → ¬ A a) : ∃ a, vk_R "NoonGunModel" 251 "+-" a s ∧ xSO A s s.heap a [43, 45] :=
  x_lit (ht _ (tb7 29 (by decide +kernel))) (hs _ (List.mem_of_getElem? (i := 243) (by decide +kernel))) (hs _ (List.mem_of_getElem? (i := 244) (by decide +kernel))) (hs _ (List.mem_of_getElem? (i := 245) (by decide +kernel))) (hs _ (List.mem_of_getElem? (i := 246) (by decide +kernel))) (fun j hj => hs _ (List.mem_of_getElem? (i := 247 + j) (el_9 j hj))) (by decide) hA
theorem el_10 : ∀ j : Nat, j < 2 → xFl[263 + j]? = some (Cond.eq (.elem (.field (.string "NoonGunModel" 253) "java/lang/String" "value" "[B") (.int (Int32.ofNat j))) (.int (Int32.ofInt (([42, 47] : List Int).getD j 0)))) := by decide +kernel
theorem lit_10 (ht : ∀ w ∈ tables_1, w.before args s = true) (hs : ∀ w ∈ xFl, w.before args s = true) (hA : ∀ a : Nat, a < s.heap.size → ¬ A a) : ∃ a, vk_R "NoonGunModel" 253 "*/" a s ∧ xSO A s s.heap a [42, 47] :=
  x_lit (ht _ (tb7 30 (by decide +kernel))) (hs _ (List.mem_of_getElem? (i := 259) (by decide +kernel))) (hs _ (List.mem_of_getElem? (i := 260) (by decide +kernel))) (hs _ (List.mem_of_getElem? (i := 261) (by decide +kernel))) (hs _ (List.mem_of_getElem? (i := 262) (by decide +kernel))) (fun j hj => hs _ (List.mem_of_getElem? (i := 263 + j) (el_10 j hj))) (by decide) hA
theorem el_11 : ∀ j : Nat, j < 5 → xFl[280 + j]? = some (Cond.eq (.elem (.field (.string "NoonGunModel" 387) "java/lang/String" "value" "[B") (.int (Int32.ofNat j))) (.int (Int32.ofInt (([110, 98, 103, 108, 109] : List Int).getD j 0)))) := by decide +kernel
theorem lit_11 (ht : ∀ w ∈ tables_1, w.before args s = true) (hs : ∀ w ∈ xFl, w.before args s = true) (hA : ∀ a : Nat, a < s.heap.size → ¬ A a) : ∃ a, vk_R "NoonGunModel" 387 "nbglm" a s ∧ xSO A s s.heap a [110, 98, 103, 108, 109] :=
  x_lit (ht _ (tb7 199 (by decide +kernel))) (hs _ (List.mem_of_getElem? (i := 276) (by decide +kernel))) (hs _ (List.mem_of_getElem? (i := 277) (by decide +kernel))) (hs _ (List.mem_of_getElem? (i := 278) (by decide +kernel))) (hs _ (List.mem_of_getElem? (i := 279) (by decide +kernel))) (fun j hj => hs _ (List.mem_of_getElem? (i := 280 + j) (el_11 j hj))) (by decide) hA
theorem x_lits (ht : ∀ w ∈ tables_1, w.before args s = true) (hs : ∀ w ∈ xFl, w.before args s = true) (hA : ∀ a : Nat, a < s.heap.size → ¬ A a) : ∃ ad : Nat → Nat, ∀ (i : Nat) (q : String × Nat × String × List Int), xLits[i]? = some q → vk_R q.1 q.2.1 q.2.2.1 (ad i) s ∧ xSO A s s.heap (ad i) q.2.2.2 := by
  have h0 : ∀ i : Nat, ∃ a : Nat, ∀ q : String × Nat × String × List Int, xLits[i]? = some q → vk_R q.1 q.2.1 q.2.2.1 a s ∧ xSO A s s.heap a q.2.2.2 := by
    intro i
    match i with
    | 0 => obtain ⟨a, h⟩ := lit_0 (A := A) ht hs hA; exact ⟨a, fun q hq => by cases hq; exact h⟩
    | 1 => obtain ⟨a, h⟩ := lit_1 (A := A) ht hs hA; exact ⟨a, fun q hq => by cases hq; exact h⟩
    | 2 => obtain ⟨a, h⟩ := lit_2 (A := A) ht hs hA; exact ⟨a, fun q hq => by cases hq; exact h⟩
    | 3 => obtain ⟨a, h⟩ := lit_3 (A := A) ht hs hA; exact ⟨a, fun q hq => by cases hq; exact h⟩
    | 4 => obtain ⟨a, h⟩ := lit_4 (A := A) ht hs hA; exact ⟨a, fun q hq => by cases hq; exact h⟩
    | 5 => obtain ⟨a, h⟩ := lit_5 (A := A) ht hs hA; exact ⟨a, fun q hq => by cases hq; exact h⟩
    | 6 => obtain ⟨a, h⟩ := lit_6 (A := A) ht hs hA; exact ⟨a, fun q hq => by cases hq; exact h⟩
    | 7 => obtain ⟨a, h⟩ := lit_7 (A := A) ht hs hA; exact ⟨a, fun q hq => by cases hq; exact h⟩
    | 8 => obtain ⟨a, h⟩ := lit_8 (A := A) ht hs hA; exact ⟨a, fun q hq => by cases hq; exact h⟩
    | 9 => obtain ⟨a, h⟩ := lit_9 (A := A) ht hs hA; exact ⟨a, fun q hq => by cases hq; exact h⟩
    | 10 => obtain ⟨a, h⟩ := lit_10 (A := A) ht hs hA; exact ⟨a, fun q hq => by cases hq; exact h⟩
    | 11 => obtain ⟨a, h⟩ := lit_11 (A := A) ht hs hA; exact ⟨a, fun q hq => by cases hq; exact h⟩
    | n + 12 => exact ⟨0, fun q hq => by simp [xLits] at hq⟩
  obtain ⟨ad, had⟩ := Classical.axiomOfChoice h0
  exact ⟨ad, had⟩
theorem el_F : ∀ j : Nat, j < 7 → xFl[7 + j]? = some (Cond.eq (.elem (.static "NoonGun$Rule" "FIRST" "[I") (.int (Int32.ofNat j))) (.int (Int32.ofInt (xFst.getD j 0)))) := by decide +kernel
theorem x_first (ht : ∀ w ∈ tables_1, w.before args s = true) (hs : ∀ w ∈ xFl, w.before args s = true) (hA : ∀ a : Nat, a < s.heap.size → ¬ A a) : ∃ t, va_Z "NoonGun$Rule" "FIRST" "[I" (.ref t) A s s.heap ∧ va_X t 7 (fun j => Int32.ofInt (xFst.getD j 0)) s s.heap ∧ ¬ A t := by
  have hl : (Term.length (.static "NoonGun$Rule" "FIRST" "[I")).eval args s none [] s = some (.int (Int32.ofNat 7)) := va_eqt (hs _ (List.mem_of_getElem? (i := 6) (by decide +kernel)))
  obtain ⟨t, ht0, hT⟩ := va_Tof (f := fun j => .int (Int32.ofInt (xFst.getD j 0))) (A := A) (ty := .int) (N := 7) (by decide) (hs _ (List.mem_of_getElem? (i := 5) (by decide +kernel))) hl (fun j hj => va_eqt (hs _ (List.mem_of_getElem? (i := 7 + j) (el_F j hj)))) hA
  obtain ⟨cell, c1, c2⟩ := x_size (by decide) hl ht0 hT
  obtain ⟨cell2, t1, t2, t3, t4, t5, t6, t7⟩ := hT
  cases c1.symm.trans t1
  exact ⟨t, va_Zof (ht _ (tb1 92 (by decide +kernel))) (ht _ (tb1 5 (by decide +kernel))) ht0 hA, ⟨cell, t1, t2, t3, c2, t6⟩, t7⟩
end ST
theorem x_tx {args : Array Value} {s : State} (ht : ∀ w ∈ tables_1, w.before args s = true) (hs : ∀ w ∈ xFl, w.before args s = true) (b : Nat) : ∃ tx : Int → Nat, tx 100 = b ∧ ∀ (D : va_G) (ar : Nat → ClassId), xTx (s.heap.size, tx, D, ar) s := by
  have hA : ∀ a : Nat, a < s.heap.size → ¬ (fun q => s.heap.size ≤ q) a := fun a h1 h2 => Nat.not_lt.mpr h2 h1
  obtain ⟨ad, had⟩ := x_lits (A := fun q => s.heap.size ≤ q) ht hs hA
  refine ⟨fun i => if i = 100 then b else ad i.toNat, if_pos rfl, fun D ar => ⟨fun i q hi => ?_, va_Zof (ht _ (tb1 200 (by decide +kernel))) (ht _ (tb1 10 (by decide +kernel))) (va_eqt (hs _ (List.mem_of_getElem? (i := 14) (by decide +kernel)))) hA, x_first ht hs hA, va_Zqof (ht _ (tb3 19 (by decide +kernel))) (ht _ (tb1 16 (by decide +kernel))) (hs _ (List.mem_of_getElem? (i := 15) (by decide +kernel))) hA, va_Zqof (ht _ (tb5 77 (by decide +kernel))) (ht _ (tb1 21 (by decide +kernel))) (hs _ (List.mem_of_getElem? (i := 19) (by decide +kernel))) hA, va_Zqof (ht _ (tb5 79 (by decide +kernel))) (ht _ (tb1 21 (by decide +kernel))) (hs _ (List.mem_of_getElem? (i := 20) (by decide +kernel))) hA⟩⟩
  have hi12 : i < 12 := by
    have := (List.getElem?_eq_some_iff.mp hi).1
    simpa [xLits] using this
  have e : (if ((i : Int)) = 100 then b else ad ((i : Int)).toNat) = ad i := by rw [if_neg (by omega), Int.toNat_natCast]
  show vk_R q.1 q.2.1 q.2.2.1 (if ((i : Int)) = 100 then b else ad ((i : Int)).toNat) s ∧ xSO (fun q => s.heap.size ≤ q) s s.heap (if ((i : Int)) = 100 then b else ad ((i : Int)).toNat) q.2.2.2
  rw [e]
  exact had i q hi
theorem x_arr {args : Array Value} {s : State} {ty : FieldType} (h : (Cond.arrayClass ty).before args s = true) : ∃ cA : ClassId, ArrOfT s cA ty ∧ s.vm.findClass ("[" ++ ty.toString) = some cA := by
  obtain ⟨cA, kA, comp, h1, h2, h3⟩ := Cond.arrayClass_spec h
  exact ⟨cA, fun n z => ⟨fun k h => (by cases h), kA, h2, comp, h3⟩, h1⟩
theorem in_X10 : Cond.instantiable RX10 18 ∈ xTB := x_tb (tb1 27 (by decide +kernel)) rfl
theorem in_X11 : Cond.instantiable RX11 52 ∈ xTB := x_tb (tb5 144 (by decide +kernel)) rfl
theorem x_K {args : Array Value} {s : State} (ht : ∀ w ∈ tables_1, w.before args s = true) (hT : ∀ w ∈ xTB, w.before args s = true) : ∃ (D : va_G) (ar : Nat → ClassId), ∀ (b0 : Nat) (tx : Int → Nat), va_K D xcls (xtys (b0, tx, D, ar)) s := by
  have h0 : ∀ c : Nat, ∃ q : ClassId × (Nat → Nat), ∀ r : vw_C, xcls[c]? = some r → u_Kn s r.1 r.2.1 r.2.2 q.1 q.2 := by
    intro c
    match c with
    | 0 => obtain ⟨cC, iS, h⟩ := u_known (C := RX0) (T := TX0) (N := 2) hT wX0 (hT _ in_X0); exact ⟨(cC, iS), fun r hr => by cases hr; exact h⟩
    | 1 => obtain ⟨cC, iS, h⟩ := u_known (C := RX1) (T := TX1) (N := 2) hT wX1 (hT _ in_X1); exact ⟨(cC, iS), fun r hr => by cases hr; exact h⟩
    | 2 => obtain ⟨cC, iS, h⟩ := u_known (C := RX2) (T := TX2) (N := 2) hT wX2 (hT _ in_X2); exact ⟨(cC, iS), fun r hr => by cases hr; exact h⟩
    | 3 => obtain ⟨cC, iS, h⟩ := u_known (C := RX3) (T := TX3) (N := 3) hT wX3 (hT _ in_X3); exact ⟨(cC, iS), fun r hr => by cases hr; exact h⟩
    | 4 => obtain ⟨cC, iS, h⟩ := u_known (C := RX4) (T := TX4) (N := 8) hT wX4 (hT _ in_X4); exact ⟨(cC, iS), fun r hr => by cases hr; exact h⟩
    | 5 => obtain ⟨cC, iS, h⟩ := u_known (C := RX5) (T := TX5) (N := 6) hT wX5 (hT _ in_X5); exact ⟨(cC, iS), fun r hr => by cases hr; exact h⟩
    | 6 => obtain ⟨cC, iS, h⟩ := u_known (C := RX6) (T := TX6) (N := 2) hT wX6 (hT _ in_X6); exact ⟨(cC, iS), fun r hr => by cases hr; exact h⟩
    | 7 => obtain ⟨cC, iS, h⟩ := u_known (C := RX7) (T := TX7) (N := 8) hT wX7 (hT _ in_X7); exact ⟨(cC, iS), fun r hr => by cases hr; exact h⟩
    | 8 => obtain ⟨cC, iS, h⟩ := u_known (C := RX8) (T := TX8) (N := 2) hT wX8 (hT _ in_X8); exact ⟨(cC, iS), fun r hr => by cases hr; exact h⟩
    | 9 => obtain ⟨cC, iS, h⟩ := u_known (C := RX9) (T := TX9) (N := 9) hT wX9 (hT _ in_X9); exact ⟨(cC, iS), fun r hr => by cases hr; exact h⟩
    | 10 => obtain ⟨cC, iS, h⟩ := u_known (C := RX10) (T := TX10) (N := 18) hT wX10 (hT _ in_X10); exact ⟨(cC, iS), fun r hr => by cases hr; exact h⟩
    | 11 => obtain ⟨cC, iS, h⟩ := u_known (C := RX11) (T := TX11) (N := 52) hT wX11 (hT _ in_X11); exact ⟨(cC, iS), fun r hr => by cases hr; exact h⟩
    | n + 12 => exact ⟨(0, fun _ => 0), fun r hr => by simp [xcls] at hr⟩
  obtain ⟨ad, had⟩ := Classical.axiomOfChoice h0
  obtain ⟨c1, a1, f1⟩ := x_arr (ty := .int) (ht _ (tb1 80 (by decide +kernel)))
  obtain ⟨c2, a2, f2⟩ := x_arr (ty := .long) (ht _ (tb1 66 (by decide +kernel)))
  obtain ⟨c3, a3, f3⟩ := x_arr (ty := .boolean) (ht _ (tb1 209 (by decide +kernel)))
  obtain ⟨c4, a4, f4⟩ := x_arr (ty := .char) (ht _ (tb1 50 (by decide +kernel)))
  obtain ⟨c6, a6, f6⟩ := x_arr (ty := .byte) (ht _ (tb1 210 (by decide +kernel)))
  obtain ⟨comp, c5, k5, p1, p2, p3, p4, p5⟩ := Cond.arrayOver_spec (n := "NoonGun$Town") (ht _ (tb1 171 (by decide +kernel)))
  refine ⟨(fun c => (ad c).1, fun c => (ad c).2), (fun k => match k with | 1 => c1 | 2 => c2 | 3 => c3 | 4 => c4 | 5 => c5 | _ => c6), fun b0 tx => ⟨had, fun k q hk => ?_⟩⟩
  match k with
  | 0 => cases hk; exact ⟨a1, f1⟩
  | 1 => cases hk; exact ⟨a2, f2⟩
  | 2 => cases hk; exact ⟨a3, f3⟩
  | 3 => cases hk; exact ⟨a4, f4⟩
  | 4 => cases hk; exact ⟨fun n z => ⟨fun k h => (by cases h), k5, p3, comp, p4⟩, k5, comp, p3, p4, p1, p5⟩
  | 5 => cases hk; exact ⟨a6, f6⟩
  | n + 6 => simp [xtys] at hk
theorem x_nws {args : Array Value} {s : State} (ht : ∀ w ∈ lw_tbl, w.before args s = true) : ∀ w ∈ xNW, va_Nw w s := by
  intro w hw
  obtain ⟨h1, h2⟩ := List.mem_filter.mp hw
  have h3 := ht w h1
  cases w <;> first | (simp [xnest] at h2; done) | exact h3
theorem x_ao {args : Array Value} {s : State} (ht : ∀ w ∈ tables_1, w.before args s = true) : va_AO "NoonGun$Town" s := va_AO.of (ht _ (tb1 171 (by decide +kernel)))
theorem x_l2 {args : Array Value} {s : State} {tx : Int → Nat} {D : va_G} {ar : Nat → ClassId} (ht : ∀ w ∈ tables_1, w.before args s = true) : xL2 (s.heap.size, tx, D, ar) s :=
  have hA : ∀ a : Nat, a < s.heap.size → ¬ xA (s.heap.size, tx, D, ar) a := fun a h1 h2 => Nat.not_lt.mpr h2 h1
  ⟨⟨xLs.of (ht _ (tb5 77 (by decide +kernel))) hA, xLs.of (ht _ (tb5 79 (by decide +kernel))) hA⟩, va_Nw.of rfl (ht _ (tb5 54 (by decide +kernel))), va_Nw.of rfl (ht _ (tb5 56 (by decide +kernel))), va_Nw.of rfl (ht _ (tb5 58 (by decide +kernel)))⟩
