/-! what the functions F are made of -/
def xgd {α : Type} (g : Prop) [Decidable g] (A : Option α) : Option α := if g then A else none
theorem xgd_e {α : Type} {g : Prop} [Decidable g] {A : Option α} {q : α} (h : xgd g A = some q) : g ∧ A = some q := by
  unfold xgd at h
  split at h
  · exact ⟨by assumption, h⟩
  · cases h
theorem xgd_t {α : Type} {g : Prop} [Decidable g] {A : Option α} (h : g) : xgd g A = A := if_pos h
theorem xif_t {α : Type} {c : Prop} [Decidable c] {A B q : α} (hc : c) (h : (if c then A else B) = q) : A = q := by rwa [if_pos hc] at h
theorem xif_f {α : Type} {c : Prop} [Decidable c] {A B q : α} (hc : ¬ c) (h : (if c then A else B) = q) : B = q := by rwa [if_neg hc] at h
def xbd {α : Type} (o : Option (Int × xW)) (k : Int → xW → Option α) : Option α := match o with
  | none => none
  | some (r, s) => k r s
theorem xbd_e {α : Type} {o : Option (Int × xW)} {k : Int → xW → Option α} {q : α} (h : xbd o k = some q) : ∃ r s, o = some (r, s) ∧ k r s = some q := by
  rcases o with _ | ⟨r, s⟩
  · cases h
  · exact ⟨r, s, rfl, h⟩
theorem xbd_s {α : Type} {r : Int} {s : xW} {k : Int → xW → Option α} : xbd (some (r, s)) k = k r s := rfl
def xbp {α β : Type} (o : Option β) (k : β → Option α) : Option α := match o with
  | none => none
  | some r => k r
theorem xbp_e {α β : Type} {o : Option β} {k : β → Option α} {q : α} (h : xbp o k = some q) : ∃ r, o = some r ∧ k r = some q := by
  rcases o with _ | r
  · cases h
  · exact ⟨r, rfl, h⟩
theorem xbp_s {α β : Type} {r : β} {k : β → Option α} : xbp (some r) k = k r := rfl
def xlt {α β : Type} (a : β) (f : β → α) : α := f a
abbrev xli {α : Type} (a : Int) (f : Int → α) : α := xlt a f
abbrev xls {α : Type} (a : xW) (f : xW → α) : α := xlt a f
theorem xlt_e {α β : Type} {a : β} {f : β → α} {q : α} (h : xlt a f = q) : ∃ v, a = v ∧ f v = q := ⟨a, rfl, h⟩
def xjn {α β : Type} (J : β) (B : β → α) : α := B J
theorem xjn_e {α β : Type} {J : β} {B : β → α} {q : α} (h : xjn J B = q) : ∃ j, j = J ∧ B j = q := ⟨J, rfl, h⟩
theorem xal {P : Int → Prop} {l : List Int} {c : Int} (h : c ∈ l) (hp : ∀ z ∈ l, P z) : P c := hp c h
/-- how often a loop may go round -/
theorem xN_ex : ∃ n : Nat, 1000000 ≤ n := ⟨1000000, Nat.le_refl _⟩
noncomputable def xN : Nat := Classical.choose xN_ex
theorem xN_ge : 1000000 ≤ xN := Classical.choose_spec xN_ex
theorem xN_s : ∃ f : Nat, xN = f + 1 ∧ 999999 ≤ f := ⟨xN - 1, by have := xN_ge; omega, by have := xN_ge; omega⟩
def xwl (a : Int) : Int := (Int64.ofInt a).toInt
theorem I64_xwl (a : Int) : I64 (xwl a) := ⟨Int64.le_toInt _, by have := Int64.toInt_lt (Int64.ofInt a); unfold xwl; omega⟩
theorem xwl_id {a : Int} (h : I64 a) : xwl a = a := w64 h
theorem xwl_xw (a : Int) : xwl (xw a) = xw a := xwl_id (by have := I32_xw a; omega)
theorem xw_xw (a : Int) : xw (xw a) = xw a := xw_id (I32_xw a)
def xab (a : Int) : Int := if a < 0 then -a else a
theorem x_vnc {x : Int} (h : 0 ≤ x ∧ x < 65536) : vp_nar .char (Int32.ofInt x) = Int32.ofInt x := by
  unfold vp_nar
  rw [x_nchar h.1 h.2]
section XD
variable {d bc bs : Nat} {Y : xMD} {pc : Nat} {L S : List xV} {n : Nat} {σ σ1 : xW} {K : List xV → Nat → xW → Prop}
theorem xr_xw {E : xE} (x : Int) : xr E (vI (xw x)) = xr E (vI x) := congrArg Value.int (w32_toInt _)
theorem xr_xwl {E : xE} (x : Int) : xr E (vL (xwl x)) = xr E (vL x) := congrArg Value.long (Int64.ofInt_toInt _)
theorem g_same {S' : List xV} (he : ∀ E, S'.map (xr E) = S.map (xr E)) (k : xG d bc bs Y pc L S' n σ K) : xG d bc bs Y pc L S n σ K := by
  intro E p l e R s m args below meth c mc ms Q F H locs cells slots ls hH hS h1 h2 hl
  have k2 := k E p l e R s m args below meth c mc ms Q F H locs cells slots ls hH hS h1 h2 hl
  rw [he E] at k2
  exact k2
theorem g_wr1 {a a' : Int} (ha : xw a = a') (k : xG d bc bs Y pc L (vI a' :: S) n σ K) : xG d bc bs Y pc L (vI a :: S) n σ K := by
  subst ha
  exact g_same (fun E => by rw [List.map_cons, List.map_cons, xr_xw]) k
theorem g_wr2 {a b a' b' : Int} (ha : xw a = a') (hb : xw b = b') (k : xG d bc bs Y pc L (vI b' :: vI a' :: S) n σ K) : xG d bc bs Y pc L (vI b :: vI a :: S) n σ K := by
  subst ha hb
  exact g_same (fun E => by rw [List.map_cons, List.map_cons, List.map_cons, List.map_cons, xr_xw, xr_xw]) k
theorem g_wl2 {a b a' b' : Int} (ha : xwl a = a') (hb : xwl b = b') (k : xG d bc bs Y pc L (vL b' :: vL a' :: S) n σ K) : xG d bc bs Y pc L (vL b :: vL a :: S) n σ K := by
  subst ha hb
  exact g_same (fun E => by rw [List.map_cons, List.map_cons, List.map_cons, List.map_cons, xr_xwl, xr_xwl]) k
theorem g_vq {v w : Int} (h : v = w) (k : xG d bc bs Y pc L (vI w :: S) n σ K) : xG d bc bs Y pc L (vI v :: S) n σ K := by subst h; exact k
theorem g_vqL {v w : Int} (h : v = w) (k : xG d bc bs Y pc L (vL w :: S) n σ K) : xG d bc bs Y pc L (vL v :: S) n σ K := by subst h; exact k
theorem g_dropL (A : List xV) {a : xV} {t : List xV} (k : xG d bc bs Y pc (A ++ vX :: t) S n σ K) : xG d bc bs Y pc (A ++ a :: t) S n σ K := by
  refine g_loc (fun i v h1 h2 => ?_) k
  rcases Nat.lt_trichotomy i A.length with h | h | h
  · rw [List.getElem?_append_left h] at h1 ⊢
    exact h1
  · subst h
    simp at h1
    subst h1
    exact absurd rfl h2
  · rw [List.getElem?_append_right (by omega)] at h1 ⊢
    obtain ⟨j, hj⟩ : ∃ j, i - A.length = j + 1 := ⟨i - A.length - 1, by omega⟩
    rw [hj] at h1 ⊢
    exact h1
theorem g_drop_0 {a0 : xV} {t : List xV} (k : xG d bc bs Y pc (vX :: t) S n σ K) : xG d bc bs Y pc (a0 :: t) S n σ K := g_dropL [] k
theorem g_drop_1 {a0 a1 : xV} {t : List xV} (k : xG d bc bs Y pc (a0 :: vX :: t) S n σ K) : xG d bc bs Y pc (a0 :: a1 :: t) S n σ K := g_dropL [a0] k
theorem g_drop_2 {a0 a1 a2 : xV} {t : List xV} (k : xG d bc bs Y pc (a0 :: a1 :: vX :: t) S n σ K) : xG d bc bs Y pc (a0 :: a1 :: a2 :: t) S n σ K := g_dropL [a0, a1] k
theorem g_drop_3 {a0 a1 a2 a3 : xV} {t : List xV} (k : xG d bc bs Y pc (a0 :: a1 :: a2 :: vX :: t) S n σ K) : xG d bc bs Y pc (a0 :: a1 :: a2 :: a3 :: t) S n σ K := g_dropL [a0, a1, a2] k
theorem g_drop_4 {a0 a1 a2 a3 a4 : xV} {t : List xV} (k : xG d bc bs Y pc (a0 :: a1 :: a2 :: a3 :: vX :: t) S n σ K) : xG d bc bs Y pc (a0 :: a1 :: a2 :: a3 :: a4 :: t) S n σ K := g_dropL [a0, a1, a2, a3] k
theorem g_drop_5 {a0 a1 a2 a3 a4 a5 : xV} {t : List xV} (k : xG d bc bs Y pc (a0 :: a1 :: a2 :: a3 :: a4 :: vX :: t) S n σ K) : xG d bc bs Y pc (a0 :: a1 :: a2 :: a3 :: a4 :: a5 :: t) S n σ K := g_dropL [a0, a1, a2, a3, a4] k
theorem g_drop_6 {a0 a1 a2 a3 a4 a5 a6 : xV} {t : List xV} (k : xG d bc bs Y pc (a0 :: a1 :: a2 :: a3 :: a4 :: a5 :: vX :: t) S n σ K) : xG d bc bs Y pc (a0 :: a1 :: a2 :: a3 :: a4 :: a5 :: a6 :: t) S n σ K := g_dropL [a0, a1, a2, a3, a4, a5] k
theorem g_drop_7 {a0 a1 a2 a3 a4 a5 a6 a7 : xV} {t : List xV} (k : xG d bc bs Y pc (a0 :: a1 :: a2 :: a3 :: a4 :: a5 :: a6 :: vX :: t) S n σ K) : xG d bc bs Y pc (a0 :: a1 :: a2 :: a3 :: a4 :: a5 :: a6 :: a7 :: t) S n σ K := g_dropL [a0, a1, a2, a3, a4, a5, a6] k
theorem g_drop_8 {a0 a1 a2 a3 a4 a5 a6 a7 a8 : xV} {t : List xV} (k : xG d bc bs Y pc (a0 :: a1 :: a2 :: a3 :: a4 :: a5 :: a6 :: a7 :: vX :: t) S n σ K) : xG d bc bs Y pc (a0 :: a1 :: a2 :: a3 :: a4 :: a5 :: a6 :: a7 :: a8 :: t) S n σ K := g_dropL [a0, a1, a2, a3, a4, a5, a6, a7] k
theorem g_drop_9 {a0 a1 a2 a3 a4 a5 a6 a7 a8 a9 : xV} {t : List xV} (k : xG d bc bs Y pc (a0 :: a1 :: a2 :: a3 :: a4 :: a5 :: a6 :: a7 :: a8 :: vX :: t) S n σ K) : xG d bc bs Y pc (a0 :: a1 :: a2 :: a3 :: a4 :: a5 :: a6 :: a7 :: a8 :: a9 :: t) S n σ K := g_dropL [a0, a1, a2, a3, a4, a5, a6, a7, a8] k
theorem g_drop_10 {a0 a1 a2 a3 a4 a5 a6 a7 a8 a9 a10 : xV} {t : List xV} (k : xG d bc bs Y pc (a0 :: a1 :: a2 :: a3 :: a4 :: a5 :: a6 :: a7 :: a8 :: a9 :: vX :: t) S n σ K) : xG d bc bs Y pc (a0 :: a1 :: a2 :: a3 :: a4 :: a5 :: a6 :: a7 :: a8 :: a9 :: a10 :: t) S n σ K := g_dropL [a0, a1, a2, a3, a4, a5, a6, a7, a8, a9] k
theorem g_drop_11 {a0 a1 a2 a3 a4 a5 a6 a7 a8 a9 a10 a11 : xV} {t : List xV} (k : xG d bc bs Y pc (a0 :: a1 :: a2 :: a3 :: a4 :: a5 :: a6 :: a7 :: a8 :: a9 :: a10 :: vX :: t) S n σ K) : xG d bc bs Y pc (a0 :: a1 :: a2 :: a3 :: a4 :: a5 :: a6 :: a7 :: a8 :: a9 :: a10 :: a11 :: t) S n σ K := g_dropL [a0, a1, a2, a3, a4, a5, a6, a7, a8, a9, a10] k
theorem g_drop_12 {a0 a1 a2 a3 a4 a5 a6 a7 a8 a9 a10 a11 a12 : xV} {t : List xV} (k : xG d bc bs Y pc (a0 :: a1 :: a2 :: a3 :: a4 :: a5 :: a6 :: a7 :: a8 :: a9 :: a10 :: a11 :: vX :: t) S n σ K) : xG d bc bs Y pc (a0 :: a1 :: a2 :: a3 :: a4 :: a5 :: a6 :: a7 :: a8 :: a9 :: a10 :: a11 :: a12 :: t) S n σ K := g_dropL [a0, a1, a2, a3, a4, a5, a6, a7, a8, a9, a10, a11] k
theorem g_drop_13 {a0 a1 a2 a3 a4 a5 a6 a7 a8 a9 a10 a11 a12 a13 : xV} {t : List xV} (k : xG d bc bs Y pc (a0 :: a1 :: a2 :: a3 :: a4 :: a5 :: a6 :: a7 :: a8 :: a9 :: a10 :: a11 :: a12 :: vX :: t) S n σ K) : xG d bc bs Y pc (a0 :: a1 :: a2 :: a3 :: a4 :: a5 :: a6 :: a7 :: a8 :: a9 :: a10 :: a11 :: a12 :: a13 :: t) S n σ K := g_dropL [a0, a1, a2, a3, a4, a5, a6, a7, a8, a9, a10, a11, a12] k
theorem g_drop_14 {a0 a1 a2 a3 a4 a5 a6 a7 a8 a9 a10 a11 a12 a13 a14 : xV} {t : List xV} (k : xG d bc bs Y pc (a0 :: a1 :: a2 :: a3 :: a4 :: a5 :: a6 :: a7 :: a8 :: a9 :: a10 :: a11 :: a12 :: a13 :: vX :: t) S n σ K) : xG d bc bs Y pc (a0 :: a1 :: a2 :: a3 :: a4 :: a5 :: a6 :: a7 :: a8 :: a9 :: a10 :: a11 :: a12 :: a13 :: a14 :: t) S n σ K := g_dropL [a0, a1, a2, a3, a4, a5, a6, a7, a8, a9, a10, a11, a12, a13] k
theorem g_drop_15 {a0 a1 a2 a3 a4 a5 a6 a7 a8 a9 a10 a11 a12 a13 a14 a15 : xV} {t : List xV} (k : xG d bc bs Y pc (a0 :: a1 :: a2 :: a3 :: a4 :: a5 :: a6 :: a7 :: a8 :: a9 :: a10 :: a11 :: a12 :: a13 :: a14 :: vX :: t) S n σ K) : xG d bc bs Y pc (a0 :: a1 :: a2 :: a3 :: a4 :: a5 :: a6 :: a7 :: a8 :: a9 :: a10 :: a11 :: a12 :: a13 :: a14 :: a15 :: t) S n σ K := g_dropL [a0, a1, a2, a3, a4, a5, a6, a7, a8, a9, a10, a11, a12, a13, a14] k
theorem g_wge {a b a' b' : Int} {off : Int} {tgt : Nat} (hd : decode Y.2.1 pc = .ok (.if_icmp .ge off, 3)) (ht : (pc : Int) + off = (tgt : Int)) (ha : xw a = a') (hb : xw b = b') (kt : ¬ (a' < b') → xG d bc bs Y tgt L S n σ K) (kf : a' < b' → xG d bc bs Y (pc + 3) L S n σ K) : xG d bc bs Y pc L (vI b :: vI a :: S) n σ K :=
  g_wr2 ha hb (g_cge hd ht (by rw [← ha]; exact I32_xw a) (by rw [← hb]; exact I32_xw b) (fun h => kt (by omega)) (fun h => kf (by omega)))
theorem g_yge {a a' : Int} {off : Int} {tgt : Nat} (hd : decode Y.2.1 pc = .ok (.ifCond .ge off, 3)) (ht : (pc : Int) + off = (tgt : Int)) (ha : xw a = a') (kt : ¬ (a' < 0) → xG d bc bs Y tgt L S n σ K) (kf : a' < 0 → xG d bc bs Y (pc + 3) L S n σ K) : xG d bc bs Y pc L (vI a :: S) n σ K :=
  g_wr1 ha (g_zge hd ht (by rw [← ha]; exact I32_xw a) (fun h => kt (by omega)) (fun h => kf (by omega)))
theorem g_vge {a b a' b' : Int} {off : Int} {tgt : Nat} (hd : decode Y.2.1 pc = .ok (.lcmp, 1)) (hd2 : decode Y.2.1 (pc + 1) = .ok (.ifCond .ge off, 3)) (ht : ((pc + 1 : Nat) : Int) + off = (tgt : Int)) (ha : xwl a = a') (hb : xwl b = b') (kt : ¬ (a' < b') → xG d bc bs Y tgt L S n σ K) (kf : a' < b' → xG d bc bs Y (pc + 1 + 3) L S n σ K) : xG d bc bs Y pc L (vL b :: vL a :: S) n σ K := by
  have hx : (xcmp a' b' = -1 ∧ a' < b') ∨ (xcmp a' b' = 0 ∧ a' = b') ∨ (xcmp a' b' = 1 ∧ b' < a') := by
    unfold xcmp
    split
    · exact Or.inl ⟨rfl, by assumption⟩
    · split
      · exact Or.inr (Or.inl ⟨rfl, by assumption⟩)
      · exact Or.inr (Or.inr ⟨rfl, by omega⟩)
  refine g_wl2 ha hb (g_lcmp hd (by rw [← ha]; exact I64_xwl a) (by rw [← hb]; exact I64_xwl b) ?_)
  exact g_zge hd2 ht (by omega) (fun h => kt (by omega)) (fun h => kf (by omega))
theorem g_wlt {a b a' b' : Int} {off : Int} {tgt : Nat} (hd : decode Y.2.1 pc = .ok (.if_icmp .lt off, 3)) (ht : (pc : Int) + off = (tgt : Int)) (ha : xw a = a') (hb : xw b = b') (kt : ¬ (b' ≤ a') → xG d bc bs Y tgt L S n σ K) (kf : b' ≤ a' → xG d bc bs Y (pc + 3) L S n σ K) : xG d bc bs Y pc L (vI b :: vI a :: S) n σ K :=
  g_wr2 ha hb (g_clt hd ht (by rw [← ha]; exact I32_xw a) (by rw [← hb]; exact I32_xw b) (fun h => kt (by omega)) (fun h => kf (by omega)))
theorem g_ylt {a a' : Int} {off : Int} {tgt : Nat} (hd : decode Y.2.1 pc = .ok (.ifCond .lt off, 3)) (ht : (pc : Int) + off = (tgt : Int)) (ha : xw a = a') (kt : ¬ (0 ≤ a') → xG d bc bs Y tgt L S n σ K) (kf : 0 ≤ a' → xG d bc bs Y (pc + 3) L S n σ K) : xG d bc bs Y pc L (vI a :: S) n σ K :=
  g_wr1 ha (g_zlt hd ht (by rw [← ha]; exact I32_xw a) (fun h => kt (by omega)) (fun h => kf (by omega)))
theorem g_vlt {a b a' b' : Int} {off : Int} {tgt : Nat} (hd : decode Y.2.1 pc = .ok (.lcmp, 1)) (hd2 : decode Y.2.1 (pc + 1) = .ok (.ifCond .lt off, 3)) (ht : ((pc + 1 : Nat) : Int) + off = (tgt : Int)) (ha : xwl a = a') (hb : xwl b = b') (kt : ¬ (b' ≤ a') → xG d bc bs Y tgt L S n σ K) (kf : b' ≤ a' → xG d bc bs Y (pc + 1 + 3) L S n σ K) : xG d bc bs Y pc L (vL b :: vL a :: S) n σ K := by
  have hx : (xcmp a' b' = -1 ∧ a' < b') ∨ (xcmp a' b' = 0 ∧ a' = b') ∨ (xcmp a' b' = 1 ∧ b' < a') := by
    unfold xcmp
    split
    · exact Or.inl ⟨rfl, by assumption⟩
    · split
      · exact Or.inr (Or.inl ⟨rfl, by assumption⟩)
      · exact Or.inr (Or.inr ⟨rfl, by omega⟩)
  refine g_wl2 ha hb (g_lcmp hd (by rw [← ha]; exact I64_xwl a) (by rw [← hb]; exact I64_xwl b) ?_)
  exact g_zlt hd2 ht (by omega) (fun h => kt (by omega)) (fun h => kf (by omega))
theorem g_wgt {a b a' b' : Int} {off : Int} {tgt : Nat} (hd : decode Y.2.1 pc = .ok (.if_icmp .gt off, 3)) (ht : (pc : Int) + off = (tgt : Int)) (ha : xw a = a') (hb : xw b = b') (kt : ¬ (a' ≤ b') → xG d bc bs Y tgt L S n σ K) (kf : a' ≤ b' → xG d bc bs Y (pc + 3) L S n σ K) : xG d bc bs Y pc L (vI b :: vI a :: S) n σ K :=
  g_wr2 ha hb (g_cgt hd ht (by rw [← ha]; exact I32_xw a) (by rw [← hb]; exact I32_xw b) (fun h => kt (by omega)) (fun h => kf (by omega)))
theorem g_ygt {a a' : Int} {off : Int} {tgt : Nat} (hd : decode Y.2.1 pc = .ok (.ifCond .gt off, 3)) (ht : (pc : Int) + off = (tgt : Int)) (ha : xw a = a') (kt : ¬ (a' ≤ 0) → xG d bc bs Y tgt L S n σ K) (kf : a' ≤ 0 → xG d bc bs Y (pc + 3) L S n σ K) : xG d bc bs Y pc L (vI a :: S) n σ K :=
  g_wr1 ha (g_zgt hd ht (by rw [← ha]; exact I32_xw a) (fun h => kt (by omega)) (fun h => kf (by omega)))
theorem g_vgt {a b a' b' : Int} {off : Int} {tgt : Nat} (hd : decode Y.2.1 pc = .ok (.lcmp, 1)) (hd2 : decode Y.2.1 (pc + 1) = .ok (.ifCond .gt off, 3)) (ht : ((pc + 1 : Nat) : Int) + off = (tgt : Int)) (ha : xwl a = a') (hb : xwl b = b') (kt : ¬ (a' ≤ b') → xG d bc bs Y tgt L S n σ K) (kf : a' ≤ b' → xG d bc bs Y (pc + 1 + 3) L S n σ K) : xG d bc bs Y pc L (vL b :: vL a :: S) n σ K := by
  have hx : (xcmp a' b' = -1 ∧ a' < b') ∨ (xcmp a' b' = 0 ∧ a' = b') ∨ (xcmp a' b' = 1 ∧ b' < a') := by
    unfold xcmp
    split
    · exact Or.inl ⟨rfl, by assumption⟩
    · split
      · exact Or.inr (Or.inl ⟨rfl, by assumption⟩)
      · exact Or.inr (Or.inr ⟨rfl, by omega⟩)
  refine g_wl2 ha hb (g_lcmp hd (by rw [← ha]; exact I64_xwl a) (by rw [← hb]; exact I64_xwl b) ?_)
  exact g_zgt hd2 ht (by omega) (fun h => kt (by omega)) (fun h => kf (by omega))
theorem g_wle {a b a' b' : Int} {off : Int} {tgt : Nat} (hd : decode Y.2.1 pc = .ok (.if_icmp .le off, 3)) (ht : (pc : Int) + off = (tgt : Int)) (ha : xw a = a') (hb : xw b = b') (kt : ¬ (b' < a') → xG d bc bs Y tgt L S n σ K) (kf : b' < a' → xG d bc bs Y (pc + 3) L S n σ K) : xG d bc bs Y pc L (vI b :: vI a :: S) n σ K :=
  g_wr2 ha hb (g_cle hd ht (by rw [← ha]; exact I32_xw a) (by rw [← hb]; exact I32_xw b) (fun h => kt (by omega)) (fun h => kf (by omega)))
theorem g_yle {a a' : Int} {off : Int} {tgt : Nat} (hd : decode Y.2.1 pc = .ok (.ifCond .le off, 3)) (ht : (pc : Int) + off = (tgt : Int)) (ha : xw a = a') (kt : ¬ (0 < a') → xG d bc bs Y tgt L S n σ K) (kf : 0 < a' → xG d bc bs Y (pc + 3) L S n σ K) : xG d bc bs Y pc L (vI a :: S) n σ K :=
  g_wr1 ha (g_zle hd ht (by rw [← ha]; exact I32_xw a) (fun h => kt (by omega)) (fun h => kf (by omega)))
theorem g_vle {a b a' b' : Int} {off : Int} {tgt : Nat} (hd : decode Y.2.1 pc = .ok (.lcmp, 1)) (hd2 : decode Y.2.1 (pc + 1) = .ok (.ifCond .le off, 3)) (ht : ((pc + 1 : Nat) : Int) + off = (tgt : Int)) (ha : xwl a = a') (hb : xwl b = b') (kt : ¬ (b' < a') → xG d bc bs Y tgt L S n σ K) (kf : b' < a' → xG d bc bs Y (pc + 1 + 3) L S n σ K) : xG d bc bs Y pc L (vL b :: vL a :: S) n σ K := by
  have hx : (xcmp a' b' = -1 ∧ a' < b') ∨ (xcmp a' b' = 0 ∧ a' = b') ∨ (xcmp a' b' = 1 ∧ b' < a') := by
    unfold xcmp
    split
    · exact Or.inl ⟨rfl, by assumption⟩
    · split
      · exact Or.inr (Or.inl ⟨rfl, by assumption⟩)
      · exact Or.inr (Or.inr ⟨rfl, by omega⟩)
  refine g_wl2 ha hb (g_lcmp hd (by rw [← ha]; exact I64_xwl a) (by rw [← hb]; exact I64_xwl b) ?_)
  exact g_zle hd2 ht (by omega) (fun h => kt (by omega)) (fun h => kf (by omega))
theorem g_weq {a b a' b' : Int} {off : Int} {tgt : Nat} (hd : decode Y.2.1 pc = .ok (.if_icmp .eq off, 3)) (ht : (pc : Int) + off = (tgt : Int)) (ha : xw a = a') (hb : xw b = b') (kt : ¬ (a' ≠ b') → xG d bc bs Y tgt L S n σ K) (kf : a' ≠ b' → xG d bc bs Y (pc + 3) L S n σ K) : xG d bc bs Y pc L (vI b :: vI a :: S) n σ K :=
  g_wr2 ha hb (g_ceq hd ht (by rw [← ha]; exact I32_xw a) (by rw [← hb]; exact I32_xw b) (fun h => kt (by omega)) (fun h => kf (by omega)))
theorem g_yeq {a a' : Int} {off : Int} {tgt : Nat} (hd : decode Y.2.1 pc = .ok (.ifCond .eq off, 3)) (ht : (pc : Int) + off = (tgt : Int)) (ha : xw a = a') (kt : ¬ (a' ≠ 0) → xG d bc bs Y tgt L S n σ K) (kf : a' ≠ 0 → xG d bc bs Y (pc + 3) L S n σ K) : xG d bc bs Y pc L (vI a :: S) n σ K :=
  g_wr1 ha (g_zeq hd ht (by rw [← ha]; exact I32_xw a) (fun h => kt (by omega)) (fun h => kf (by omega)))
theorem g_veq {a b a' b' : Int} {off : Int} {tgt : Nat} (hd : decode Y.2.1 pc = .ok (.lcmp, 1)) (hd2 : decode Y.2.1 (pc + 1) = .ok (.ifCond .eq off, 3)) (ht : ((pc + 1 : Nat) : Int) + off = (tgt : Int)) (ha : xwl a = a') (hb : xwl b = b') (kt : ¬ (a' ≠ b') → xG d bc bs Y tgt L S n σ K) (kf : a' ≠ b' → xG d bc bs Y (pc + 1 + 3) L S n σ K) : xG d bc bs Y pc L (vL b :: vL a :: S) n σ K := by
  have hx : (xcmp a' b' = -1 ∧ a' < b') ∨ (xcmp a' b' = 0 ∧ a' = b') ∨ (xcmp a' b' = 1 ∧ b' < a') := by
    unfold xcmp
    split
    · exact Or.inl ⟨rfl, by assumption⟩
    · split
      · exact Or.inr (Or.inl ⟨rfl, by assumption⟩)
      · exact Or.inr (Or.inr ⟨rfl, by omega⟩)
  refine g_wl2 ha hb (g_lcmp hd (by rw [← ha]; exact I64_xwl a) (by rw [← hb]; exact I64_xwl b) ?_)
  exact g_zeq hd2 ht (by omega) (fun h => kt (by omega)) (fun h => kf (by omega))
theorem g_wne {a b a' b' : Int} {off : Int} {tgt : Nat} (hd : decode Y.2.1 pc = .ok (.if_icmp .ne off, 3)) (ht : (pc : Int) + off = (tgt : Int)) (ha : xw a = a') (hb : xw b = b') (kt : ¬ (a' = b') → xG d bc bs Y tgt L S n σ K) (kf : a' = b' → xG d bc bs Y (pc + 3) L S n σ K) : xG d bc bs Y pc L (vI b :: vI a :: S) n σ K :=
  g_wr2 ha hb (g_cne hd ht (by rw [← ha]; exact I32_xw a) (by rw [← hb]; exact I32_xw b) (fun h => kt (by omega)) (fun h => kf (by omega)))
theorem g_yne {a a' : Int} {off : Int} {tgt : Nat} (hd : decode Y.2.1 pc = .ok (.ifCond .ne off, 3)) (ht : (pc : Int) + off = (tgt : Int)) (ha : xw a = a') (kt : ¬ (a' = 0) → xG d bc bs Y tgt L S n σ K) (kf : a' = 0 → xG d bc bs Y (pc + 3) L S n σ K) : xG d bc bs Y pc L (vI a :: S) n σ K :=
  g_wr1 ha (g_zne hd ht (by rw [← ha]; exact I32_xw a) (fun h => kt (by omega)) (fun h => kf (by omega)))
theorem g_vne {a b a' b' : Int} {off : Int} {tgt : Nat} (hd : decode Y.2.1 pc = .ok (.lcmp, 1)) (hd2 : decode Y.2.1 (pc + 1) = .ok (.ifCond .ne off, 3)) (ht : ((pc + 1 : Nat) : Int) + off = (tgt : Int)) (ha : xwl a = a') (hb : xwl b = b') (kt : ¬ (a' = b') → xG d bc bs Y tgt L S n σ K) (kf : a' = b' → xG d bc bs Y (pc + 1 + 3) L S n σ K) : xG d bc bs Y pc L (vL b :: vL a :: S) n σ K := by
  have hx : (xcmp a' b' = -1 ∧ a' < b') ∨ (xcmp a' b' = 0 ∧ a' = b') ∨ (xcmp a' b' = 1 ∧ b' < a') := by
    unfold xcmp
    split
    · exact Or.inl ⟨rfl, by assumption⟩
    · split
      · exact Or.inr (Or.inl ⟨rfl, by assumption⟩)
      · exact Or.inr (Or.inr ⟨rfl, by omega⟩)
  refine g_wl2 ha hb (g_lcmp hd (by rw [← ha]; exact I64_xwl a) (by rw [← hb]; exact I64_xwl b) ?_)
  exact g_zne hd2 ht (by omega) (fun h => kt (by omega)) (fun h => kf (by omega))
theorem g_wdiv {a b a' b' : Int} (hd : decode Y.2.1 pc = .ok (.idiv, 1)) (ha : xw a = a') (hb : xw b = b') (h0 : b' ≠ 0) (k : xG d bc bs Y (pc + 1) L (vI (a'.tdiv b') :: S) n σ K) : xG d bc bs Y pc L (vI b :: vI a :: S) n σ K :=
  g_wr2 ha hb (g_idiv hd (by rw [← ha]; exact I32_xw a) (by rw [← hb]; exact I32_xw b) h0 k)
theorem g_wrem {a b a' b' : Int} (hd : decode Y.2.1 pc = .ok (.irem, 1)) (ha : xw a = a') (hb : xw b = b') (h0 : b' ≠ 0) (k : xG d bc bs Y (pc + 1) L (vI (a'.tmod b') :: S) n σ K) : xG d bc bs Y pc L (vI b :: vI a :: S) n σ K :=
  g_wr2 ha hb (g_irem hd (by rw [← ha]; exact I32_xw a) (by rw [← hb]; exact I32_xw b) h0 k)
theorem g_wldiv {a b a' b' : Int} (hd : decode Y.2.1 pc = .ok (.ldiv, 1)) (ha : xwl a = a') (hb : xwl b = b') (h0 : b' ≠ 0) (k : xG d bc bs Y (pc + 1) L (vL (a'.tdiv b') :: S) n σ K) : xG d bc bs Y pc L (vL b :: vL a :: S) n σ K :=
  g_wl2 ha hb (g_ldiv hd (by rw [← ha]; exact I64_xwl a) (by rw [← hb]; exact I64_xwl b) h0 k)
theorem g_wlrem {a b a' b' : Int} (hd : decode Y.2.1 pc = .ok (.lrem, 1)) (ha : xwl a = a') (hb : xwl b = b') (h0 : b' ≠ 0) (k : xG d bc bs Y (pc + 1) L (vL (a'.tmod b') :: S) n σ K) : xG d bc bs Y pc L (vL b :: vL a :: S) n σ K :=
  g_wl2 ha hb (g_lrem hd (by rw [← ha]; exact I64_xwl a) (by rw [← hb]; exact I64_xwl b) h0 k)
theorem g_wi2l {a a' : Int} (hd : decode Y.2.1 pc = .ok (.i2l, 1)) (ha : xw a = a') (k : xG d bc bs Y (pc + 1) L (vL a' :: S) n σ K) : xG d bc bs Y pc L (vI a :: S) n σ K :=
  g_wr1 ha (g_i2l hd (by rw [← ha]; exact I32_xw a) k)
theorem g_wmax {a b a' b' : Int} {i : Nat} (hd : decode Y.2.1 pc = .ok (.invokestatic i, 3)) (hm : Cond.methodLink Y.1.cls i Lib.Math.max.name ∈ xTB) (ha : xw a = a') (hb : xw b = b') (hdd : 1 ≤ d) (hrest : decide ((S.map (fun v => if v.1 = 1 then 2 else 1)).sum ≤ 8) = true) (k : xG d bc bs Y (pc + 3) L (vI (max a' b') :: S) n σ K) : xG d bc bs Y pc L (vI b :: vI a :: S) n σ K :=
  g_wr2 ha hb (g_max hd hm (by rw [← ha]; exact I32_xw a) (by rw [← hb]; exact I32_xw b) hdd hrest k)
theorem g_wmin {a b a' b' : Int} {i : Nat} (hd : decode Y.2.1 pc = .ok (.invokestatic i, 3)) (hm : Cond.methodLink Y.1.cls i Lib.Math.min.name ∈ xTB) (ha : xw a = a') (hb : xw b = b') (hdd : 1 ≤ d) (hrest : decide ((S.map (fun v => if v.1 = 1 then 2 else 1)).sum ≤ 8) = true) (k : xG d bc bs Y (pc + 3) L (vI (min a' b') :: S) n σ K) : xG d bc bs Y pc L (vI b :: vI a :: S) n σ K :=
  g_wr2 ha hb (g_min hd hm (by rw [← ha]; exact I32_xw a) (by rw [← hb]; exact I32_xw b) hdd hrest k)
theorem g_wabs {a a' : Int} {i : Nat} (hd : decode Y.2.1 pc = .ok (.invokestatic i, 3)) (hm : Cond.methodLink Y.1.cls i Lib.Math.abs.name ∈ xTB) (ha : xw a = a') (hdd : 1 ≤ d) (hrest : decide ((S.map (fun v => if v.1 = 1 then 2 else 1)).sum ≤ 8) = true) (k : xG d bc bs Y (pc + 3) L (vI (xab a') :: S) n σ K) : xG d bc bs Y pc L (vI a :: S) n σ K :=
  g_wr1 ha (g_abs hd hm (by rw [← ha]; exact I32_xw a) hdd hrest k)
theorem g_wtK {dflt lo hi : Int} {offs : Array Int} {len : Nat} {a v off : Int} {tgt : Nat} (hd : decode Y.2.1 pc = .ok (.tableswitch dflt lo hi offs, len)) (hv : xw a = v) (h : (decide (lo ≤ v) && decide (v ≤ hi)) = true) (ho : offs[(v - lo).toNat]? = some off) (ht : (pc : Int) + off = (tgt : Int)) (k : xG d bc bs Y tgt L S n σ K) : xG d bc bs Y pc L (vI a :: S) n σ K := by
  simp only [Bool.and_eq_true, decide_eq_true_eq] at h
  exact g_wr1 hv (g_tsI hd (by rw [← hv]; exact I32_xw a) h.1 h.2 ho ht k)
theorem g_wtO {dflt lo hi : Int} {offs : Array Int} {len : Nat} {a v : Int} {tgt : Nat} (hd : decode Y.2.1 pc = .ok (.tableswitch dflt lo hi offs, len)) (hv : xw a = v) (h : v < lo ∨ hi < v) (ht : (pc : Int) + dflt = (tgt : Int)) (k : xG d bc bs Y tgt L S n σ K) : xG d bc bs Y pc L (vI a :: S) n σ K :=
  g_wr1 hv (g_tsO hd (by rw [← hv]; exact I32_xw a) h ht k)
theorem g_wlK {dflt : Int} {ps : Array (Int × Int)} {len : Nat} {a v off : Int} {tgt : Nat} (hd : decode Y.2.1 pc = .ok (.lookupswitch dflt ps, len)) (hv : xw a = v) (hp : (ps.toList.zip (ps.toList.drop 1)).all (fun (a, next) => a.1 < next.1) = true) (ho : Op.lookupswitch.offset ps.toList dflt v = off) (ht : (pc : Int) + off = (tgt : Int)) (k : xG d bc bs Y tgt L S n σ K) : xG d bc bs Y pc L (vI a :: S) n σ K :=
  g_wr1 hv (g_ls hd (by rw [← hv]; exact I32_xw a) hp ho ht k)
/-! returns -/
theorem g_rI {x : Int} {q : Int × xW} (hr : Y.2.2.2 = some .int) (hd : decode Y.2.1 pc = .ok (.ireturn, 1)) (h : some (x, σ) = some q) : xG d bc bs Y pc L [vI x] 155 σ (xRv (vI q.1) q.2) := by cases h; exact g_retI hr hd ⟨rfl, rfl, rfl⟩
theorem g_rZ {x : Int} {q : Int × xW} (hr : Y.2.2.2 = some .boolean) (hd : decode Y.2.1 pc = .ok (.ireturn, 1)) (hx : x = 0 ∨ x = 1) (h : some (x, σ) = some q) : xG d bc bs Y pc L [vI x] 155 σ (xRv (vI q.1) q.2) := by cases h; exact g_retZ hr hd hx ⟨rfl, rfl, rfl⟩
theorem g_rC {x : Int} {q : Int × xW} (hr : Y.2.2.2 = some .char) (hd : decode Y.2.1 pc = .ok (.ireturn, 1)) (hx : 0 ≤ x ∧ x < 65536) (h : some (x, σ) = some q) : xG d bc bs Y pc L [vI x] 155 σ (xRv (vI q.1) q.2) := by cases h; exact g_retC hr hd hx ⟨rfl, rfl, rfl⟩
theorem g_rL {x : Int} {q : Int × xW} (hr : Y.2.2.2 = some .long) (hd : decode Y.2.1 pc = .ok (.lreturn, 1)) (h : some (x, σ) = some q) : xG d bc bs Y pc L [vL x] 155 σ (xRv (vL q.1) q.2) := by cases h; exact g_retL hr hd ⟨rfl, rfl, rfl⟩
theorem g_rV {q : xW} (hr : Y.2.2.2 = none) (hd : decode Y.2.1 pc = .ok (.return_, 1)) (h : some σ = some q) : xG d bc bs Y pc L [] 155 σ (xR0 q) := by cases h; exact g_retV hr hd ⟨rfl, rfl, rfl⟩
theorem g_pI {x q : Int} (hr : Y.2.2.2 = some .int) (hd : decode Y.2.1 pc = .ok (.ireturn, 1)) (h : some x = some q) : xG d bc bs Y pc L [vI x] 155 σ (xRv (vI q) σ) := by cases h; exact g_retI hr hd ⟨rfl, rfl, rfl⟩
theorem g_pZ {x q : Int} (hr : Y.2.2.2 = some .boolean) (hd : decode Y.2.1 pc = .ok (.ireturn, 1)) (hx : x = 0 ∨ x = 1) (h : some x = some q) : xG d bc bs Y pc L [vI x] 155 σ (xRv (vI q) σ) := by cases h; exact g_retZ hr hd hx ⟨rfl, rfl, rfl⟩
theorem g_pC {x q : Int} (hr : Y.2.2.2 = some .char) (hd : decode Y.2.1 pc = .ok (.ireturn, 1)) (hx : 0 ≤ x ∧ x < 65536) (h : some x = some q) : xG d bc bs Y pc L [vI x] 155 σ (xRv (vI q) σ) := by cases h; exact g_retC hr hd hx ⟨rfl, rfl, rfl⟩
theorem g_pL {x q : Int} (hr : Y.2.2.2 = some .long) (hd : decode Y.2.1 pc = .ok (.lreturn, 1)) (h : some x = some q) : xG d bc bs Y pc L [vL x] 155 σ (xRv (vL q) σ) := by cases h; exact g_retL hr hd ⟨rfl, rfl, rfl⟩
/-! writes, the new world named -/
theorem h_putI {c x : Int} {i ci k : Nat} (ki : Int) (hd : decode Y.2.1 pc = .ok (.putfield i, 3)) (hf : xFL Y.1.cls i ci k false .int) (hs : xis 155 c ci k 0 = true) (hk : (k : Int) = ki) (he : xu σ c ki x = σ1) (kk : xG d bc bs Y (pc + 3) L S 155 σ1 K) : xG d bc bs Y pc L (vI x :: vR c :: S) 155 σ K := by subst he; exact g_putI ki hd hf hs hk kk
theorem h_putZ {c x : Int} {i ci k : Nat} (ki : Int) (hd : decode Y.2.1 pc = .ok (.putfield i, 3)) (hf : xFL Y.1.cls i ci k false .boolean) (hs : xis 155 c ci k 3 = true) (hx : x = 0 ∨ x = 1) (hk : (k : Int) = ki) (he : xu σ c ki x = σ1) (kk : xG d bc bs Y (pc + 3) L S 155 σ1 K) : xG d bc bs Y pc L (vI x :: vR c :: S) 155 σ K := by subst he; exact g_putZ ki hd hf hs hx hk kk
theorem h_putR {c x : Int} {i ci k : Nat} (ki : Int) {C : String} (hd : decode Y.2.1 pc = .ok (.putfield i, 3)) (hf : xFL Y.1.cls i ci k false (.object C)) (hs : xis 155 c ci k 2 = true) (hx : 0 ≤ x) (hk : (k : Int) = ki) (he : xu σ c ki x = σ1) (kk : xG d bc bs Y (pc + 3) L S 155 σ1 K) : xG d bc bs Y pc L (vR x :: vR c :: S) 155 σ K := by subst he; exact g_putR ki hd hf hs hx hk kk
theorem h_iast {a j x : Int} (len : Nat) (hd : decode Y.2.1 pc = .ok (.iastore, 1)) (hs : xia 155 a 1 len = true) (hj : 0 ≤ j ∧ j < len) (hlen : len ≤ 2147483647) (he : xu σ a j x = σ1) (kk : xG d bc bs Y (pc + 1) L S 155 σ1 K) : xG d bc bs Y pc L (vI x :: vI j :: vR a :: S) 155 σ K := by subst he; exact g_iast len hd hs hj hlen kk
theorem h_cast {a j x : Int} (len : Nat) (hd : decode Y.2.1 pc = .ok (.castore, 1)) (hs : xia 155 a 4 len = true) (hj : 0 ≤ j ∧ j < len) (hlen : len ≤ 2147483647) (hx : 0 ≤ x ∧ x < 65536) (he : xu σ a j x = σ1) (kk : xG d bc bs Y (pc + 1) L S 155 σ1 K) : xG d bc bs Y pc L (vI x :: vI j :: vR a :: S) 155 σ K := by subst he; exact g_cast len hd hs hj hlen (x_vnc hx) kk
theorem h_zast {a j x : Int} (len : Nat) (hd : decode Y.2.1 pc = .ok (.bastore, 1)) (hs : xia 155 a 3 len = true) (hj : 0 ≤ j ∧ j < len) (hlen : len ≤ 2147483647) (hx : x = 0 ∨ x = 1) (he : xu σ a j x = σ1) (kk : xG d bc bs Y (pc + 1) L S 155 σ1 K) : xG d bc bs Y pc L (vI x :: vI j :: vR a :: S) 155 σ K := by subst he; exact g_zast len hd hs hj hlen hx kk
theorem h_last {a j x : Int} (len : Nat) (hd : decode Y.2.1 pc = .ok (.lastore, 1)) (hs : xia 155 a 2 len = true) (hj : 0 ≤ j ∧ j < len) (hlen : len ≤ 2147483647) (he : xu σ a j x = σ1) (kk : xG d bc bs Y (pc + 1) L S 155 σ1 K) : xG d bc bs Y pc L (vL x :: vI j :: vR a :: S) 155 σ K := by subst he; exact g_last len hd hs hj hlen kk
theorem h_copy {a0 a k : Int} {i : Nat} (n0 n1 : Nat) (hd : decode Y.2.1 pc = .ok (.invokestatic i, 3)) (hm : Cond.methodLink Y.1.cls i arraycopyName ∈ xTB) (hs0 : xia 155 a0 1 n0 = true) (hs1 : xia 155 a 1 n1 = true) (hk : 0 ≤ k ∧ k ≤ n0 ∧ k ≤ n1) (hb : n0 ≤ 2147483647) (hdd : 1 ≤ d) (hrest : decide ((S.map (fun v => if v.1 = 1 then 2 else 1)).sum ≤ 8) = true) (he : xcp σ a0 a k = σ1) (kk : xG d bc bs Y (pc + 3) L S 155 σ1 K) : xG d bc bs Y pc L (vI k :: vI 0 :: vR a :: vI 0 :: vR a0 :: S) 155 σ K := by subst he; exact g_copy n0 n1 hd hm hs0 hs1 hk hb hdd hrest kk
end XD
