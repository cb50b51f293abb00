/-! what the two worlds have in common: σ the class's, τ the reference's -/
def xnw (W : List (Int × Int)) (c : Int) : Bool := W.all (fun q => q.1 != c)
def xns (W : List (Int × Int)) (c k : Int) : Bool := W.all (fun q => q.1 != c || (q.2 != k && q.2 != -1))
theorem xfm_cell {W : List (Int × Int)} {σ τ : xW} {c : Int} (h : xfm W σ τ) (hw : xnw W c = true) : τ c = σ c := by
  unfold xnw at hw
  rw [List.all_eq_true] at hw
  funext k
  refine h c k (fun z => ?_) (fun z => ?_) <;> simpa using hw _ z
theorem xfm_slot {W : List (Int × Int)} {σ τ : xW} {c k : Int} (h : xfm W σ τ) (hw : xns W c k = true) : τ c k = σ c k := by
  unfold xns at hw
  rw [List.all_eq_true] at hw
  refine h c k (fun z => ?_) (fun z => ?_) <;> simpa using hw _ z
/-- THE TEXT -/
def Xtext (σ τ : xW) : Prop := (0 ≤ σ 1 1 ∧ σ 1 1 ≤ 80) ∧ (∀ i, 0 ≤ σ 2 i ∧ σ 2 i ≤ 255) ∧ τ 121 15 = σ 1 1 ∧ ∀ i, 0 ≤ i → i < σ 1 1 → τ 129 i = σ 2 i
/-- ROW -/
def Xrow (σ τ : xW) : Prop := (0 ≤ σ 3 1 ∧ σ 3 1 ≤ 16) ∧ τ 121 1 = σ 3 1 ∧ ∀ i, 0 ≤ i → i < σ 3 1 → τ 122 i = σ 4 i
def Xdig (n : Int) (f : Int → Int) (m : Int) (g : Int → Int) : Prop := (1 ≤ n ∧ n ≤ 20) ∧ (∀ i, 0 ≤ f i ∧ f i ≤ 9) ∧ m = n ∧ ∀ i, 0 ≤ i → i < n → g i = f i
def Xsky (σ τ : xW) : Prop := Xdig (σ 5 1) (σ 6) (τ 121 6) (τ 123) ∧ Xdig (σ 7 1) (σ 8) (τ 121 7) (τ 124)
/-- a step of the class for a code of the reference -/
def xsc (c : Int) : Int := if c < 2000 then c else if c = 3000 then 2126 else if c = 2000 then 2060 else if c = 2001 then 2062 else if c = 2002 then 2061 else if c = 2003 then 2043 else if c = 2004 then 2045 else if c = 2005 then 2042 else 2047
def xdp (f : Int → Int) : Nat → Int
  | 0 => 0
  | k + 1 => xdp f k + (if f k < 2000 then 1 else if f k = 3000 then 0 else -1)
/-- a right code: things first, what is done with them behind -/
def xcode (n : Int) (f : Int → Int) : Prop := (∀ i : Nat, (i : Int) < n → ((0 ≤ f i ∧ f i < 1007) ∨ (2000 ≤ f i ∧ f i ≤ 2006 ∧ 2 ≤ xdp f i) ∨ (f i = 3000 ∧ 1 ≤ xdp f i))) ∧ xdp f n.toNat = 1
def xfirstL : List Int := [1000, 2, 2042, 1001, 2, 2047, 2045]
def XRC (n : Int) (f : Int → Int) (m : Int) (g : Int → Int) : Prop := (m = 0 ∧ n = 7 ∧ ∀ i, 0 ≤ i → i < 7 → f i = xfirstL.getD i.toNat 0) ∨ (1 ≤ m ∧ m ≤ 40 ∧ n = m ∧ xcode m g ∧ ∀ i, 0 ≤ i → i < m → f i = xsc (g i))
def Xrule (σ τ : xW) : Prop := ((σ 0 4 = 9 ∧ σ 0 5 = 13) ∨ (σ 0 4 = 13 ∧ σ 0 5 = 9)) ∧ XRC (σ (σ 0 4) 1) (σ (σ 0 4 + 1)) (τ 121 23) (τ 131)
/-- HOUSES and DEEDS -/
def Xplan (σ τ : xW) : Prop := (0 ≤ σ 0 14 ∧ σ 0 14 ≤ 8) ∧ τ 121 3 = σ 0 14 ∧ (0 ≤ σ 92 0 ∧ σ 92 0 ≤ 8) ∧ τ 121 4 = σ 92 0 ∧ (∀ d, 0 ≤ d → d < σ 92 0 → (0 ≤ σ 93 d ∧ σ 93 d < σ 0 14) ∧ τ 125 d = σ 93 d ∧ (1 ≤ σ 94 d ∧ σ 94 d ≤ 15) ∧ τ 126 d = σ 94 d)
/-- a town's numbers: g, places, watches, lengths -/
def Xti (B : Int) (g p w l : Int → Int) : Prop := ((0 ≤ g 0 ∧ g 0 ≤ 99) ∧ (0 ≤ g 1 ∧ g 1 ≤ 99) ∧ (0 ≤ g 2 ∧ g 2 ≤ 99) ∧ (0 ≤ g 3 ∧ g 3 ≤ 9999) ∧ (0 ≤ g 4 ∧ g 4 ≤ 999) ∧ (0 ≤ g 5 ∧ g 5 ≤ B)) ∧ (∀ h, 0 ≤ h → h < 8 → 0 ≤ p h ∧ p h ≤ 99) ∧ (∀ h, 0 ≤ h → h < 8 → 0 ≤ w h ∧ w h ≤ 108) ∧ (∀ d, 0 ≤ d → d < 8 → -1 ≤ l d ∧ l d ≤ 9)
/-- a town and a row of the reference -/
def Xtr (nh nd : Int) (g p w l : Int → Int) (r : Int → Int) : Prop := ((g 0 = 10 * r 32 + r 33 ∧ 0 ≤ r 33 ∧ r 33 ≤ 9) ∧ (g 1 = 10 * r 34 + r 35 ∧ 0 ≤ r 35 ∧ r 35 ≤ 9) ∧ g 2 = r 36 ∧ g 3 = r 37 ∧ g 4 = r 38 ∧ g 5 = r 39) ∧ (∀ h, 0 ≤ h → h < nh → p h = 10 * r h + r (8 + h) ∧ 0 ≤ r (8 + h) ∧ r (8 + h) ≤ 9 ∧ w h = r (16 + h)) ∧ (∀ d, 0 ≤ d → d < nd → l d = r (24 + d) ∧ 1 ≤ l d)
def Xtown (B : Int) (σ τ : xW) : Prop := Xti B (σ 17) (σ 18) (σ 19) (σ 20) ∧ Xtr (σ 0 14) (σ 92 0) (σ 17) (σ 18) (σ 19) (σ 20) (τ 127)
/-- the ring: the j-th latest, j = 1 .. -/
def xpt (σ : xW) (j : Int) : Int := 23 + 4 * ((σ 21 1 + 16 - j) % 16)
def Xpast (B : Int) (σ τ : xW) : Prop := (0 ≤ σ 21 1 ∧ σ 21 1 < 16) ∧ (0 ≤ σ 21 2 ∧ σ 21 2 ≤ 15) ∧ τ 121 28 = σ 21 2 ∧ ∀ j, 1 ≤ j → j ≤ σ 21 2 → Xti B (σ (xpt σ j)) (σ (xpt σ j + 1)) (σ (xpt σ j + 2)) (σ (xpt σ j + 3)) ∧ Xtr (σ 0 14) (σ 92 0) (σ (xpt σ j)) (σ (xpt σ j + 1)) (σ (xpt σ j + 2)) (σ (xpt σ j + 3)) (fun k => τ 136 (40 * (σ 21 2 - j) + k))
def Xkept (B : Int) (σ τ : xW) : Prop := (0 ≤ τ 121 5 ∧ τ 121 5 ≤ B) ∧ ∀ i, 0 ≤ i → i < 3 → (σ 88 i = 0 ∨ σ 88 i = 1) ∧ (τ 151 i = 0 ∨ τ 151 i = 1) ∧ (τ 151 i = 1 → 0 ≤ τ 152 i ∧ τ 152 i ≤ τ 121 5) ∧ (σ 88 i = 1 ↔ (τ 151 i = 1 ∧ τ 152 i = τ 121 5)) ∧ (σ 88 i = 1 → Xti B (σ (109 + 4 * i)) (σ (109 + 4 * i + 1)) (σ (109 + 4 * i + 2)) (σ (109 + 4 * i + 3)) ∧ Xtr (σ 0 14) (σ 92 0) (σ (109 + 4 * i)) (σ (109 + 4 * i + 1)) (σ (109 + 4 * i + 2)) (σ (109 + 4 * i + 3)) (fun k => τ 153 (40 * i + k)))
def Xrep (σ τ : xW) : Prop := (0 ≤ σ 100 2 ∧ σ 100 2 ≤ 10) ∧ τ 121 42 = σ 100 2 ∧ ∀ i, 0 ≤ i → i < σ 100 2 → (0 ≤ σ 101 i ∧ σ 101 i < σ 0 14) ∧ (0 ≤ σ 102 i ∧ σ 102 i ≤ 199) ∧ τ 146 i = σ 101 i ∧ τ 147 i = σ 102 i
/-- the losing heaps, as the class's own method finds them -/
def xlose : Int → Int := fun a => ([2, 1, 4, 16, 8, 32, 128, 64, 256, 1024, 512, 2048, 8192, 4096, 16384, 65536, 32768, 131072, 524288, 262144, 1048576] : List Int).getD a.toNat 0
def Xforts (σ : xW) : Prop := (σ 105 1 = 0 ∧ ∀ i, 0 ≤ i → i ≤ 20 → σ 106 i = 0) ∨ (σ 105 1 = 1 ∧ ∀ i, 0 ≤ i → i ≤ 20 → σ 106 i = xlose i)
def XR (B : Int) (σ τ : xW) : Prop := Xtext σ τ ∧ Xrow σ τ ∧ Xsky σ τ ∧ Xrule σ τ ∧ Xplan σ τ ∧ Xtown B σ τ ∧ Xpast B σ τ ∧ Xkept B σ τ ∧ Xrep σ τ ∧ Xforts σ
