/-! THE INVARIANT of class (city 2, kept 25) and reference (a 85, image 86) -/
def rng (a x b : Int) : Prop := a ≤ x ∧ x ≤ b
def cNum (h : Hp) (c A : Nat) : Prop :=
  (h c 0 = h A 0 ∧ 0 ≤ h A 0 ∧ h A 0 ≤ 6) ∧ (h c 1 = h A 9 ∧ 1 ≤ h A 9 ∧ h A 9 ≤ 99) ∧ (h c 2 = h A 8 ∧ 0 ≤ h A 8 ∧ h A 8 ≤ 9999) ∧
  (h c 3 = h A 10 ∧ 0 ≤ h A 10 ∧ h A 10 ≤ 30492) ∧ (h c 4 = h A 1 ∧ 0 ≤ h A 1 ∧ h A 1 ≤ 4) ∧ (h c 5 = h A 2 ∧ -1 ≤ h A 2 ∧ h A 2 < h A 1)
/-- one person, by the class's number and the reference's place -/
def cOne (h : Hp) (c A : Nat) (p : Int) : Prop :=
  (h (c + 1) p = h A (12 + 9 * p + 6) ∧ 0 ≤ h A (12 + 9 * p + 6) ∧ h A (12 + 9 * p + 6) ≤ 2) ∧
  (h (c + 2) p = h A (12 + 9 * p + 0) ∧ 0 ≤ h A (12 + 9 * p + 0) ∧ h A (12 + 9 * p + 0) ≤ 9) ∧
  (h (c + 3) p = h A (12 + 9 * p + 1) ∧ 0 ≤ h A (12 + 9 * p + 1) ∧ h A (12 + 9 * p + 1) ≤ 9999) ∧
  (∀ k, 0 ≤ k → k < 4 → h (c + 4) (p * 4 + k) = h A (12 + 9 * p + (2 + k)) ∧ 0 ≤ h A (12 + 9 * p + (2 + k)) ∧ h A (12 + 9 * p + (2 + k)) ≤ 999) ∧
  (0 ≤ h A (12 + 9 * p + 7) ∧ h A (12 + 9 * p + 7) ≤ 9) ∧ (0 ≤ h A (12 + 9 * p + 8) ∧ h A (12 + 9 * p + 8) ≤ 9999)
def cPer (h : Hp) (c A : Nat) : Prop := ∀ p, 0 ≤ p → p < 6 → cOne h c A p
def cBrim (h : Hp) (c A : Nat) : Prop := ∀ k, 0 ≤ k → k < 3 → h (c + 5) k = h A (66 + k) ∧ 0 ≤ h A (66 + k) ∧ h A (66 + k) ≤ 9
def cCost (h : Hp) (c A : Nat) : Prop := ∀ k, 0 ≤ k → k < 3 → h (c + 6) k = h A (162 + k) ∧ 1 ≤ h A (162 + k) ∧ h A (162 + k) ≤ 99
def cWay (h : Hp) (c A : Nat) : Prop := ∀ i, 0 ≤ i → i < 36 → h (c + 7) i = h A (86 + i) ∧ 1 ≤ h A (86 + i) ∧ h A (86 + i) ≤ 99
def cPlan (h : Hp) (c A : Nat) : Prop := (h (c + 9) 3 = h A 4 ∧ 0 ≤ h A 4 ∧ h A 4 ≤ 8) ∧ ∀ i, 0 ≤ i → i < 8 →
  (h (c + 10) i = h A (70 + 2 * i) ∧ 0 ≤ h A (70 + 2 * i) ∧ h A (70 + 2 * i) ≤ 2) ∧ (h (c + 11) i = h A (70 + 2 * i + 1) ∧ 0 ≤ h A (70 + 2 * i + 1) ∧ h A (70 + 2 * i + 1) ≤ 99)
def cYear (h : Hp) (c A : Nat) : Prop := (h (c + 13) 3 = h A 5 ∧ 0 ≤ h A 5 ∧ h A 5 ≤ 8) ∧ ∀ i, 0 ≤ i → i < 8 →
  (h (c + 14) i = h A (122 + 2 * i) ∧ 0 ≤ h A (122 + 2 * i) ∧ h A (122 + 2 * i) ≤ 999) ∧ (h (c + 15) i = h A (122 + 2 * i + 1) ∧ 0 ≤ h A (122 + 2 * i + 1) ∧ h A (122 + 2 * i + 1) ≤ 999)
def cDried (h : Hp) (c A : Nat) : Prop := (h (c + 17) 3 = h A 6 ∧ 0 ≤ h A 6 ∧ h A 6 ≤ 8) ∧ ∀ i, 0 ≤ i → i < 8 →
  (h (c + 18) i = h A (138 + 3 * i) ∧ 0 ≤ h A (138 + 3 * i) ∧ h A (138 + 3 * i) ≤ 5) ∧ (h (c + 19) i = h A (138 + 3 * i + 1) ∧ 0 ≤ h A (138 + 3 * i + 1) ∧ h A (138 + 3 * i + 1) ≤ 3) ∧
  (h (c + 20) i = h A (138 + 3 * i + 2) ∧ 0 ≤ h A (138 + 3 * i + 2) ∧ h A (138 + 3 * i + 2) ≤ 99)
/-- the thirty latest fines, when w were written, as the class keeps them -/
def bk (h : Hp) (A : Nat) (w : Int) (f : Int → Int) : Prop := ∀ i, 0 ≤ i → i < min w 30 → ∃ d p k m : Int, (0 ≤ d ∧ d ≤ 9999) ∧ (0 ≤ p ∧ p ≤ 5) ∧ (0 ≤ k ∧ k ≤ 2) ∧ (0 ≤ m ∧ m ≤ 9999) ∧
  f i = ((d * 6 + p) * 3 + k) * 10000 + m ∧ h A (1396 + 2 * ((w - min w 30 + i) % 1230)) = d * 32 + p * 4 + k ∧ h A (1396 + 2 * ((w - min w 30 + i) % 1230) + 1) = m
def cBook (h : Hp) (c A : Nat) (n : Nat) : Prop := (h c 6 = min (h A 11) 30 ∧ 0 ≤ h A 11 ∧ h A 11 ≤ 40 * n) ∧ bk h A (h A 11) (h (c + 8))
/-- a kept step: the class's row at r, the reference's at x -/
def cRow (h : Hp) (c A : Nat) (r x : Int) : Prop :=
  (h (c + 22) r = h A x ∧ 0 ≤ h A x ∧ h A x ≤ h A 0) ∧ (h (c + 22) (r + 1) = h A (x + 2) ∧ 1 ≤ h A (x + 2) ∧ h A (x + 2) ≤ 99) ∧ (h (c + 22) (r + 2) = h A (x + 1) ∧ 0 ≤ h A (x + 1) ∧ h A (x + 1) ≤ 9999) ∧
  (h (c + 22) (r + 3) = h A (x + 3) ∧ 0 ≤ h A (x + 3) ∧ h A (x + 3) ≤ 30492) ∧ (h (c + 22) (r + 4) = min (h A (x + 4)) 30 ∧ 0 ≤ h A (x + 4)) ∧ bk h A (h A (x + 4)) (fun i => h (c + 22) (r + 41 + i)) ∧
  ∀ p, 0 ≤ p → p < 6 → (h (c + 22) (r + 5 + p) = h A (x + 5 + 6 * p + 0) ∧ 0 ≤ h A (x + 5 + 6 * p + 0) ∧ h A (x + 5 + 6 * p + 0) ≤ 9) ∧
    (h (c + 22) (r + 11 + p) = h A (x + 5 + 6 * p + 1) ∧ 0 ≤ h A (x + 5 + 6 * p + 1) ∧ h A (x + 5 + 6 * p + 1) ≤ 9999) ∧
    ∀ k, 0 ≤ k → k < 4 → h (c + 22) (r + 17 + (p * 4 + k)) = h A (x + 5 + 6 * p + (2 + k)) ∧ 0 ≤ h A (x + 5 + 6 * p + (2 + k)) ∧ h A (x + 5 + 6 * p + (2 + k)) ≤ 999
/-- as told: the six of one at y in the reference, against what was told of p -/
def told (h : Hp) (A : Nat) (y p : Int) : Prop := h A (y + 0) = h A (12 + 9 * p + 7) ∧ h A (y + 1) = h A (12 + 9 * p + 8) ∧ ∀ k, 0 ≤ k → k < 4 → h A (y + (2 + k)) = 0
def cSteps (h : Hp) (c A : Nat) : Prop :=
  (h (c + 21) 2 = h A 3 ∧ 0 ≤ h A 3 ∧ h A 3 ≤ 30) ∧ (0 ≤ h (c + 21) 1 ∧ h (c + 21) 1 < 30) ∧
  (∀ j, 0 ≤ j → j < h A 3 → cRow h c A ((h (c + 21) 1 + j) % 30 * 71) (166 + 41 * j)) ∧
  (∀ i j, 0 ≤ i → i < j → j < h A 3 → h A (166 + 41 * i) ≤ h A (166 + 41 * j) ∧ h A (166 + 41 * i + 4) ≤ h A (166 + 41 * j + 4) ∧ h A (166 + 41 * j + 4) ≤ h A (166 + 41 * i + 4) + 40 * (j - i)) ∧
  (∀ i, 0 ≤ i → i < h A 3 → h A (166 + 41 * i + 4) ≤ h A 11 ∧ h A 11 ≤ h A (166 + 41 * i + 4) + 40 * (h A 3 - i)) ∧
  (∀ j p, 0 ≤ j → j + 1 < h A 3 → h A (166 + 41 * j) ≤ p → p < h A (166 + 41 * (j + 1)) → told h A (166 + 41 * (j + 1) + 5 + 6 * p) p) ∧
  (∀ p, 0 < h A 3 → h A (166 + 41 * (h A 3 - 1)) ≤ p → p < h A 0 → told h A (12 + 9 * p) p)
def Core (h : Hp) (c A : Nat) (n : Nat) : Prop := cNum h c A ∧ cPer h c A ∧ cBrim h c A ∧ cCost h c A ∧ cWay h c A ∧ cPlan h c A ∧ cYear h c A ∧ cDried h c A ∧ cBook h c A n ∧ cSteps h c A
/-- the tape: bytes of the class, 0 .. 255 of the reference; the latest fault -/
def cTape (h : Hp) : Prop := (h 0 6 = h 84 4 ∧ 0 ≤ h 84 4 ∧ h 84 4 ≤ 300) ∧ h 0 7 = h 84 5 ∧ h 0 8 = h 84 6 ∧
  ∀ i, 0 ≤ i → i < h 84 4 → (0 ≤ h 88 i ∧ h 88 i ≤ 255) ∧ h 83 i = if h 88 i < 128 then h 88 i else h 88 i - 256
/-- what a law may ask: nine names, three brims -/
def r9 (f : Int → Int) : Int → Int := fun i => if 0 ≤ i ∧ i < 9 then f i else 0
def r3 (f : Int → Int) : Int → Int := fun i => if 0 ≤ i ∧ i < 3 then f i else 0
def nOk (f : Int → Int) : Prop := ∀ i, 0 ≤ i → i < 9 → 0 ≤ f i ∧ f i ≤ 9999
def bOk (f : Int → Int) : Prop := ∀ i, 0 ≤ i → i < 3 → 0 ≤ f i ∧ f i ≤ 9
abbrev aF := (Int → Int) → (Int → Int) → Int
/-- the class's law s of the text at T says F -/
def LawC (h : Hp) (T : Nat) (s : Int) (F : aF) : Prop := ∀ (d : Nat) (h1 : Hp) (Q : aPO), (∀ o, T ≤ o → o < T + 6 → h1 o = h o) → nOk (h1 49) → bOk (h1 7) →
  (∀ h2 : Hp, (∀ o, o ≠ 50 → h2 o = h1 o) → Q (vI (F (r9 (h1 49)) (r3 (h1 7)))) h2) → Runs (d + 3) 65 0 [vA 48, vA T, vI s, vA 7, none, none, none, none, none, none] [] h1 Q
/-- the reference's clause k of the text t says F -/
def LawR (h : Hp) (t k : Int) (F : aF) : Prop := ∀ (d : Nat) (h1 : Hp) (Q : aPO), h1 87 = h 87 → nOk (h1 90) → bOk (fun i => h1 85 (66 + i)) →
  (∀ h2 : Hp, (∀ o, o ≠ 91 → o ≠ 92 → h2 o = h1 o) → Q (vL (F (r9 (h1 90)) (r3 (fun i => h1 85 (66 + i))))) h2) → Runs (d + 3) 230 0 (pad (ents [vA 84, vI t, vI k]) (mLo 230)) [] h1 Q
def parts (s : Int) : Int := if s ≤ 2 then 0 else if s = 3 ∨ s = 6 ∨ s = 8 then 3 else if s = 4 ∨ s = 7 ∨ s = 9 then 2 else 1
def TxtOK (h : Hp) (T : Nat) (t : Int) : Prop :=
  (h T 5 = h 87 (705 * t) ∧ 0 ≤ h 87 (705 * t) ∧ h 87 (705 * t) ≤ 24) ∧
  (∀ i, 0 ≤ i → i < h 87 (705 * t) → h (T + 1) (i * 4 + 0) = h 87 (705 * t + 1 + 4 * i) ∧ (0 ≤ h 87 (705 * t + 1 + 4 * i) ∧ h 87 (705 * t + 1 + 4 * i) ≤ 12) ∧
    ∀ k, 1 ≤ k → k ≤ parts (h 87 (705 * t + 1 + 4 * i)) → h (T + 1) (i * 4 + k) = h 87 (705 * t + 1 + 4 * i + k)) ∧
  ∀ s, 0 ≤ s → s < 3 → (h (T + 4) s = -1 ∧ ∀ i, 0 ≤ i → i < h 87 (705 * t) → h 87 (705 * t + 1 + 4 * i) ≠ s) ∨
    (h (T + 4) s ≠ -1 ∧ ∃ k, (0 ≤ k ∧ k < h 87 (705 * t)) ∧ h 87 (705 * t + 1 + 4 * k) = s ∧ (∀ i, 0 ≤ i → i < k → h 87 (705 * t + 1 + 4 * i) ≠ s) ∧
      ∃ F : aF, (∀ a b, -1000000 ≤ F a b ∧ F a b ≤ 1000000) ∧ LawC h T s F ∧ LawR h t k F)
def cTxt (h : Hp) : Prop := h 86 1 ≤ h 85 1 ∧ (0 < h 85 1 → TxtOK h 52 0) ∧ (1 < h 85 1 → TxtOK h 58 1) ∧ (2 < h 85 1 → TxtOK h 64 2) ∧ (3 < h 85 1 → TxtOK h 70 3)
def Inv (n : Nat) (h : Hp) : Prop := Core h 2 85 n ∧ Core h 25 86 n ∧ cTape h ∧ cTxt h ∧ h 1 3 = 0
/-- scratch: what no call leaves a meaning in -/
def scr (o : Nat) : Prop := o = 49 ∨ o = 50 ∨ (76 ≤ o ∧ o ≤ 82) ∨ 89 ≤ o
