/-! THE INVARIANT: the class's city at c, against what the reference holds in its row a -/
abbrev aA : Type := Int → Int
def cNum (h : Hp) (c : Nat) (a : aA) : Prop :=
  (h c 0 = a 0 ∧ 0 ≤ a 0 ∧ a 0 ≤ 6) ∧ (h c 1 = a 9 ∧ 1 ≤ a 9 ∧ a 9 ≤ 99) ∧ (h c 2 = a 8 ∧ 0 ≤ a 8 ∧ a 8 ≤ 9999) ∧
  (h c 3 = a 10 ∧ 0 ≤ a 10 ∧ a 10 ≤ 30492) ∧ (h c 4 = a 1 ∧ 0 ≤ a 1 ∧ a 1 ≤ 4) ∧ (h c 5 = a 2 ∧ -1 ≤ a 2 ∧ a 2 < a 1)
/-- one person, by the class's number and the reference's place -/
def cOne (h : Hp) (c : Nat) (a : aA) (p : Int) : Prop :=
  (h (c + 1) p = a (12 + 9 * p + 6) ∧ 0 ≤ a (12 + 9 * p + 6) ∧ a (12 + 9 * p + 6) ≤ 2) ∧
  (h (c + 2) p = a (12 + 9 * p + 0) ∧ 0 ≤ a (12 + 9 * p + 0) ∧ a (12 + 9 * p + 0) ≤ 9) ∧
  (h (c + 3) p = a (12 + 9 * p + 1) ∧ 0 ≤ a (12 + 9 * p + 1) ∧ a (12 + 9 * p + 1) ≤ 9999) ∧
  (∀ k, 0 ≤ k → k < 4 → h (c + 4) (p * 4 + k) = a (12 + 9 * p + (2 + k)) ∧ 0 ≤ a (12 + 9 * p + (2 + k)) ∧ a (12 + 9 * p + (2 + k)) ≤ 999) ∧
  (0 ≤ a (12 + 9 * p + 7) ∧ a (12 + 9 * p + 7) ≤ 9) ∧ (0 ≤ a (12 + 9 * p + 8) ∧ a (12 + 9 * p + 8) ≤ 9999)
def cPer (h : Hp) (c : Nat) (a : aA) : Prop := ∀ p, 0 ≤ p → p < 6 → cOne h c a p
def cBrim (h : Hp) (c : Nat) (a : aA) : Prop := ∀ k, 0 ≤ k → k < 3 → h (c + 5) k = a (66 + k) ∧ 0 ≤ a (66 + k) ∧ a (66 + k) ≤ 9
def cCost (h : Hp) (c : Nat) (a : aA) : Prop := ∀ k, 0 ≤ k → k < 3 → h (c + 6) k = a (162 + k) ∧ 1 ≤ a (162 + k) ∧ a (162 + k) ≤ 99
def cWay (h : Hp) (c : Nat) (a : aA) : Prop := ∀ i, 0 ≤ i → i < 36 → h (c + 7) i = a (86 + i) ∧ 1 ≤ a (86 + i) ∧ a (86 + i) ≤ 99
def cPlan (h : Hp) (c : Nat) (a : aA) : Prop := (h (c + 9) 3 = a 4 ∧ 0 ≤ a 4 ∧ a 4 ≤ 8) ∧ ∀ i, 0 ≤ i → i < 8 →
  (h (c + 10) i = a (70 + 2 * i) ∧ 0 ≤ a (70 + 2 * i) ∧ a (70 + 2 * i) ≤ 2) ∧ (h (c + 11) i = a (70 + 2 * i + 1) ∧ 0 ≤ a (70 + 2 * i + 1) ∧ a (70 + 2 * i + 1) ≤ 99)
def cYear (h : Hp) (c : Nat) (a : aA) : Prop := (h (c + 13) 3 = a 5 ∧ 0 ≤ a 5 ∧ a 5 ≤ 8) ∧ ∀ i, 0 ≤ i → i < 8 →
  (h (c + 14) i = a (122 + 2 * i) ∧ 0 ≤ a (122 + 2 * i) ∧ a (122 + 2 * i) ≤ 999) ∧ (h (c + 15) i = a (122 + 2 * i + 1) ∧ 0 ≤ a (122 + 2 * i + 1) ∧ a (122 + 2 * i + 1) ≤ 999)
def cDried (h : Hp) (c : Nat) (a : aA) : Prop := (h (c + 17) 3 = a 6 ∧ 0 ≤ a 6 ∧ a 6 ≤ 8) ∧ ∀ i, 0 ≤ i → i < 8 →
  (h (c + 18) i = a (138 + 3 * i) ∧ 0 ≤ a (138 + 3 * i) ∧ a (138 + 3 * i) ≤ 5) ∧ (h (c + 19) i = a (138 + 3 * i + 1) ∧ 0 ≤ a (138 + 3 * i + 1) ∧ a (138 + 3 * i + 1) ≤ 3) ∧
  (h (c + 20) i = a (138 + 3 * i + 2) ∧ 0 ≤ a (138 + 3 * i + 2) ∧ a (138 + 3 * i + 2) ≤ 99)
/-- the thirty latest fines, when w were written, as the class keeps them -/
def bk (a : aA) (w : Int) (f : Int → Int) : Prop := ∀ i, 0 ≤ i → i < min w 30 → ∃ d p k m : Int, (0 ≤ d ∧ d ≤ 9999) ∧ (0 ≤ p ∧ p ≤ 5) ∧ (0 ≤ k ∧ k ≤ 2) ∧ (0 ≤ m ∧ m ≤ 9999) ∧
  f i = ((d * 6 + p) * 3 + k) * 10000 + m ∧ a (1396 + 2 * ((w - min w 30 + i) % 1230)) = d * 32 + p * 4 + k ∧ a (1396 + 2 * ((w - min w 30 + i) % 1230) + 1) = m
def cBook (h : Hp) (c : Nat) (a : aA) (n : Int) : Prop := (h c 6 = min (a 11) 30 ∧ 0 ≤ a 11 ∧ a 11 ≤ n) ∧ bk a (a 11) (h (c + 8))
/-- a kept step: the class's row at r, the reference's at x -/
def cRow (h : Hp) (c : Nat) (a : aA) (r x : Int) : Prop :=
  (h (c + 22) r = a x ∧ 0 ≤ a x ∧ a x ≤ a 0) ∧ (h (c + 22) (r + 1) = a (x + 2) ∧ 1 ≤ a (x + 2) ∧ a (x + 2) ≤ 99) ∧ (h (c + 22) (r + 2) = a (x + 1) ∧ 0 ≤ a (x + 1) ∧ a (x + 1) ≤ 9999) ∧
  (h (c + 22) (r + 3) = a (x + 3) ∧ 0 ≤ a (x + 3) ∧ a (x + 3) ≤ 30492) ∧ (h (c + 22) (r + 4) = min (a (x + 4)) 30 ∧ 0 ≤ a (x + 4)) ∧ bk a (a (x + 4)) (fun i => h (c + 22) (r + 41 + i)) ∧
  ∀ p, 0 ≤ p → p < 6 → (h (c + 22) (r + 5 + p) = a (x + 5 + 6 * p + 0) ∧ 0 ≤ a (x + 5 + 6 * p + 0) ∧ a (x + 5 + 6 * p + 0) ≤ 9) ∧
    (h (c + 22) (r + 11 + p) = a (x + 5 + 6 * p + 1) ∧ 0 ≤ a (x + 5 + 6 * p + 1) ∧ a (x + 5 + 6 * p + 1) ≤ 9999) ∧
    ∀ k, 0 ≤ k → k < 4 → h (c + 22) (r + 17 + (p * 4 + k)) = a (x + 5 + 6 * p + (2 + k)) ∧ 0 ≤ a (x + 5 + 6 * p + (2 + k)) ∧ a (x + 5 + 6 * p + (2 + k)) ≤ 999
/-- as told: the six of one at y in the reference, against what was told of p -/
def told (a : aA) (y p : Int) : Prop := a (y + 0) = a (12 + 9 * p + 7) ∧ a (y + 1) = a (12 + 9 * p + 8) ∧ ∀ k, 0 ≤ k → k < 4 → a (y + (2 + k)) = 0
/-- the kept steps among themselves -/
def cSeq (a : aA) : Prop :=
  (∀ i j, 0 ≤ i → i < j → j < a 3 → a (166 + 41 * i) ≤ a (166 + 41 * j) ∧ a (166 + 41 * i + 4) ≤ a (166 + 41 * j + 4) ∧ a (166 + 41 * j + 4) ≤ a (166 + 41 * i + 4) + 40 * (j - i)) ∧
  (∀ i, 0 ≤ i → i < a 3 → a (166 + 41 * i + 4) ≤ a 11 ∧ a 11 ≤ a (166 + 41 * i + 4) + 40 * (a 3 - i)) ∧
  (∀ j p, 0 ≤ j → j + 1 < a 3 → a (166 + 41 * j) ≤ p → p < a (166 + 41 * (j + 1)) → told a (166 + 41 * (j + 1) + 5 + 6 * p) p)
/-- who was told behind the latest step is as told -/
def cNow (a : aA) : Prop := ∀ p, 0 < a 3 → a (166 + 41 * (a 3 - 1)) ≤ p → p < a 0 → told a (12 + 9 * p) p
def cSteps (h : Hp) (c : Nat) (a : aA) : Prop :=
  (h (c + 21) 2 = a 3 ∧ 0 ≤ a 3 ∧ a 3 ≤ 30) ∧ (0 ≤ h (c + 21) 1 ∧ h (c + 21) 1 < 30) ∧
  (∀ j, 0 ≤ j → j < a 3 → cRow h c a ((h (c + 21) 1 + j) % 30 * 71) (166 + 41 * j)) ∧ cSeq a
/-- city and row, n: how many fines were written at most -/
def CG (h : Hp) (c : Nat) (a : aA) (n : Int) : Prop := cNum h c a ∧ cPer h c a ∧ cBrim h c a ∧ cCost h c a ∧ cWay h c a ∧ cPlan h c a ∧ cYear h c a ∧ cDried h c a ∧ cBook h c a n ∧ cSteps h c a ∧ cNow a
/-- the tape: bytes of the class, 0 .. 255 of the reference; the latest fault -/
def cTape (h : Hp) : Prop := (h 0 6 = h 84 4 ∧ 0 ≤ h 84 4 ∧ h 84 4 ≤ 300) ∧ h 0 7 = h 84 5 ∧ h 0 8 = h 84 6 ∧
  ∀ i, 0 ≤ i → i < h 84 4 → (0 ≤ h 88 i ∧ h 88 i ≤ 255) ∧ h 83 i = if h 88 i < 128 then h 88 i else h 88 i - 256
/-- what a law may ask: nine names, three brims -/
def r9 (f : Int → Int) : Int → Int := fun i => if 0 ≤ i ∧ i < 9 then f i else 0
def r3 (f : Int → Int) : Int → Int := fun i => if 0 ≤ i ∧ i < 3 then f i else 0
def nOk (f : Int → Int) : Prop := ∀ i, 0 ≤ i → i < 9 → 0 ≤ f i ∧ f i ≤ 9999
def bOk (f : Int → Int) : Prop := ∀ i, 0 ≤ i → i < 3 → 0 ≤ f i ∧ f i ≤ 9
abbrev aF : Type := (Int → Int) → (Int → Int) → Int
abbrev aL : Type := Int → Int → Option aF
/-- the class's law s of the text at T says F -/
def LawC (h : Hp) (T : Nat) (s : Int) (F : aF) : Prop := ∀ (d : Nat) (h1 : Hp) (Q : aPO), (∀ o, T ≤ o → o < T + 6 → h1 o = h o) → nOk (h1 49) → bOk (h1 7) →
  (∀ h2 : Hp, (∀ o, o ≠ 50 → h2 o = h1 o) → Q (vI (F (r9 (h1 49)) (r3 (h1 7)))) h2) → Runs (d + 3) 65 0 [vA 48, vA T, vI s, vA 7, none, none, none, none, none, none] [] h1 Q
/-- the reference's clause k of the text t says F -/
def LawR (h : Hp) (t k : Int) (F : aF) : Prop := ∀ (d : Nat) (h1 : Hp) (Q : aPO), (∀ j, 705 * t ≤ j → j < 705 * t + 705 → h1 87 j = h 87 j) → nOk (h1 90) → bOk (fun i => h1 85 (66 + i)) →
  (∀ h2 : Hp, (∀ o, o ≠ 91 → o ≠ 92 → h2 o = h1 o) → Q (vL (F (r9 (h1 90)) (r3 (fun i => h1 85 (66 + i))))) h2) → Runs (d + 3) 230 0 (pad (ents [vA 84, vI t, vI k]) (mLo 230)) [] h1 Q
def parts (s : Int) : Int := if s ≤ 2 then 0 else if s = 3 ∨ s = 6 ∨ s = 8 then 3 else if s = 4 ∨ s = 7 ∨ s = 9 then 2 else 1
/-- a law of drying doesn't look at coins and tears -/
def six (F : aF) : Prop := ∀ f g b, (∀ i, 0 ≤ i → i < 7 → f i = g i) → F (r9 f) b = F (r9 g) b
/-- the text t, of the class at T, of the reference, and its laws -/
def TxtOK (h : Hp) (T : Nat) (t : Int) (l : Int → Option aF) : Prop :=
  (h T 5 = h 87 (705 * t) ∧ 0 ≤ h 87 (705 * t) ∧ h 87 (705 * t) ≤ 24) ∧
  (∀ i, 0 ≤ i → i < h 87 (705 * t) → h (T + 1) (i * 4 + 0) = h 87 (705 * t + 1 + 4 * i) ∧ (0 ≤ h 87 (705 * t + 1 + 4 * i) ∧ h 87 (705 * t + 1 + 4 * i) ≤ 12) ∧
    ∀ k, 1 ≤ k → k ≤ parts (h 87 (705 * t + 1 + 4 * i)) → h (T + 1) (i * 4 + k) = h 87 (705 * t + 1 + 4 * i + k) ∧ 0 ≤ h 87 (705 * t + 1 + 4 * i + k) ∧ h 87 (705 * t + 1 + 4 * i + k) ≤ 9999) ∧
  (∀ s, 0 ≤ s → s < 3 → l s = none → h (T + 4) s = -1 ∧ ∀ i, 0 ≤ i → i < h 87 (705 * t) → h 87 (705 * t + 1 + 4 * i) ≠ s) ∧
  ∀ s F, 0 ≤ s → s < 3 → l s = some F → h (T + 4) s ≠ -1 ∧ (∀ a b, -1000000 ≤ F a b ∧ F a b ≤ 1000000) ∧ (s = 0 → six F) ∧ LawC h T s F ∧
    ∃ k, (0 ≤ k ∧ k < h 87 (705 * t)) ∧ h 87 (705 * t + 1 + 4 * k) = s ∧ (∀ i, 0 ≤ i → i < k → h 87 (705 * t + 1 + 4 * i) ≠ s) ∧ LawR h t k F
/-- the first m texts -/
def cTx (h : Hp) (L : aL) (m : Int) : Prop := ∀ t : Nat, t < 4 → (t : Int) < m → TxtOK h (52 + 6 * t) t (L t)
def Inv (n : Nat) (h : Hp) : Prop := CG h 2 (h 85) (40 * n) ∧ CG h 25 (h 86) (40 * n) ∧ cTape h ∧ h 1 3 = 0 ∧ h 86 1 ≤ h 85 1 ∧ ∃ L, cTx h L (h 85 1)
/-- scratch: what no call leaves a meaning in -/
def scr (o : Nat) : Prop := o = 49 ∨ o = 50 ∨ (76 ≤ o ∧ o ≤ 82) ∨ 89 ≤ o
/-- but for the kept steps -/
def CG0 (h : Hp) (c : Nat) (a : aA) (n : Int) : Prop := cNum h c a ∧ cPer h c a ∧ cBrim h c a ∧ cCost h c a ∧ cWay h c a ∧ cPlan h c a ∧ cYear h c a ∧ cDried h c a ∧ cBook h c a n ∧ 0 ≤ a 3 ∧ a 3 ≤ 30
/-- the reference's row alone -/
def Wf (a : aA) : Prop := ∃ g n, CG0 g 2 a n ∧ n ≤ 30000
def Ws (a : aA) : Prop := ∃ g n, CG g 2 a n ∧ n ≤ 30000
