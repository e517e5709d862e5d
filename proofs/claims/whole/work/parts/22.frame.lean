/-! FRAMES: the parts of the invariant, by the cells that they look at -/
theorem eqc {f g : Int → Int} {i x j y : Int} (e : f i = g j) (p : i = x) (q : j = y) : f x = g y := by subst p q; exact e
section FR
variable {h h1 : Hp} {c c1 : Nat} {a a1 : aA} {n : Int}
theorem cNum.cg (e : ∀ j, 0 ≤ j → j < 6 → h1 c1 j = h c j) (ea : ∀ j, 0 ≤ j → j < 11 → (j < 3 ∨ 7 < j) → a1 j = a j) (I : cNum h c a) : cNum h1 c1 a1 := by
  unfold cNum at *
  rw [e 0 (by decide) (by decide), e 1 (by decide) (by decide), e 2 (by decide) (by decide), e 3 (by decide) (by decide), e 4 (by decide) (by decide), e 5 (by decide) (by decide),
    ea 0 (by decide) (by decide) (by decide), ea 1 (by decide) (by decide) (by decide), ea 2 (by decide) (by decide) (by decide), ea 8 (by decide) (by decide) (by decide), ea 9 (by decide) (by decide) (by decide), ea 10 (by decide) (by decide) (by decide)]
  exact I
theorem cOne.cg {p : Int} (h0 : 0 ≤ p) (h6 : p < 6) (e1 : h1 (c1 + 1) p = h (c + 1) p) (e2 : h1 (c1 + 2) p = h (c + 2) p) (e3 : h1 (c1 + 3) p = h (c + 3) p) (e4 : ∀ k, 0 ≤ k → k < 4 → h1 (c1 + 4) (p * 4 + k) = h (c + 4) (p * 4 + k)) (ea : ∀ j, 0 ≤ j → j < 9 → a1 (12 + 9 * p + j) = a (12 + 9 * p + j)) (I : cOne h c a p) : cOne h1 c1 a1 p := by
  unfold cOne at *
  rw [e1, e2, e3, ea 0 (by decide) (by decide), ea 1 (by decide) (by decide), ea 6 (by decide) (by decide), ea 7 (by decide) (by decide), ea 8 (by decide) (by decide)]
  refine ⟨I.1, I.2.1, I.2.2.1, fun k k0 k4 => ?_, I.2.2.2.2⟩
  rw [e4 k k0 k4, ea (2 + k) (by omega) (by omega)]
  exact I.2.2.2.1 k k0 k4
theorem cPer.cg (e : ∀ i : Nat, 1 ≤ i → i ≤ 3 → ∀ j, 0 ≤ j → j < 6 → h1 (c1 + i) j = h (c + i) j) (e4 : ∀ j, 0 ≤ j → j < 24 → h1 (c1 + 4) j = h (c + 4) j) (ea : ∀ j, 12 ≤ j → j < 66 → a1 j = a j) (I : cPer h c a) : cPer h1 c1 a1 :=
  fun p p0 p6 => (I p p0 p6).cg p0 p6 (e 1 (by decide) (by decide) p p0 p6) (e 2 (by decide) (by decide) p p0 p6) (e 3 (by decide) (by decide) p p0 p6) (fun k _ _ => e4 _ (by omega) (by omega)) (fun j _ _ => ea _ (by omega) (by omega))
theorem cBrim.cg (e : ∀ j, 0 ≤ j → j < 3 → h1 (c1 + 5) j = h (c + 5) j) (ea : ∀ j, 66 ≤ j → j < 69 → a1 j = a j) (I : cBrim h c a) : cBrim h1 c1 a1 := by
  intro k k0 k3
  rw [e k k0 k3, ea (66 + k) (by omega) (by omega)]
  exact I k k0 k3
theorem cCost.cg (e : ∀ j, 0 ≤ j → j < 3 → h1 (c1 + 6) j = h (c + 6) j) (ea : ∀ j, 162 ≤ j → j < 165 → a1 j = a j) (I : cCost h c a) : cCost h1 c1 a1 := by
  intro k k0 k3
  rw [e k k0 k3, ea (162 + k) (by omega) (by omega)]
  exact I k k0 k3
theorem cWay.cg (e : ∀ j, 0 ≤ j → j < 36 → h1 (c1 + 7) j = h (c + 7) j) (ea : ∀ j, 86 ≤ j → j < 122 → a1 j = a j) (I : cWay h c a) : cWay h1 c1 a1 := by
  intro k k0 k3
  rw [e k k0 k3, ea (86 + k) (by omega) (by omega)]
  exact I k k0 k3
theorem cPlan.cg (e0 : h1 (c1 + 9) 3 = h (c + 9) 3) (e : ∀ i : Nat, 10 ≤ i → i ≤ 11 → ∀ j, 0 ≤ j → j < 8 → h1 (c1 + i) j = h (c + i) j) (e4 : a1 4 = a 4) (ea : ∀ j, 70 ≤ j → j < 86 → a1 j = a j) (I : cPlan h c a) : cPlan h1 c1 a1 := by
  unfold cPlan at *
  rw [e0, e4]
  refine ⟨I.1, fun k k0 k3 => ?_⟩
  rw [e 10 (by decide) (by decide) k k0 k3, e 11 (by decide) (by decide) k k0 k3, ea (70 + 2 * k) (by omega) (by omega), ea (70 + 2 * k + 1) (by omega) (by omega)]
  exact I.2 k k0 k3
theorem cYear.cg (e0 : h1 (c1 + 13) 3 = h (c + 13) 3) (e : ∀ i : Nat, 14 ≤ i → i ≤ 15 → ∀ j, 0 ≤ j → j < 8 → h1 (c1 + i) j = h (c + i) j) (e4 : a1 5 = a 5) (ea : ∀ j, 122 ≤ j → j < 138 → a1 j = a j) (I : cYear h c a) : cYear h1 c1 a1 := by
  unfold cYear at *
  rw [e0, e4]
  refine ⟨I.1, fun k k0 k3 => ?_⟩
  rw [e 14 (by decide) (by decide) k k0 k3, e 15 (by decide) (by decide) k k0 k3, ea (122 + 2 * k) (by omega) (by omega), ea (122 + 2 * k + 1) (by omega) (by omega)]
  exact I.2 k k0 k3
theorem cDried.cg (e0 : h1 (c1 + 17) 3 = h (c + 17) 3) (e : ∀ i : Nat, 18 ≤ i → i ≤ 20 → ∀ j, 0 ≤ j → j < 8 → h1 (c1 + i) j = h (c + i) j) (e4 : a1 6 = a 6) (ea : ∀ j, 138 ≤ j → j < 162 → a1 j = a j) (I : cDried h c a) : cDried h1 c1 a1 := by
  unfold cDried at *
  rw [e0, e4]
  refine ⟨I.1, fun k k0 k3 => ?_⟩
  rw [e 18 (by decide) (by decide) k k0 k3, e 19 (by decide) (by decide) k k0 k3, e 20 (by decide) (by decide) k k0 k3, ea (138 + 3 * k) (by omega) (by omega), ea (138 + 3 * k + 1) (by omega) (by omega), ea (138 + 3 * k + 2) (by omega) (by omega)]
  exact I.2 k k0 k3
theorem bk.cg {w : Int} {f f1 : Int → Int} (w0 : 0 ≤ w) (e : ∀ j, 0 ≤ j → j < 30 → f1 j = f j) (ea : ∀ j, w - min w 30 ≤ j → j < w → a1 (1396 + 2 * (j % 1230)) = a (1396 + 2 * (j % 1230)) ∧ a1 (1396 + 2 * (j % 1230) + 1) = a (1396 + 2 * (j % 1230) + 1)) (I : bk a w f) : bk a1 w f1 := by
  intro i i0 i1
  have q := ea (w - min w 30 + i) (by omega) (by omega)
  rw [e i i0 (by omega), q.1, q.2]
  exact I i i0 i1
theorem bk.ca {w : Int} {f f1 : Int → Int} (w0 : 0 ≤ w) (e : ∀ j, 0 ≤ j → j < 30 → f1 j = f j) (ea : ∀ j, 1396 ≤ j → j < 3856 → a1 j = a j) (I : bk a w f) : bk a1 w f1 :=
  I.cg w0 e (fun j _ _ => ⟨ea _ (by omega) (by omega), ea _ (by omega) (by omega)⟩)
theorem cBook.cg (e6 : h1 c1 6 = h c 6) (e : ∀ j, 0 ≤ j → j < 30 → h1 (c1 + 8) j = h (c + 8) j) (e11 : a1 11 = a 11) (ea : ∀ j, 1396 ≤ j → j < 3856 → a1 j = a j) (I : cBook h c a n) : cBook h1 c1 a1 n := by
  unfold cBook at *
  rw [e6, e11]
  exact ⟨I.1, I.2.ca I.1.2.1 e ea⟩
theorem told.cg {y p : Int} (e : ∀ k, 0 ≤ k → k < 6 → a1 (y + k) = a (y + k)) (e7 : a1 (12 + 9 * p + 7) = a (12 + 9 * p + 7)) (e8 : a1 (12 + 9 * p + 8) = a (12 + 9 * p + 8)) (I : told a y p) : told a1 y p := by
  unfold told at *
  rw [e 0 (by decide) (by decide), e 1 (by decide) (by decide), e7, e8]
  refine ⟨I.1, I.2.1, fun k k0 k4 => ?_⟩
  rw [e (2 + k) (by omega) (by omega)]
  exact I.2.2 k k0 k4
/-- a row, by its own cells; the book's cells that it needs -/
theorem cRow.cg {r x r1 x1 : Int} (e : ∀ j, 0 ≤ j → j < 71 → h1 (c1 + 22) (r1 + j) = h (c + 22) (r + j)) (ea : ∀ j, 0 ≤ j → j < 41 → a1 (x1 + j) = a (x + j)) (e0 : a x ≤ a 0 → a x ≤ a1 0)
    (eb : ∀ j, a (x + 4) - min (a (x + 4)) 30 ≤ j → j < a (x + 4) → a1 (1396 + 2 * (j % 1230)) = a (1396 + 2 * (j % 1230)) ∧ a1 (1396 + 2 * (j % 1230) + 1) = a (1396 + 2 * (j % 1230) + 1)) (I : cRow h c a r x) : cRow h1 c1 a1 r1 x1 := by
  have z := e 0 (by decide) (by decide)
  have z2 := ea 0 (by decide) (by decide)
  rw [Int.add_zero, Int.add_zero] at z z2
  unfold cRow at *
  rw [z, z2, e 1 (by decide) (by decide), e 2 (by decide) (by decide), e 3 (by decide) (by decide), e 4 (by decide) (by decide), ea 1 (by decide) (by decide), ea 2 (by decide) (by decide), ea 3 (by decide) (by decide), ea 4 (by decide) (by decide)]
  obtain ⟨i1, i2, i3, i4, i5, i6, i7⟩ := I
  refine ⟨⟨i1.1, i1.2.1, e0 i1.2.2⟩, i2, i3, i4, i5, i6.cg i5.2 (fun j _ _ => ?_) eb, fun p p0 p6 => ?_⟩
  · have q := e (41 + j) (by omega) (by omega)
    rw [← Int.add_assoc, ← Int.add_assoc] at q
    exact q
  · have q1 := e (5 + p) (by omega) (by omega)
    have q2 := e (11 + p) (by omega) (by omega)
    have q3 := ea (5 + 6 * p + 0) (by omega) (by omega)
    have q4 := ea (5 + 6 * p + 1) (by omega) (by omega)
    simp only [← Int.add_assoc] at q1 q2 q3 q4
    rw [q1, q2, q3, q4]
    refine ⟨(i7 p p0 p6).1, (i7 p p0 p6).2.1, fun k k0 k4 => ?_⟩
    have q5 : h1 (c1 + 22) (r1 + 17 + (p * 4 + k)) = h (c + 22) (r + 17 + (p * 4 + k)) := eqc (e (17 + (p * 4 + k)) (by omega) (by omega)) (by omega) (by omega)
    have q6 : a1 (x1 + 5 + 6 * p + (2 + k)) = a (x + 5 + 6 * p + (2 + k)) := eqc (ea (5 + 6 * p + (2 + k)) (by omega) (by omega)) (by omega) (by omega)
    rw [q5, q6]
    exact (i7 p p0 p6).2.2 k k0 k4
end FR
