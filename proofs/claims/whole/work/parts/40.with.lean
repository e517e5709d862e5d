/-! ONE PART OF THE INVARIANT IS NEW, the others stay (printed by wip/whole/gen/with.py) -/
section WI
variable {h h1 : Hp} {c : Nat} {a a1 : aA} {n : Int}
theorem CG.wBrim (I : CG h c a n) (eo : ∀ o, c ≤ o → o ≤ c + 22 → o ≠ c + 5 → h1 o = h o) (ea : ∀ j, ¬ (66 ≤ j ∧ j < 69) → a1 j = a j) (nBrim : cBrim h1 c a1) : CG h1 c a1 n := by
  obtain ⟨i1, i2, i3, i4, i5, i6, i7, i8, i9, i10, i11⟩ := I
  have q0 := i1.1.2
  have q3 := i10.1.2.2
  exact ⟨i1.cg (fun j _ _ => congrFun (eo c (by omega) (by omega) (by omega)) j) (fun j _ _ _ => ea j (by omega)),
    i2.cg (fun i _ _ j _ _ => congrFun (eo (c + i) (by omega) (by omega) (by omega)) j) (fun j _ _ => congrFun (eo (c + 4) (by omega) (by omega) (by omega)) j) (fun j _ _ => ea j (by omega)),
    nBrim,
    i4.cg (fun j _ _ => congrFun (eo (c + 6) (by omega) (by omega) (by omega)) j) (fun j _ _ => ea j (by omega)),
    i5.cg (fun j _ _ => congrFun (eo (c + 7) (by omega) (by omega) (by omega)) j) (fun j _ _ => ea j (by omega)),
    i6.cg (congrFun (eo (c + 9) (by omega) (by omega) (by omega)) 3) (fun i _ _ j _ _ => congrFun (eo (c + i) (by omega) (by omega) (by omega)) j) (ea 4 (by omega)) (fun j _ _ => ea j (by omega)),
    i7.cg (congrFun (eo (c + 13) (by omega) (by omega) (by omega)) 3) (fun i _ _ j _ _ => congrFun (eo (c + i) (by omega) (by omega) (by omega)) j) (ea 5 (by omega)) (fun j _ _ => ea j (by omega)),
    i8.cg (congrFun (eo (c + 17) (by omega) (by omega) (by omega)) 3) (fun i _ _ j _ _ => congrFun (eo (c + i) (by omega) (by omega) (by omega)) j) (ea 6 (by omega)) (fun j _ _ => ea j (by omega)),
    i9.cg (congrFun (eo c (by omega) (by omega) (by omega)) 6) (fun j _ _ => congrFun (eo (c + 8) (by omega) (by omega) (by omega)) j) (ea 11 (by omega)) (fun j _ _ => ea j (by omega)),
    i10.cg (congrFun (eo (c + 21) (by omega) (by omega) (by omega)) 1) (congrFun (eo (c + 21) (by omega) (by omega) (by omega)) 2) (fun j _ _ => congrFun (eo (c + 22) (by omega) (by omega) (by omega)) j) q0.2 (Int.le_of_eq (ea 0 (by omega)).symm) (ea 3 (by omega)) (ea 11 (by omega)) (fun p _ _ => ⟨ea _ (by omega), ea _ (by omega)⟩) (fun j _ _ => ea j (by omega)),
    i11.cg q3 i10.hp q0.2 (fun j _ _ _ => ea j (by omega))⟩
theorem CG.wCost (I : CG h c a n) (eo : ∀ o, c ≤ o → o ≤ c + 22 → o ≠ c + 6 → h1 o = h o) (ea : ∀ j, ¬ (162 ≤ j ∧ j < 165) → a1 j = a j) (nCost : cCost h1 c a1) : CG h1 c a1 n := by
  obtain ⟨i1, i2, i3, i4, i5, i6, i7, i8, i9, i10, i11⟩ := I
  have q0 := i1.1.2
  have q3 := i10.1.2.2
  exact ⟨i1.cg (fun j _ _ => congrFun (eo c (by omega) (by omega) (by omega)) j) (fun j _ _ _ => ea j (by omega)),
    i2.cg (fun i _ _ j _ _ => congrFun (eo (c + i) (by omega) (by omega) (by omega)) j) (fun j _ _ => congrFun (eo (c + 4) (by omega) (by omega) (by omega)) j) (fun j _ _ => ea j (by omega)),
    i3.cg (fun j _ _ => congrFun (eo (c + 5) (by omega) (by omega) (by omega)) j) (fun j _ _ => ea j (by omega)),
    nCost,
    i5.cg (fun j _ _ => congrFun (eo (c + 7) (by omega) (by omega) (by omega)) j) (fun j _ _ => ea j (by omega)),
    i6.cg (congrFun (eo (c + 9) (by omega) (by omega) (by omega)) 3) (fun i _ _ j _ _ => congrFun (eo (c + i) (by omega) (by omega) (by omega)) j) (ea 4 (by omega)) (fun j _ _ => ea j (by omega)),
    i7.cg (congrFun (eo (c + 13) (by omega) (by omega) (by omega)) 3) (fun i _ _ j _ _ => congrFun (eo (c + i) (by omega) (by omega) (by omega)) j) (ea 5 (by omega)) (fun j _ _ => ea j (by omega)),
    i8.cg (congrFun (eo (c + 17) (by omega) (by omega) (by omega)) 3) (fun i _ _ j _ _ => congrFun (eo (c + i) (by omega) (by omega) (by omega)) j) (ea 6 (by omega)) (fun j _ _ => ea j (by omega)),
    i9.cg (congrFun (eo c (by omega) (by omega) (by omega)) 6) (fun j _ _ => congrFun (eo (c + 8) (by omega) (by omega) (by omega)) j) (ea 11 (by omega)) (fun j _ _ => ea j (by omega)),
    i10.cg (congrFun (eo (c + 21) (by omega) (by omega) (by omega)) 1) (congrFun (eo (c + 21) (by omega) (by omega) (by omega)) 2) (fun j _ _ => congrFun (eo (c + 22) (by omega) (by omega) (by omega)) j) q0.2 (Int.le_of_eq (ea 0 (by omega)).symm) (ea 3 (by omega)) (ea 11 (by omega)) (fun p _ _ => ⟨ea _ (by omega), ea _ (by omega)⟩) (fun j _ _ => ea j (by omega)),
    i11.cg q3 i10.hp q0.2 (fun j _ _ _ => ea j (by omega))⟩
theorem CG.wWay (I : CG h c a n) (eo : ∀ o, c ≤ o → o ≤ c + 22 → o ≠ c + 7 → h1 o = h o) (ea : ∀ j, ¬ (86 ≤ j ∧ j < 122) → a1 j = a j) (nWay : cWay h1 c a1) : CG h1 c a1 n := by
  obtain ⟨i1, i2, i3, i4, i5, i6, i7, i8, i9, i10, i11⟩ := I
  have q0 := i1.1.2
  have q3 := i10.1.2.2
  exact ⟨i1.cg (fun j _ _ => congrFun (eo c (by omega) (by omega) (by omega)) j) (fun j _ _ _ => ea j (by omega)),
    i2.cg (fun i _ _ j _ _ => congrFun (eo (c + i) (by omega) (by omega) (by omega)) j) (fun j _ _ => congrFun (eo (c + 4) (by omega) (by omega) (by omega)) j) (fun j _ _ => ea j (by omega)),
    i3.cg (fun j _ _ => congrFun (eo (c + 5) (by omega) (by omega) (by omega)) j) (fun j _ _ => ea j (by omega)),
    i4.cg (fun j _ _ => congrFun (eo (c + 6) (by omega) (by omega) (by omega)) j) (fun j _ _ => ea j (by omega)),
    nWay,
    i6.cg (congrFun (eo (c + 9) (by omega) (by omega) (by omega)) 3) (fun i _ _ j _ _ => congrFun (eo (c + i) (by omega) (by omega) (by omega)) j) (ea 4 (by omega)) (fun j _ _ => ea j (by omega)),
    i7.cg (congrFun (eo (c + 13) (by omega) (by omega) (by omega)) 3) (fun i _ _ j _ _ => congrFun (eo (c + i) (by omega) (by omega) (by omega)) j) (ea 5 (by omega)) (fun j _ _ => ea j (by omega)),
    i8.cg (congrFun (eo (c + 17) (by omega) (by omega) (by omega)) 3) (fun i _ _ j _ _ => congrFun (eo (c + i) (by omega) (by omega) (by omega)) j) (ea 6 (by omega)) (fun j _ _ => ea j (by omega)),
    i9.cg (congrFun (eo c (by omega) (by omega) (by omega)) 6) (fun j _ _ => congrFun (eo (c + 8) (by omega) (by omega) (by omega)) j) (ea 11 (by omega)) (fun j _ _ => ea j (by omega)),
    i10.cg (congrFun (eo (c + 21) (by omega) (by omega) (by omega)) 1) (congrFun (eo (c + 21) (by omega) (by omega) (by omega)) 2) (fun j _ _ => congrFun (eo (c + 22) (by omega) (by omega) (by omega)) j) q0.2 (Int.le_of_eq (ea 0 (by omega)).symm) (ea 3 (by omega)) (ea 11 (by omega)) (fun p _ _ => ⟨ea _ (by omega), ea _ (by omega)⟩) (fun j _ _ => ea j (by omega)),
    i11.cg q3 i10.hp q0.2 (fun j _ _ _ => ea j (by omega))⟩
theorem CG.wPlan (I : CG h c a n) (eo : ∀ o, c ≤ o → o ≤ c + 22 → o ≠ c + 9 → o ≠ c + 10 → o ≠ c + 11 → o ≠ c + 12 → h1 o = h o) (ea : ∀ j, ¬ (j = 4) → ¬ (70 ≤ j ∧ j < 86) → a1 j = a j) (nPlan : cPlan h1 c a1) : CG h1 c a1 n := by
  obtain ⟨i1, i2, i3, i4, i5, i6, i7, i8, i9, i10, i11⟩ := I
  have q0 := i1.1.2
  have q3 := i10.1.2.2
  exact ⟨i1.cg (fun j _ _ => congrFun (eo c (by omega) (by omega) (by omega) (by omega) (by omega) (by omega)) j) (fun j _ _ _ => ea j (by omega) (by omega)),
    i2.cg (fun i _ _ j _ _ => congrFun (eo (c + i) (by omega) (by omega) (by omega) (by omega) (by omega) (by omega)) j) (fun j _ _ => congrFun (eo (c + 4) (by omega) (by omega) (by omega) (by omega) (by omega) (by omega)) j) (fun j _ _ => ea j (by omega) (by omega)),
    i3.cg (fun j _ _ => congrFun (eo (c + 5) (by omega) (by omega) (by omega) (by omega) (by omega) (by omega)) j) (fun j _ _ => ea j (by omega) (by omega)),
    i4.cg (fun j _ _ => congrFun (eo (c + 6) (by omega) (by omega) (by omega) (by omega) (by omega) (by omega)) j) (fun j _ _ => ea j (by omega) (by omega)),
    i5.cg (fun j _ _ => congrFun (eo (c + 7) (by omega) (by omega) (by omega) (by omega) (by omega) (by omega)) j) (fun j _ _ => ea j (by omega) (by omega)),
    nPlan,
    i7.cg (congrFun (eo (c + 13) (by omega) (by omega) (by omega) (by omega) (by omega) (by omega)) 3) (fun i _ _ j _ _ => congrFun (eo (c + i) (by omega) (by omega) (by omega) (by omega) (by omega) (by omega)) j) (ea 5 (by omega) (by omega)) (fun j _ _ => ea j (by omega) (by omega)),
    i8.cg (congrFun (eo (c + 17) (by omega) (by omega) (by omega) (by omega) (by omega) (by omega)) 3) (fun i _ _ j _ _ => congrFun (eo (c + i) (by omega) (by omega) (by omega) (by omega) (by omega) (by omega)) j) (ea 6 (by omega) (by omega)) (fun j _ _ => ea j (by omega) (by omega)),
    i9.cg (congrFun (eo c (by omega) (by omega) (by omega) (by omega) (by omega) (by omega)) 6) (fun j _ _ => congrFun (eo (c + 8) (by omega) (by omega) (by omega) (by omega) (by omega) (by omega)) j) (ea 11 (by omega) (by omega)) (fun j _ _ => ea j (by omega) (by omega)),
    i10.cg (congrFun (eo (c + 21) (by omega) (by omega) (by omega) (by omega) (by omega) (by omega)) 1) (congrFun (eo (c + 21) (by omega) (by omega) (by omega) (by omega) (by omega) (by omega)) 2) (fun j _ _ => congrFun (eo (c + 22) (by omega) (by omega) (by omega) (by omega) (by omega) (by omega)) j) q0.2 (Int.le_of_eq (ea 0 (by omega) (by omega)).symm) (ea 3 (by omega) (by omega)) (ea 11 (by omega) (by omega)) (fun p _ _ => ⟨ea _ (by omega) (by omega), ea _ (by omega) (by omega)⟩) (fun j _ _ => ea j (by omega) (by omega)),
    i11.cg q3 i10.hp q0.2 (fun j _ _ _ => ea j (by omega) (by omega))⟩
theorem CG.wYear (I : CG h c a n) (eo : ∀ o, c ≤ o → o ≤ c + 22 → o ≠ c + 13 → o ≠ c + 14 → o ≠ c + 15 → o ≠ c + 16 → h1 o = h o) (ea : ∀ j, ¬ (j = 5) → ¬ (122 ≤ j ∧ j < 138) → a1 j = a j) (nYear : cYear h1 c a1) : CG h1 c a1 n := by
  obtain ⟨i1, i2, i3, i4, i5, i6, i7, i8, i9, i10, i11⟩ := I
  have q0 := i1.1.2
  have q3 := i10.1.2.2
  exact ⟨i1.cg (fun j _ _ => congrFun (eo c (by omega) (by omega) (by omega) (by omega) (by omega) (by omega)) j) (fun j _ _ _ => ea j (by omega) (by omega)),
    i2.cg (fun i _ _ j _ _ => congrFun (eo (c + i) (by omega) (by omega) (by omega) (by omega) (by omega) (by omega)) j) (fun j _ _ => congrFun (eo (c + 4) (by omega) (by omega) (by omega) (by omega) (by omega) (by omega)) j) (fun j _ _ => ea j (by omega) (by omega)),
    i3.cg (fun j _ _ => congrFun (eo (c + 5) (by omega) (by omega) (by omega) (by omega) (by omega) (by omega)) j) (fun j _ _ => ea j (by omega) (by omega)),
    i4.cg (fun j _ _ => congrFun (eo (c + 6) (by omega) (by omega) (by omega) (by omega) (by omega) (by omega)) j) (fun j _ _ => ea j (by omega) (by omega)),
    i5.cg (fun j _ _ => congrFun (eo (c + 7) (by omega) (by omega) (by omega) (by omega) (by omega) (by omega)) j) (fun j _ _ => ea j (by omega) (by omega)),
    i6.cg (congrFun (eo (c + 9) (by omega) (by omega) (by omega) (by omega) (by omega) (by omega)) 3) (fun i _ _ j _ _ => congrFun (eo (c + i) (by omega) (by omega) (by omega) (by omega) (by omega) (by omega)) j) (ea 4 (by omega) (by omega)) (fun j _ _ => ea j (by omega) (by omega)),
    nYear,
    i8.cg (congrFun (eo (c + 17) (by omega) (by omega) (by omega) (by omega) (by omega) (by omega)) 3) (fun i _ _ j _ _ => congrFun (eo (c + i) (by omega) (by omega) (by omega) (by omega) (by omega) (by omega)) j) (ea 6 (by omega) (by omega)) (fun j _ _ => ea j (by omega) (by omega)),
    i9.cg (congrFun (eo c (by omega) (by omega) (by omega) (by omega) (by omega) (by omega)) 6) (fun j _ _ => congrFun (eo (c + 8) (by omega) (by omega) (by omega) (by omega) (by omega) (by omega)) j) (ea 11 (by omega) (by omega)) (fun j _ _ => ea j (by omega) (by omega)),
    i10.cg (congrFun (eo (c + 21) (by omega) (by omega) (by omega) (by omega) (by omega) (by omega)) 1) (congrFun (eo (c + 21) (by omega) (by omega) (by omega) (by omega) (by omega) (by omega)) 2) (fun j _ _ => congrFun (eo (c + 22) (by omega) (by omega) (by omega) (by omega) (by omega) (by omega)) j) q0.2 (Int.le_of_eq (ea 0 (by omega) (by omega)).symm) (ea 3 (by omega) (by omega)) (ea 11 (by omega) (by omega)) (fun p _ _ => ⟨ea _ (by omega) (by omega), ea _ (by omega) (by omega)⟩) (fun j _ _ => ea j (by omega) (by omega)),
    i11.cg q3 i10.hp q0.2 (fun j _ _ _ => ea j (by omega) (by omega))⟩
theorem CG.wDried (I : CG h c a n) (eo : ∀ o, c ≤ o → o ≤ c + 22 → o ≠ c + 17 → o ≠ c + 18 → o ≠ c + 19 → o ≠ c + 20 → h1 o = h o) (ea : ∀ j, ¬ (j = 6) → ¬ (138 ≤ j ∧ j < 162) → a1 j = a j) (nDried : cDried h1 c a1) : CG h1 c a1 n := by
  obtain ⟨i1, i2, i3, i4, i5, i6, i7, i8, i9, i10, i11⟩ := I
  have q0 := i1.1.2
  have q3 := i10.1.2.2
  exact ⟨i1.cg (fun j _ _ => congrFun (eo c (by omega) (by omega) (by omega) (by omega) (by omega) (by omega)) j) (fun j _ _ _ => ea j (by omega) (by omega)),
    i2.cg (fun i _ _ j _ _ => congrFun (eo (c + i) (by omega) (by omega) (by omega) (by omega) (by omega) (by omega)) j) (fun j _ _ => congrFun (eo (c + 4) (by omega) (by omega) (by omega) (by omega) (by omega) (by omega)) j) (fun j _ _ => ea j (by omega) (by omega)),
    i3.cg (fun j _ _ => congrFun (eo (c + 5) (by omega) (by omega) (by omega) (by omega) (by omega) (by omega)) j) (fun j _ _ => ea j (by omega) (by omega)),
    i4.cg (fun j _ _ => congrFun (eo (c + 6) (by omega) (by omega) (by omega) (by omega) (by omega) (by omega)) j) (fun j _ _ => ea j (by omega) (by omega)),
    i5.cg (fun j _ _ => congrFun (eo (c + 7) (by omega) (by omega) (by omega) (by omega) (by omega) (by omega)) j) (fun j _ _ => ea j (by omega) (by omega)),
    i6.cg (congrFun (eo (c + 9) (by omega) (by omega) (by omega) (by omega) (by omega) (by omega)) 3) (fun i _ _ j _ _ => congrFun (eo (c + i) (by omega) (by omega) (by omega) (by omega) (by omega) (by omega)) j) (ea 4 (by omega) (by omega)) (fun j _ _ => ea j (by omega) (by omega)),
    i7.cg (congrFun (eo (c + 13) (by omega) (by omega) (by omega) (by omega) (by omega) (by omega)) 3) (fun i _ _ j _ _ => congrFun (eo (c + i) (by omega) (by omega) (by omega) (by omega) (by omega) (by omega)) j) (ea 5 (by omega) (by omega)) (fun j _ _ => ea j (by omega) (by omega)),
    nDried,
    i9.cg (congrFun (eo c (by omega) (by omega) (by omega) (by omega) (by omega) (by omega)) 6) (fun j _ _ => congrFun (eo (c + 8) (by omega) (by omega) (by omega) (by omega) (by omega) (by omega)) j) (ea 11 (by omega) (by omega)) (fun j _ _ => ea j (by omega) (by omega)),
    i10.cg (congrFun (eo (c + 21) (by omega) (by omega) (by omega) (by omega) (by omega) (by omega)) 1) (congrFun (eo (c + 21) (by omega) (by omega) (by omega) (by omega) (by omega) (by omega)) 2) (fun j _ _ => congrFun (eo (c + 22) (by omega) (by omega) (by omega) (by omega) (by omega) (by omega)) j) q0.2 (Int.le_of_eq (ea 0 (by omega) (by omega)).symm) (ea 3 (by omega) (by omega)) (ea 11 (by omega) (by omega)) (fun p _ _ => ⟨ea _ (by omega) (by omega), ea _ (by omega) (by omega)⟩) (fun j _ _ => ea j (by omega) (by omega)),
    i11.cg q3 i10.hp q0.2 (fun j _ _ _ => ea j (by omega) (by omega))⟩
end WI
