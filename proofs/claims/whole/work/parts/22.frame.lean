/-! FRAMES -/
theorem Core.fr {h h1 : Hp} {c A n : Nat} (e : ∀ o, c ≤ o → o ≤ c + 22 → h1 o = h o) (eA : h1 A = h A) (I : Core h c A n) : Core h1 c A n := by
  have e0 : h1 c = h c := e _ (by omega) (by omega)
  have e1 : h1 (c + 1) = h (c + 1) := e _ (by omega) (by omega)
  have e2 : h1 (c + 2) = h (c + 2) := e _ (by omega) (by omega)
  have e3 : h1 (c + 3) = h (c + 3) := e _ (by omega) (by omega)
  have e4 : h1 (c + 4) = h (c + 4) := e _ (by omega) (by omega)
  have e5 : h1 (c + 5) = h (c + 5) := e _ (by omega) (by omega)
  have e6 : h1 (c + 6) = h (c + 6) := e _ (by omega) (by omega)
  have e7 : h1 (c + 7) = h (c + 7) := e _ (by omega) (by omega)
  have e8 : h1 (c + 8) = h (c + 8) := e _ (by omega) (by omega)
  have e9 : h1 (c + 9) = h (c + 9) := e _ (by omega) (by omega)
  have e10 : h1 (c + 10) = h (c + 10) := e _ (by omega) (by omega)
  have e11 : h1 (c + 11) = h (c + 11) := e _ (by omega) (by omega)
  have e13 : h1 (c + 13) = h (c + 13) := e _ (by omega) (by omega)
  have e14 : h1 (c + 14) = h (c + 14) := e _ (by omega) (by omega)
  have e15 : h1 (c + 15) = h (c + 15) := e _ (by omega) (by omega)
  have e17 : h1 (c + 17) = h (c + 17) := e _ (by omega) (by omega)
  have e18 : h1 (c + 18) = h (c + 18) := e _ (by omega) (by omega)
  have e19 : h1 (c + 19) = h (c + 19) := e _ (by omega) (by omega)
  have e20 : h1 (c + 20) = h (c + 20) := e _ (by omega) (by omega)
  have e21 : h1 (c + 21) = h (c + 21) := e _ (by omega) (by omega)
  have e22 : h1 (c + 22) = h (c + 22) := e _ (by omega) (by omega)
  unfold Core cNum cPer cBrim cCost cWay cPlan cYear cDried cBook cSteps at *
  unfold cOne cRow told bk at *
  simp only [e0, eA, e1, e2, e3, e4, e5, e6, e7, e8, e9, e10, e11, e13, e14, e15, e17, e18, e19, e20, e21, e22]
  exact I
theorem LawC.fr {h h1 : Hp} {T : Nat} {s : Int} {F : aF} (e : ∀ o, T ≤ o → o < T + 6 → h1 o = h o) (I : LawC h T s F) : LawC h1 T s F := fun d h2 Q e2 => I d h2 Q (fun o a b => (e2 o a b).trans (e o a b))
theorem LawR.fr {h h1 : Hp} {t k : Int} {F : aF} (e : h1 87 = h 87) (I : LawR h t k F) : LawR h1 t k F := fun d h2 Q e2 => I d h2 Q (e2.trans e)
theorem TxtOK.fr {h h1 : Hp} {T : Nat} {t : Int} (e : ∀ o, T ≤ o → o < T + 6 → h1 o = h o) (e7 : h1 87 = h 87) (I : TxtOK h T t) : TxtOK h1 T t := by
  have e0 : h1 T = h T := e _ (by omega) (by omega)
  have e1 : h1 (T + 1) = h (T + 1) := e _ (by omega) (by omega)
  have e4 : h1 (T + 4) = h (T + 4) := e _ (by omega) (by omega)
  unfold TxtOK at *
  simp only [e0, e1, e4, e7]
  refine ⟨I.1, I.2.1, fun s a b => ?_⟩
  rcases I.2.2 s a b with c | ⟨c, k, c1, c2, c3, F, f1, f2, f3⟩
  · exact Or.inl c
  · exact Or.inr ⟨c, k, c1, c2, c3, F, f1, f2.fr e, f3.fr e7⟩
theorem cTxt.fr {h h1 : Hp} (e : ∀ o, 52 ≤ o → o < 76 → h1 o = h o) (e5 : h1 85 1 = h 85 1) (e6 : h1 86 1 = h 86 1) (e7 : h1 87 = h 87) (I : cTxt h) : cTxt h1 := by
  unfold cTxt at *
  rw [e5, e6]
  exact ⟨I.1, fun a => (I.2.1 a).fr (fun o a b => e o (by omega) (by omega)) e7, fun a => (I.2.2.1 a).fr (fun o a b => e o (by omega) (by omega)) e7, fun a => (I.2.2.2.1 a).fr (fun o a b => e o (by omega) (by omega)) e7, fun a => (I.2.2.2.2 a).fr (fun o a b => e o (by omega) (by omega)) e7⟩
theorem cTape.fr {h h1 : Hp} (e0 : h1 0 = h 0) (e4 : h1 84 = h 84) (e3 : h1 83 = h 83) (e8 : h1 88 = h 88) (I : cTape h) : cTape h1 := by
  unfold cTape at *
  rw [e0, e3, e4, e8]
  exact I
/-- what is scratch may change -/
theorem Inv.sc {n : Nat} {h h1 : Hp} (e : ∀ o, ¬ scr o → h1 o = h o) (I : Inv n h) : Inv n h1 := by
  have E : ∀ o, (o < 49 ∨ (50 < o ∧ o < 76) ∨ (82 < o ∧ o < 89)) → h1 o = h o := fun o a => e o (by unfold scr; omega)
  exact ⟨I.1.fr (fun o a b => E o (by omega)) (E _ (by omega)), I.2.1.fr (fun o a b => E o (by omega)) (E _ (by omega)), I.2.2.1.fr (E _ (by omega)) (E _ (by omega)) (E _ (by omega)) (E _ (by omega)),
    I.2.2.2.1.fr (fun o a b => E o (by omega)) (by rw [E 85 (by omega)]) (by rw [E 86 (by omega)]) (E _ (by omega)), by rw [E 1 (by omega)]; exact I.2.2.2.2⟩
theorem Core.le {h : Hp} {c A n m : Nat} (hm : n ≤ m) (I : Core h c A n) : Core h c A m := by
  obtain ⟨a1, a2, a3, a4, a5, a6, a7, a8, ⟨⟨b1, b2, b3⟩, b4⟩, a10⟩ := I
  exact ⟨a1, a2, a3, a4, a5, a6, a7, a8, ⟨⟨b1, b2, by omega⟩, b4⟩, a10⟩
theorem Inv.le {h : Hp} {n m : Nat} (hm : n ≤ m) (I : Inv n h) : Inv m h := ⟨I.1.le hm, I.2.1.le hm, I.2.2⟩
