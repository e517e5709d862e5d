/-! a call that only reads -/
def Same (h h1 : Hp) : Prop := ∀ o, ¬ scr o → h1 o = h o
theorem Same.rf {h : Hp} : Same h h := fun _ _ => rfl
theorem Same.tr {h h1 h2 : Hp} (a : Same h h1) (b : Same h1 h2) : Same h h2 := fun o c => (b o c).trans (a o c)
theorem opR {mc mr : Nat} {av : List AV} (fc fr : Hp → Int)
    (hc : ∀ n h (Q : aPO), Inv n h → (∀ h1, Same h h1 → Q (vI (fc h)) h1) → Runs 150 mc 0 (pad (ents (vA 0 :: av)) (mLo mc)) [] h Q)
    (hr : ∀ n h (Q : aPO), Inv n h → (∀ h1, Same h h1 → Q (vI (fr h)) h1) → Runs 150 mr 0 (pad (ents (vA 84 :: av)) (mLo mr)) [] h Q)
    (hf : ∀ n h h1, Inv n h → Same h h1 → Inv n h1 → fr h1 = fc h) : OpI Inv mc mr av := by
  intro n hn h I ok
  refine hc n h _ I (fun h1 s => ⟨_, rfl, ?_⟩)
  have I1 := I.sc s
  refine hr n h1 _ I1 (fun h2 s2 => ⟨?_, (I1.sc s2).le (by omega)⟩)
  rw [hf n h h1 I s I1]
theorem b2i_z {c : Prop} [Decidable c] (h : b2i c = 0) : ¬ c := fun z => by rw [b2i_t z] at h; exact absurd h (by decide)
theorem b2i_nz {c : Prop} [Decidable c] (h : ¬ b2i c = 0) : c := by
  by_cases z : c
  · exact z
  · exact absurd (b2i_f z) h
section ACC
variable {n : Nat} {h : Hp}
theorem Inv.num (I : Inv n h) : cNum h 2 85 := I.1.1
theorem Inv.per (I : Inv n h) : cPer h 2 85 := I.1.2.1
theorem Inv.brim (I : Inv n h) : cBrim h 2 85 := I.1.2.2.1
theorem Inv.cost (I : Inv n h) : cCost h 2 85 := I.1.2.2.2.1
theorem Inv.way (I : Inv n h) : cWay h 2 85 := I.1.2.2.2.2.1
theorem Inv.plan (I : Inv n h) : cPlan h 2 85 := I.1.2.2.2.2.2.1
theorem Inv.year (I : Inv n h) : cYear h 2 85 := I.1.2.2.2.2.2.2.1
theorem Inv.dried (I : Inv n h) : cDried h 2 85 := I.1.2.2.2.2.2.2.2.1
theorem Inv.book (I : Inv n h) : cBook h 2 85 n := I.1.2.2.2.2.2.2.2.2.1
theorem Inv.steps (I : Inv n h) : cSteps h 2 85 := I.1.2.2.2.2.2.2.2.2.2
theorem Inv.tape (I : Inv n h) : cTape h := I.2.2.1
theorem Inv.txt (I : Inv n h) : cTxt h := I.2.2.2.1
theorem Inv.cen (I : Inv n h) : h 1 3 = 0 := I.2.2.2.2
end ACC
