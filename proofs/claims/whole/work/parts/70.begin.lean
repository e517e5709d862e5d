/-! THE BEGINNING: the invariant holds behind the constructors -/
theorem i_all {P : Int → Prop} {m : Int} (n : Nat) (e : m = (n : Int)) (h : ∀ k : Fin n, P ((k.val : Nat) : Int)) : ∀ i, 0 ≤ i → i < m → P i := by
  intro i a b
  have q := h ⟨i.toNat, by omega⟩
  have e2 : ((i.toNat : Nat) : Int) = i := by omega
  rw [← e2]
  exact q
theorem g2_num : cNum hInit 2 (hInit 85) := by unfold cNum; decide +kernel
theorem g2_per : cPer hInit 2 (hInit 85) := by
  intro p p0 p6
  have q : p = 0 ∨ p = 1 ∨ p = 2 ∨ p = 3 ∨ p = 4 ∨ p = 5 := by omega
  unfold cOne
  rcases q with q | q | q | q | q | q <;> subst q <;> exact ⟨by decide +kernel, by decide +kernel, by decide +kernel, i_all 4 rfl (by decide +kernel), by decide +kernel, by decide +kernel⟩
theorem g2_brim : cBrim hInit 2 (hInit 85) := by unfold cBrim; exact i_all 3 rfl (by decide +kernel)
theorem g2_cost : cCost hInit 2 (hInit 85) := by unfold cCost; exact i_all 3 rfl (by decide +kernel)
theorem g2_way : cWay hInit 2 (hInit 85) := by unfold cWay; exact i_all 36 rfl (by decide +kernel)
theorem g2_plan : cPlan hInit 2 (hInit 85) := by unfold cPlan; exact ⟨by decide +kernel, i_all 8 rfl (by decide +kernel)⟩
theorem g2_year : cYear hInit 2 (hInit 85) := by unfold cYear; exact ⟨by decide +kernel, i_all 8 rfl (by decide +kernel)⟩
theorem g2_dried : cDried hInit 2 (hInit 85) := by unfold cDried; exact ⟨by decide +kernel, i_all 8 rfl (by decide +kernel)⟩
theorem g2_e11 : hInit 85 11 = 0 := by decide +kernel
theorem g2_e3 : hInit 85 3 = 0 := by decide +kernel
theorem g2_book : cBook hInit 2 (hInit 85) 0 := by
  unfold cBook
  refine ⟨by decide +kernel, ?_⟩
  intro i i0 i1
  rw [g2_e11] at i1
  omega
theorem g2_steps : cSteps hInit 2 (hInit 85) := by
  have e := g2_e3
  unfold cSteps cSeq
  refine ⟨by decide +kernel, by decide +kernel, fun j j0 j1 => ?_, fun i j x y z => ?_, fun i x y => ?_, fun j p x y z => ?_⟩
  · rw [e] at j1; omega
  · rw [e] at z; omega
  · rw [e] at y; omega
  · rw [e] at y; omega
theorem g2_now : cNow (hInit 85) := by
  intro p x
  rw [g2_e3] at x
  omega
theorem g2_all : CG hInit 2 (hInit 85) 0 := ⟨g2_num, g2_per, g2_brim, g2_cost, g2_way, g2_plan, g2_year, g2_dried, g2_book, g2_steps, g2_now⟩
theorem g25_num : cNum hInit 25 (hInit 86) := by unfold cNum; decide +kernel
theorem g25_per : cPer hInit 25 (hInit 86) := by
  intro p p0 p6
  have q : p = 0 ∨ p = 1 ∨ p = 2 ∨ p = 3 ∨ p = 4 ∨ p = 5 := by omega
  unfold cOne
  rcases q with q | q | q | q | q | q <;> subst q <;> exact ⟨by decide +kernel, by decide +kernel, by decide +kernel, i_all 4 rfl (by decide +kernel), by decide +kernel, by decide +kernel⟩
theorem g25_brim : cBrim hInit 25 (hInit 86) := by unfold cBrim; exact i_all 3 rfl (by decide +kernel)
theorem g25_cost : cCost hInit 25 (hInit 86) := by unfold cCost; exact i_all 3 rfl (by decide +kernel)
theorem g25_way : cWay hInit 25 (hInit 86) := by unfold cWay; exact i_all 36 rfl (by decide +kernel)
theorem g25_plan : cPlan hInit 25 (hInit 86) := by unfold cPlan; exact ⟨by decide +kernel, i_all 8 rfl (by decide +kernel)⟩
theorem g25_year : cYear hInit 25 (hInit 86) := by unfold cYear; exact ⟨by decide +kernel, i_all 8 rfl (by decide +kernel)⟩
theorem g25_dried : cDried hInit 25 (hInit 86) := by unfold cDried; exact ⟨by decide +kernel, i_all 8 rfl (by decide +kernel)⟩
theorem g25_e11 : hInit 86 11 = 0 := by decide +kernel
theorem g25_e3 : hInit 86 3 = 0 := by decide +kernel
theorem g25_book : cBook hInit 25 (hInit 86) 0 := by
  unfold cBook
  refine ⟨by decide +kernel, ?_⟩
  intro i i0 i1
  rw [g25_e11] at i1
  omega
theorem g25_steps : cSteps hInit 25 (hInit 86) := by
  have e := g25_e3
  unfold cSteps cSeq
  refine ⟨by decide +kernel, by decide +kernel, fun j j0 j1 => ?_, fun i j x y z => ?_, fun i x y => ?_, fun j p x y z => ?_⟩
  · rw [e] at j1; omega
  · rw [e] at z; omega
  · rw [e] at y; omega
  · rw [e] at y; omega
theorem g25_now : cNow (hInit 86) := by
  intro p x
  rw [g25_e3] at x
  omega
theorem g25_all : CG hInit 25 (hInit 86) 0 := ⟨g25_num, g25_per, g25_brim, g25_cost, g25_way, g25_plan, g25_year, g25_dried, g25_book, g25_steps, g25_now⟩
theorem g_tape : cTape hInit := by
  unfold cTape
  refine ⟨by decide +kernel, by decide +kernel, by decide +kernel, fun i x y => ?_⟩
  have e : hInit 84 4 = 0 := by decide +kernel
  rw [e] at y
  omega
theorem inv_begin : Inv 0 hInit := by
  refine ⟨g2_all, g25_all, g_tape, by decide +kernel, by decide +kernel, fun _ _ => none, fun t _ x => ?_⟩
  have e : hInit 85 1 = 0 := by decide +kernel
  rw [e] at x
  omega
