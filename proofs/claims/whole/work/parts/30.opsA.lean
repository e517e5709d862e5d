/-! CALLS: the small readers -/
def aboutR (h : Hp) (x : Int) : Int := if 0 ≤ x ∧ x ≤ 6 then h 85 x else if x = 7 then h 84 4 else -2
theorem sp_rAbout {d : Nat} {x : Int} {h : Hp} {Q : aPO} (k : Q (vI (aboutR h x)) h) : Runs (d + 1) 306 0 [vA 84, vI x] [] h Q := by
  refine Runs.go 20 [] ?_
  refine sp_isIn ?_
  refine br.i (fun c => ?_) (fun c => ?_)
  · have c1 := b2i_z c
    refine br.i (fun c2 => ?_) (fun c2 => ?_)
    · exact QI k (by unfold aboutR; rw [if_neg c1, if_neg c2])
    · exact QI k (by unfold aboutR; rw [if_neg c1, if_pos (by omega)])
  · have c1 := b2i_nz c
    exact ⟨⟨by omega, show _ < (3856 : Int) by omega⟩, QI k (by unfold aboutR; rw [if_pos c1])⟩
theorem o_about : op_about Inv := by
  intro x hx
  refine opR (fun h => aboutR h (x 1)) (fun h => aboutR h (x 1)) (fun n h Q I k => ?_) (fun n h Q I k => ?_) (fun n h h1 I s I1 => ?_)
  · refine Runs.go 50 [] ?_
    refine br.i (fun c => QI (k _ Same.rf) (by unfold aboutR; rw [c]; exact I.num.1.1)) (fun c0 => ?_)
    refine br.i (fun c => QI (k _ Same.rf) (by unfold aboutR; rw [c]; exact I.num.2.2.2.2.1.1)) (fun c1 => ?_)
    refine br.i (fun c => QI (k _ Same.rf) (by unfold aboutR; rw [c]; exact I.num.2.2.2.2.2.1)) (fun c2 => ?_)
    refine br.i (fun c => QI (k _ Same.rf) (by unfold aboutR; rw [c]; exact I.steps.1.1)) (fun c3 => ?_)
    refine br.i (fun c => QI (k _ Same.rf) (by unfold aboutR; rw [c]; exact I.plan.1.1)) (fun c4 => ?_)
    refine br.i (fun c => QI (k _ Same.rf) (by unfold aboutR; rw [c]; exact I.year.1.1)) (fun c5 => ?_)
    refine br.i (fun c => QI (k _ Same.rf) (by unfold aboutR; rw [c]; exact I.dried.1.1)) (fun c6 => ?_)
    refine br.i (fun c => QI (k _ Same.rf) (by unfold aboutR; rw [c]; exact I.tape.1.1)) (fun c7 => ?_)
    exact QI (k _ Same.rf) (by unfold aboutR; rw [if_neg (by omega), if_neg (by omega)])
  · exact sp_rAbout (k _ Same.rf)
  · unfold aboutR
    rw [s 85 (by unfold scr; omega), s 84 (by unfold scr; omega)]
def isR (h : Hp) (x : Int) : Int := if 0 ≤ x ∧ x ≤ 2 then h 85 (8 + x) else if 3 ≤ x ∧ x ≤ 5 then h 85 (66 + x - 3) else -2
theorem sp_rIs {d : Nat} {x : Int} {h : Hp} {Q : aPO} (k : Q (vI (isR h x)) h) : Runs (d + 1) 259 0 [vA 84, vI x] [] h Q := by
  refine Runs.go 20 [] ?_
  refine sp_isIn ?_
  refine br.i (fun c => ?_) (fun c => ?_)
  · have c1 := b2i_z c
    refine sp_isIn ?_
    refine br.i (fun c2 => ?_) (fun c2 => ?_)
    · exact QI k (by unfold isR; rw [if_neg c1, if_neg (b2i_z c2)])
    · have c3 := b2i_nz c2
      exact ⟨by omega, ⟨by omega, ⟨⟨by omega, show _ < (3856 : Int) by omega⟩, QI k (by unfold isR; rw [if_neg c1, if_pos c3])⟩⟩⟩
  · have c1 := b2i_nz c
    exact ⟨by omega, ⟨⟨by omega, show _ < (3856 : Int) by omega⟩, QI k (by unfold isR; rw [if_pos c1])⟩⟩
theorem o_is : op_is Inv := by
  intro x hx
  refine opR (fun h => isR h (x 1)) (fun h => isR h (x 1)) (fun n h Q I k => ?_) (fun n h Q I k => ?_) (fun n h h1 I s I1 => ?_)
  · refine Runs.go 50 [] ?_
    refine br.i (fun c => QI (k _ Same.rf) (by unfold isR; rw [c]; exact I.num.2.2.1.1)) (fun c0 => ?_)
    refine br.i (fun c => QI (k _ Same.rf) (by unfold isR; rw [c]; exact I.num.2.1.1)) (fun c1 => ?_)
    refine br.i (fun c => QI (k _ Same.rf) (by unfold isR; rw [c]; exact I.num.2.2.2.1.1)) (fun c2 => ?_)
    refine br.i (fun c => ⟨by decide, QI (k _ Same.rf) (by unfold isR; rw [c]; exact (I.brim 0 (by omega) (by omega)).1)⟩) (fun c3 => ?_)
    refine br.i (fun c => ⟨by decide, QI (k _ Same.rf) (by unfold isR; rw [c]; exact (I.brim 1 (by omega) (by omega)).1)⟩) (fun c4 => ?_)
    refine br.i (fun c => ⟨by decide, QI (k _ Same.rf) (by unfold isR; rw [c]; exact (I.brim 2 (by omega) (by omega)).1)⟩) (fun c5 => ?_)
    exact QI (k _ Same.rf) (by unfold isR; rw [if_neg (by omega), if_neg (by omega)])
  · exact sp_rIs (k _ Same.rf)
  · unfold isR
    rw [s 85 (by unfold scr; omega)]
