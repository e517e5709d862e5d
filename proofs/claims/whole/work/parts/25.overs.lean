/-! OVERS -/
theorem br.j {c A B : Prop} (b : ¬ c → B) (a : c → A) : br c A B := ⟨a, b⟩
def pOv (a : aA) (p : Int) (i : Int) : Int := bS (fun k => 0 < pExc a p k (pRoom a p)) i
section OV
variable {d : Nat} {p : Int} {h : Hp} {Q : aPO} {a : aA} {n : Int}
theorem r_overs (w : Wf (h 85)) (h1 : 0 ≤ p ∧ p < 6) (k : Q (vI (pOv (h 85) p 3)) h) : Runs (d + 3) 176 0 [vA 84, vI p, none, none] [] h Q := by
  refine Runs.go 10 [4] ?_
  refine downI (R := fun i => Runs (d + 3) 176 4 [vA 84, vI p, vI (pOv (h 85) p i), vI i] [] h Q) (x := 0) (n := 3) (by decide) ?_ (fun i i0 i3 r => ?_)
  · refine Runs.go 10 [] ?_
    refine br.i (fun _ => ?_) (fun c => absurd (by decide) c)
    exact k
  · refine Runs.go 50 [4] ?_
    refine br.i (fun c => absurd c (by omega)) (fun _ => ?_)
    refine r_isOver w h1 ⟨i0, i3⟩ ?_
    refine br.i (fun c => ?_) (fun c => ?_)
    · refine ⟨by omega, ?_⟩
      rw [pOv, ← bS_or0 (f := fun k => 0 < pExc (h 85) p k (pRoom (h 85) p)) (i := i) (by omega) (b2i_z c)] at r
      exact r
    · refine ⟨by omega, ?_⟩
      rw [pOv, ← bS_or (f := fun k => 0 < pExc (h 85) p k (pRoom (h 85) p)) (i := i) (by omega) (b2i_nz c)] at r
      exact r
theorem c_overs (I : CG h 2 a n) (h1 : 0 ≤ p ∧ p < 6) (hn : n ≤ 30000) (k : Q (vI (pOv a p 3)) h) : Runs (d + 3) 13 0 [vA 2, vI p, none, none, none] [] h Q := by
  have w := (I.wf hn).room h1
  refine Runs.go 10 [11] ?_
  refine c_room I h1 ?_
  refine downI (R := fun i => Runs (d + 3) 13 11 [vA 2, vI p, vI (pRoom a p), vI (pOv a p i), vI i] [] h Q) (x := 0) (n := 3) (by decide) ?_ (fun i i0 i3 r => ?_)
  · refine Runs.go 10 [] ?_
    refine br.i (fun _ => ?_) (fun c => absurd (by decide) c)
    exact k
  · refine Runs.go 50 [11] ?_
    refine br.i (fun c => absurd c (by omega)) (fun _ => ?_)
    refine c_above I h1 ⟨i0, i3⟩ (room := pRoom a p) (by omega) ?_
    refine br.i (fun c => ?_) (fun c => ?_)
    · refine ⟨by omega, ?_⟩
      rw [pOv, ← bS_n (f := fun k => 0 < pExc a p k (pRoom a p)) (i := i) (by omega) (show ¬ 0 < _ by omega)] at r
      exact r
    · refine ⟨by omega, ?_⟩
      rw [pOv, ← bS_or (f := fun k => 0 < pExc a p k (pRoom a p)) (i := i) (by omega) (show 0 < _ by omega)] at r
      exact r
end OV
/-! CALLS: the small readers -/
def pAbout (a : aA) (t x : Int) : Int := if 0 ≤ x ∧ x ≤ 6 then a x else if x = 7 then t else -2
theorem o_about : op_about Inv := by
  intro x hx n hn h I ok
  obtain ⟨i1, i2, i3, i4⟩ := id I
  have K : ∀ z, z = pAbout (h 85) (h 84 4) (x 1) → ∃ y, vI z = vI y ∧ Runs 150 306 0 [vA 84, vI (x 1)] [] h (fun r2 h2 => r2 = vI y ∧ Inv (n + 1) h2) := by
    intro z e
    refine ⟨z, rfl, ?_⟩
    refine Runs.go 20 [] ?_
    refine r_isIn ?_
    refine br.i (fun c => ?_) (fun c => ?_)
    · have c1 := b2i_z c
      refine br.i (fun c2 => ?_) (fun c2 => ?_)
      · exact ⟨by rw [e]; unfold pAbout; rw [if_neg c1, if_neg c2], I.le (by omega)⟩
      · exact ⟨by rw [e]; unfold pAbout; rw [if_neg c1, if_pos (by omega)], I.le (by omega)⟩
    · have c1 := b2i_nz c
      exact ⟨⟨by omega, show _ < (3856 : Int) by omega⟩, by rw [e]; unfold pAbout; rw [if_pos c1], I.le (by omega)⟩
  refine Runs.go 50 [] ?_
  refine br.i (fun c => K _ (by unfold pAbout; rw [c]; exact i1.num.1.1)) (fun c0 => ?_)
  refine br.i (fun c => K _ (by unfold pAbout; rw [c]; exact i1.num.2.2.2.2.1.1)) (fun c1 => ?_)
  refine br.i (fun c => K _ (by unfold pAbout; rw [c]; exact i1.num.2.2.2.2.2.1)) (fun c2 => ?_)
  refine br.i (fun c => K _ (by unfold pAbout; rw [c]; exact i1.steps.1.1)) (fun c3 => ?_)
  refine br.i (fun c => K _ (by unfold pAbout; rw [c]; exact i1.plan.1.1)) (fun c4 => ?_)
  refine br.i (fun c => K _ (by unfold pAbout; rw [c]; exact i1.year.1.1)) (fun c5 => ?_)
  refine br.i (fun c => K _ (by unfold pAbout; rw [c]; exact i1.dried.1.1)) (fun c6 => ?_)
  refine br.i (fun c => K _ (by unfold pAbout; rw [c]; exact i3.1.1)) (fun c7 => ?_)
  exact K _ (by unfold pAbout; rw [if_neg (by omega), if_neg (by omega)])
theorem o_fault : op_fault Inv := by
  intro x hx n hn h I ok
  obtain ⟨i1, i2, i3, i4⟩ := id I
  have K : ∀ z, z = (if x 1 = 0 then h 84 5 else if x 1 = 1 then h 84 6 else -1) → ∃ y, vI z = vI y ∧ Runs 150 222 0 [vA 84, vI (x 1)] [] h (fun r2 h2 => r2 = vI y ∧ Inv (n + 1) h2) := by
    intro z e
    refine ⟨z, rfl, ?_⟩
    refine Runs.go 20 [] ?_
    refine br.i (fun c => ?_) (fun c => ?_)
    · refine br.i (fun c2 => ?_) (fun c2 => ?_)
      · exact ⟨by rw [e, if_neg c, if_neg c2], I.le (by omega)⟩
      · exact ⟨by rw [e, if_neg c, if_pos (by omega)], I.le (by omega)⟩
    · exact ⟨by rw [e, if_pos (by omega)], I.le (by omega)⟩
  refine Runs.go 50 [] ?_
  refine br.i (fun c => K _ (by rw [if_pos c]; exact i3.2.1)) (fun c0 => ?_)
  refine br.i (fun c => K _ (by rw [if_neg c0, if_pos c]; exact i3.2.2.1)) (fun c1 => ?_)
  exact K _ (by rw [if_neg c0, if_neg c1])
def pIs (a : aA) (x : Int) : Int := if 0 ≤ x ∧ x ≤ 2 then a (8 + x) else if 3 ≤ x ∧ x ≤ 5 then a (66 + x - 3) else -2
theorem o_is : op_is Inv := by
  intro x hx
  refine opR (fun a _ => pIs a (x 1)) (fun h L n Q I hn t k => ?_) (fun h L Q w t k => ?_)
  · refine Runs.go 50 [] ?_
    refine br.i (fun c => QI (k _ Same.rf) (by unfold pIs; rw [c]; exact I.num.2.2.1.1)) (fun c0 => ?_)
    refine br.i (fun c => QI (k _ Same.rf) (by unfold pIs; rw [c]; exact I.num.2.1.1)) (fun c1 => ?_)
    refine br.i (fun c => QI (k _ Same.rf) (by unfold pIs; rw [c]; exact I.num.2.2.2.1.1)) (fun c2 => ?_)
    refine br.i (fun c => ⟨by decide, QI (k _ Same.rf) (by unfold pIs; rw [c]; exact (I.brim 0 (by omega) (by omega)).1)⟩) (fun c3 => ?_)
    refine br.i (fun c => ⟨by decide, QI (k _ Same.rf) (by unfold pIs; rw [c]; exact (I.brim 1 (by omega) (by omega)).1)⟩) (fun c4 => ?_)
    refine br.i (fun c => ⟨by decide, QI (k _ Same.rf) (by unfold pIs; rw [c]; exact (I.brim 2 (by omega) (by omega)).1)⟩) (fun c5 => ?_)
    exact QI (k _ Same.rf) (by unfold pIs; rw [if_neg (by omega), if_neg (by omega)])
  · refine Runs.go 20 [] ?_
    refine r_isIn ?_
    refine br.i (fun c => ?_) (fun c => ?_)
    · have c1 := b2i_z c
      refine r_isIn ?_
      refine br.i (fun c2 => ?_) (fun c2 => ?_)
      · exact QI (k _ Same.rf) (by unfold pIs; rw [if_neg c1, if_neg (b2i_z c2)])
      · have c3 := b2i_nz c2
        exact ⟨by omega, ⟨by omega, ⟨⟨by omega, show _ < (3856 : Int) by omega⟩, QI (k _ Same.rf) (by unfold pIs; rw [if_neg c1, if_pos c3])⟩⟩⟩
    · have c1 := b2i_nz c
      exact ⟨by omega, ⟨⟨by omega, show _ < (3856 : Int) by omega⟩, QI (k _ Same.rf) (by unfold pIs; rw [if_pos c1])⟩⟩
def pOf (a : aA) (p x : Int) : Int := if 0 ≤ p ∧ p < a 0 then (if x = 0 then a (12 + 9 * p + 6) else if x = 1 then a (12 + 9 * p + 0) else if x = 2 then a (12 + 9 * p + 1) else if x = 3 then pRoom a p else if x = 4 then pOv a p 3 else -1) else -1
theorem o_of : op_of Inv := by
  intro x hx
  refine opR (fun a _ => pOf a (x 1) (x 2)) (fun h L n Q I hn t k => ?_) (fun h L Q w t k => ?_)
  · have q0 := I.num.1.2
    refine Runs.go 50 [] ?_
    refine c_has I ?_
    refine br.j (fun c => QI (k _ Same.rf) (by unfold pOf; rw [if_neg (b2i_z (by omega))])) (fun c => ?_)
    have p1 := b2i_nz c
    have z := I.per (x 1) p1.1 (by omega)
    refine br.i (fun c => ⟨⟨p1.1, show _ < (6 : Int) by omega⟩, QI (k _ Same.rf) (by unfold pOf; rw [if_pos p1, if_pos c]; exact z.1.1)⟩) (fun c0 => ?_)
    refine br.i (fun c => ⟨⟨p1.1, show _ < (6 : Int) by omega⟩, QI (k _ Same.rf) (by unfold pOf; rw [if_pos p1, if_neg c0, if_pos c]; exact z.2.1.1)⟩) (fun c1 => ?_)
    refine br.i (fun c => ⟨⟨p1.1, show _ < (6 : Int) by omega⟩, QI (k _ Same.rf) (by unfold pOf; rw [if_pos p1, if_neg c0, if_neg c1, if_pos c]; exact z.2.2.1.1)⟩) (fun c2 => ?_)
    refine br.i (fun c => c_room I (by omega) (QI (k _ Same.rf) (by unfold pOf; rw [if_pos p1, if_neg c0, if_neg c1, if_neg c2, if_pos c]))) (fun c3 => ?_)
    refine br.i (fun c => c_overs I (by omega) hn (QI (k _ Same.rf) (by unfold pOf; rw [if_pos p1, if_neg c0, if_neg c1, if_neg c2, if_neg c3, if_pos c]))) (fun c4 => ?_)
    exact QI (k _ Same.rf) (by unfold pOf; rw [if_pos p1, if_neg c0, if_neg c1, if_neg c2, if_neg c3, if_neg c4])
  · have q0 := w.p0
    refine Runs.go 50 [] ?_
    refine r_isOne w ?_
    refine br.j (fun c => QI (k _ Same.rf) (by unfold pOf; rw [if_neg (b2i_z (by omega))])) (fun c => ?_)
    have p1 := b2i_nz c
    refine br.i (fun c => r_get (by omega) (by omega) (QI (k _ Same.rf) (by unfold pOf; rw [if_pos p1, if_pos c]))) (fun c0 => ?_)
    refine br.i (fun c => r_get (by omega) (by omega) (QI (k _ Same.rf) (by unfold pOf; rw [if_pos p1, if_neg c0, if_pos c]))) (fun c1 => ?_)
    refine br.i (fun c => r_get (by omega) (by omega) (QI (k _ Same.rf) (by unfold pOf; rw [if_pos p1, if_neg c0, if_neg c1, if_pos c]))) (fun c2 => ?_)
    refine br.i (fun c => r_roomOf w (by omega) (QI (k _ Same.rf) (by unfold pOf; rw [if_pos p1, if_neg c0, if_neg c1, if_neg c2, if_pos c]))) (fun c3 => ?_)
    refine br.i (fun c => r_overs w (by omega) (QI (k _ Same.rf) (by unfold pOf; rw [if_pos p1, if_neg c0, if_neg c1, if_neg c2, if_neg c3, if_pos c]))) (fun c4 => ?_)
    exact QI (k _ Same.rf) (by unfold pOf; rw [if_pos p1, if_neg c0, if_neg c1, if_neg c2, if_neg c3, if_neg c4])
