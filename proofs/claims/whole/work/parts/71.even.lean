/-! CALLS: even, the rooms of two sides -/
abbrev bt (s k : Int) : Prop := iAnd (iShr s k) 1 = 1
/-- one side against the other, over the first i people -/
def dSd (a : aA) (P s : Int) (i : Int) : Int := fI (fun y p => if bt P p then y + (if bt s p then pRoom a p else - pRoom a p) else y) 0 i
theorem dSd_s {a : aA} {P s i : Int} (h : 0 ≤ i) : dSd a P s (i + 1) = if bt P i then dSd a P s i + (if bt s i then pRoom a i else - pRoom a i) else dSd a P s i := fI_s (st := fun y p => if bt P p then y + (if bt s p then pRoom a p else - pRoom a p) else y) h
theorem dSd_r {a : aA} (w : Wf a) {P s : Int} : ∀ i, 0 ≤ i → i ≤ 6 → -100000 * i ≤ dSd a P s i ∧ dSd a P s i ≤ 100000 * i := by
  refine fI_i (st := fun y p => if bt P p then y + (if bt s p then pRoom a p else - pRoom a p) else y) (n := 6) (fun i y => -100000 * i ≤ y ∧ y ≤ 100000 * i) (by omega) (fun i y i0 i6 z => ?_)
  have q := w.room ⟨i0, i6⟩
  show -100000 * (i + 1) ≤ (if bt P i then y + (if bt s i then pRoom a i else - pRoom a i) else y) ∧ (if bt P i then y + (if bt s i then pRoom a i else - pRoom a i) else y) ≤ 100000 * (i + 1)
  split
  · split <;> omega
  · omega
/-- the rooms of a set -/
def rSd (a : aA) (s : Int) (i : Int) : Int := fI (fun y p => y + (if bt s p then pRoom a p else 0)) 0 i
theorem rSd_s {a : aA} {s i : Int} (h : 0 ≤ i) : rSd a s (i + 1) = rSd a s i + (if bt s i then pRoom a i else 0) := fI_s (st := fun y p => y + (if bt s p then pRoom a p else 0)) h
theorem rSd_r {a : aA} (w : Wf a) {s : Int} : ∀ i, 0 ≤ i → i ≤ 6 → 0 ≤ rSd a s i ∧ rSd a s i ≤ 100000 * i := by
  refine fI_i (st := fun y p => y + (if bt s p then pRoom a p else 0)) (n := 6) (fun i y => 0 ≤ y ∧ y ≤ 100000 * i) (by omega) (fun i y i0 i6 z => ?_)
  have q := w.room ⟨i0, i6⟩
  show 0 ≤ y + (if bt s i then pRoom a i else 0) ∧ y + (if bt s i then pRoom a i else 0) ≤ 100000 * (i + 1)
  split <;> omega
section EV
variable {d : Nat} {h : Hp} {Q : aPO} {a : aA} {n s : Int}
theorem r_rooms (w : Wf (h 85)) (k : Q (vI (rSd (h 85) s (h 85 0))) h) : Runs (d + 2) 297 0 [vA 84, vI s, none, none] [] h Q := by
  have q0 := w.p0
  refine Runs.go 20 [4] ?_
  have R0 : ∀ y : Int, y = rSd (h 85) s 0 → Runs (d + 2) 297 4 [vA 84, vI s, vI y, vI 0] [] h Q := by
    intro y e
    rw [e]
    refine downI (R := fun i => Runs (d + 2) 297 4 [vA 84, vI s, vI (rSd (h 85) s i), vI i] [] h Q) (x := 0) (n := h 85 0) q0.1 ?_ (fun i i0 i3 r => ?_)
    · refine Runs.go 10 [] ?_
      exact ⟨by decide, br.t (show h 85 0 ≤ h 85 0 by omega) k⟩
    · have b := rSd_r w (s := s) i i0 (by omega)
      have m := w.room (p := i) (by omega)
      rw [rSd_s i0] at r
      refine Runs.go 40 [4] ?_
      refine ⟨by decide, br.f (show ¬ h 85 0 ≤ i by omega) ?_⟩
      refine r_has ?_
      refine br.i (fun z => ⟨by omega, ⟨by omega, ?_⟩⟩) (fun z => ?_)
      · have z' : ¬ bt s i := b2i_z z
        rw [if_neg z'] at r
        exact r
      · have z' : bt s i := b2i_nz z
        rw [if_pos z'] at r
        refine r_roomOf w (by omega) ?_
        exact ⟨by omega, ⟨by omega, r⟩⟩
  exact R0 0 rfl
theorem c_diff {P : Int} (I : CG h 2 a n) (hn : n ≤ 30000) (k : Q (vI (if dSd a P s (a 0) < 0 then - dSd a P s (a 0) else dSd a P s (a 0))) h) : Runs (d + 2) 36 0 [vA 2, vI P, vI s, none, none] [] h Q := by
  have w := I.wf hn
  have q0 := w.p0
  have e0 : h 2 0 = a 0 := I.num.1.1
  refine Runs.go 20 [5] ?_
  have R0 : ∀ y : Int, y = dSd a P s 0 → Runs (d + 2) 36 5 [vA 2, vI P, vI s, vI y, vI 0] [] h Q := by
    intro y e
    rw [e]
    refine downI (R := fun i => Runs (d + 2) 36 5 [vA 2, vI P, vI s, vI (dSd a P s i), vI i] [] h Q) (x := 0) (n := a 0) q0.1 ?_ (fun i i0 i3 r => ?_)
    · have b := dSd_r w (P := P) (s := s) (a 0) q0.1 q0.2
      refine Runs.go 10 [] ?_
      refine br.t (show h 2 0 ≤ a 0 by omega) ?_
      refine ⟨by omega, QI k ?_⟩
      split <;> omega
    · have b := dSd_r w (P := P) (s := s) i i0 (by omega)
      have m := w.room (p := i) (by omega)
      rw [dSd_s i0] at r
      refine Runs.go 60 [5] ?_
      refine br.f (show ¬ h 2 0 ≤ i by omega) ?_
      refine br.i (fun z => ?_) (fun z => ?_)
      · have z' : ¬ bt P i := z
        rw [if_neg z'] at r
        exact ⟨by omega, r⟩
      · have z' : bt P i := Decidable.not_not.mp z
        rw [if_pos z'] at r
        refine br.i (fun z => ?_) (fun z => ?_)
        · have z' : ¬ bt s i := z
          rw [if_neg z'] at r
          refine c_room I (by omega) ?_
          exact ⟨by omega, ⟨by omega, ⟨by omega, r⟩⟩⟩
        · have z' : bt s i := Decidable.not_not.mp z
          rw [if_pos z'] at r
          refine c_room I (by omega) ?_
          exact ⟨by omega, ⟨by omega, r⟩⟩
  exact R0 0 rfl
theorem r_apart {u v : Int} (w : Wf (h 85)) (k : Q (vI (if rSd (h 85) u (h 85 0) - rSd (h 85) v (h 85 0) < 0 then - (rSd (h 85) u (h 85 0) - rSd (h 85) v (h 85 0)) else rSd (h 85) u (h 85 0) - rSd (h 85) v (h 85 0))) h) : Runs (d + 3) 298 0 [vA 84, vI u, vI v, none] [] h Q := by
  have q0 := w.p0
  have b1 := rSd_r w (s := u) (h 85 0) q0.1 q0.2
  have b2 := rSd_r w (s := v) (h 85 0) q0.1 q0.2
  refine Runs.go 40 [] ?_
  refine r_rooms w ?_
  refine r_rooms w ?_
  refine ⟨by omega, ?_⟩
  refine br.j (fun z => ⟨by omega, ?_⟩) (fun z => ?_)
  · rw [if_pos (Int.not_le.mp z)] at k
    exact k
  · rw [if_neg (Int.not_lt.mpr z)] at k
    exact k
end EV
theorem bt_t : ∀ k : Fin 6, ∀ s P : Fin 64, iAnd s.val (iXor P.val (-1)) = 0 → (bt s.val k.val → bt P.val k.val) ∧ (bt (iAnd P.val (iXor s.val (-1))) k.val ↔ bt P.val k.val ∧ ¬ bt s.val k.val) := by decide +kernel
