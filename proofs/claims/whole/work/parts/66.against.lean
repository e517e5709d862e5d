/-! CALLS: against -/
section AG
variable {d : Nat} {h : Hp} {Q : aPO} {a : aA} {n p t : Int}
theorem c_washed (I : CG h 2 a n) (hn : n ≤ 30000) (hp : 0 ≤ p ∧ p < 6) (k : Q (vI (agS a p t 8)) h) : Runs (d + 4) 33 0 [vA 2, vI p, vI t, none, none, none, none, none] [] h Q := by
  refine Runs.go 20 [12] ?_
  refine c_overs I hp hn ?_
  refine downI (R := fun i => ∀ u v : AV, Runs (d + 4) 33 12 [vA 2, vI p, vI t, vI (pOv a p 3), vI (agS a p t i), vI i, u, v] [] h Q) (x := 1) (n := 8) (by decide) ?_ (fun i i0 i3 r => ?_) none none
  · intro u v
    refine Runs.go 20 [] ?_
    exact br.t (by omega) k
  · intro u v
    have rg := agS_r (a := a) (p := p) (t := t) i (by omega) (by omega)
    have p1 := popc_r (s := i)
    have p2 := popc_r (s := agS a p t i)
    have G : ∀ (b : Int) (v : AV), b = agS a p t (i + 1) → Runs (d + 4) 33 85 [vA 2, vI p, vI t, vI (pOv a p 3), vI b, vI i, vI (pTears a p i 3), v] [] h Q := by
      intro b v eb
      subst eb
      refine Runs.go 10 [12] ?_
      exact ⟨by omega, r _ _⟩
    rw [agS_s (by omega)] at G
    refine Runs.go 60 [85] ?_
    refine br.f (by omega) ?_
    refine c_tearsFor I hn hp ?_
    refine br.i (fun y => G _ _ ?_) (fun y => ?_)
    · rw [if_neg (fun q => y q.1.1)]
    have y' : iAnd i (pOv a p 3) = i := Decidable.not_not.mp y
    refine br.j (fun z => G _ _ ?_) (fun z => ?_)
    · rw [if_neg (fun q => z q.1.2)]
    refine c_bitCount (by omega) ?_
    refine c_bitCount (by omega) ?_
    refine ⟨by omega, ?_⟩
    refine br.i (fun c => G _ _ ?_) (fun c => ?_)
    · rw [if_pos ⟨⟨y', z⟩, Or.inl (by omega)⟩]
    refine br.i (fun c2 => G _ _ ?_) (fun c2 => ?_)
    · rw [if_neg (by omega)]
    refine c_tearsFor I hn hp ?_
    refine br.i (fun c3 => G _ _ ?_) (fun c3 => G _ _ ?_)
    · rw [if_neg (by omega)]
    · rw [if_pos ⟨⟨y', z⟩, Or.inr ⟨by omega, by omega⟩⟩]
theorem r_need {s : Int} (w : Wf (h 85)) (hp : 0 ≤ p ∧ p < 6) (k : Q (vI (pNe (h 85) p s 3)) h) : Runs (d + 2) 295 0 [vA 84, vI p, vI s, none, none] [] h Q := by
  have q := w.room hp
  refine Runs.go 10 [5] ?_
  refine downI (R := fun i => Runs (d + 2) 295 5 [vA 84, vI p, vI s, vI (pNe (h 85) p s i), vI i] [] h Q) (x := 0) (n := 3) (by decide) ?_ (fun i i0 i3 r => ?_)
  · refine Runs.go 10 [] ?_
    exact br.t (by omega) k
  · have z := pNe_r w (s := s) hp i i0 (by omega)
    have ex := w.exc hp (k := i) ⟨i0, i3⟩ (room := pRoom (h 85) p) (by omega)
    rw [pNe_s i0] at r
    refine Runs.go 50 [5] ?_
    refine br.f (by omega) ?_
    refine r_has ?_
    refine br.i (fun y => ?_) (fun y => ?_)
    · rw [if_neg (b2i_z y)] at r
      exact ⟨by omega, ⟨by omega, r⟩⟩
    · rw [if_pos (b2i_nz y)] at r
      refine r_roomOf w hp ?_
      refine r_excess w hp ⟨i0, i3⟩ (room := pRoom (h 85) p) (by omega) ?_
      exact ⟨by omega, ⟨by omega, r⟩⟩
end AG
theorem o_against : op_against Inv := by
  intro x hx
  refine opR (fun a _ => if (0 ≤ x 1 ∧ x 1 < a 0) ∧ 0 ≤ x 2 ∧ x 2 ≤ 999 then (if nzI (x 3) = 0 then agS a (x 1) (x 2) 8 else pTears a (x 1) (agS a (x 1) (x 2) 8) 3) else -1) (fun h L n Q I hn t k => ?_) (fun h L Q w t k => ?_)
  · have q0 := I.num.1.2
    have K := k h Same.rf
    refine Runs.go 40 [] ?_
    refine c_has I ?_
    refine br.i (fun y => QI K (by rw [if_neg (fun q => b2i_z y q.1)])) (fun y1 => ?_)
    refine sp_between ?_
    refine br.j (fun y => QI K (by rw [if_neg (fun q => b2i_z (Decidable.not_not.mp y) q.2)])) (fun y2 => ?_)
    have k1 := b2i_nz y1
    have k2 := b2i_nz y2
    rw [if_pos ⟨k1, k2⟩] at K
    refine c_washed I hn (by omega) ?_
    refine br.i (fun y => ?_) (fun y => ?_)
    · rw [if_pos y] at K
      exact K
    · rw [if_neg y] at K
      exact c_tearsFor I hn (by omega) K
  · have q0 := w.p0
    have K := k h Same.rf
    refine Runs.go 40 [27] ?_
    refine r_isOne w ?_
    refine br.i (fun y => QI K (by rw [if_neg (fun q => b2i_z y q.1)])) (fun y1 => ?_)
    refine r_isIn ?_
    refine br.j (fun y => QI K (by rw [if_neg (fun q => b2i_z (Decidable.not_not.mp y) q.2)])) (fun y2 => ?_)
    have k1 := b2i_nz y1
    have k2 := b2i_nz y2
    rw [if_pos ⟨k1, k2⟩] at K
    have p6 : 0 ≤ x 1 ∧ x 1 < 6 := by omega
    generalize ha : h 85 = a at *
    have wh : Wf (h 85) := by rw [ha]; exact w
    refine downI (R := fun i => Runs 150 296 27 [vA 84, vI (x 1), vI (x 2), vI (nzI (x 3)), vI (agS a (x 1) (x 2) i), vI i] [] h Q) (x := 1) (n := 8) (by decide) ?_ (fun i i0 i3 r => ?_)
    · have rg := agS_r (a := a) (p := x 1) (t := x 2) 8 (by decide) (by decide)
      refine Runs.go 20 [] ?_
      refine br.t (by omega) ?_
      refine br.i (fun y => ?_) (fun y => ?_)
      · rw [if_pos y] at K
        exact K
      · rw [if_neg y, ← pNe_t rg.1 rg.2] at K
        exact r_need wh p6 (by rw [ha]; exact K)
    · have rg := agS_r (a := a) (p := x 1) (t := x 2) i (by omega) (by omega)
      have p1 := popc_r (s := i)
      have p2 := popc_r (s := agS a (x 1) (x 2) i)
      have G : ∀ (b : Int), b = agS a (x 1) (x 2) (i + 1) → Runs 150 296 108 [vA 84, vI (x 1), vI (x 2), vI (nzI (x 3)), vI b, vI i] [] h Q := by
        intro b eb
        subst eb
        refine Runs.go 10 [27] ?_
        exact ⟨by omega, r⟩
      rw [agS_s (by omega)] at G
      have sb := (sub_r (s := i) (v := pOv a (x 1) 3) (by omega) pOv_r).1
      refine Runs.go 80 [108] ?_
      refine br.f (by omega) ?_
      refine r_overs wh p6 ?_
      rw [ha]
      refine br.i (fun y => G _ ?_) (fun y => ?_)
      · rw [if_neg (fun q => y (sb.mp q.1.1))]
      have y' := sb.mpr (Decidable.not_not.mp y)
      have n1 := pNe_t (a := a) (p := x 1) (s := i) (by omega) y'
      have n2 := pNe_t (a := a) (p := x 1) rg.1 rg.2
      refine r_need wh p6 ?_
      rw [ha, n1]
      refine br.i (fun z => G _ ?_) (fun z => ?_)
      · rw [if_neg (by omega)]
      refine r_bits (by omega) ?_
      refine r_bits (by omega) ?_
      refine br.j (fun c => G _ ?_) (fun c => ?_)
      · rw [if_neg (by omega)]
      refine r_bits (by omega) ?_
      refine r_bits (by omega) ?_
      refine br.i (fun c2 => G _ ?_) (fun c2 => ?_)
      · rw [if_pos ⟨⟨y', by omega⟩, Or.inl (by omega)⟩]
      refine r_need wh p6 ?_
      refine r_need wh p6 ?_
      rw [ha, n1, n2]
      refine br.i (fun c3 => G _ ?_) (fun c3 => G _ ?_)
      · rw [if_neg (by omega)]
      · rw [if_pos ⟨⟨y', by omega⟩, Or.inr ⟨by omega, by omega⟩⟩]
