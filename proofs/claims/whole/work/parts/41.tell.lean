/-! CALLS that tell: brim, costs, way, plan, year, dried -/
def pBrim (a : aA) (kd t : Int) : aA := if (0 ≤ kd ∧ kd ≤ 2) ∧ 0 ≤ t ∧ t ≤ 9 then aset a (66 + kd) t else a
section TE
variable {d : Nat} {h : Hp} {Q : aPO} {a : aA} {n : Int}
theorem c_tellBrim {kd t : Int} (I : CG h 2 a n) (k : ∀ h1, CG h1 2 (pBrim a kd t) n → frC h h1 → Q (vI (b2i ((0 ≤ kd ∧ kd ≤ 2) ∧ 0 ≤ t ∧ t ≤ 9))) h1) : Runs (d + 2) 46 0 [vA 1, vI kd, vI t] [] h Q := by
  unfold pBrim at k
  have F : ¬ ((0 ≤ kd ∧ kd ≤ 2) ∧ 0 ≤ t ∧ t ≤ 9) → Q (vI 0) h := fun c => by
    rw [if_neg c, b2i_f c] at k
    exact k h I frC.rf
  refine Runs.go 30 [] ?_
  refine sp_isForb ?_
  refine br.i (fun c => ⟨by omega, F (fun z => b2i_z c z.1)⟩) (fun c1 => ?_)
  refine sp_between ?_
  refine br.j (fun c => ⟨by omega, F (fun z => b2i_z (Decidable.not_not.mp c) z.2)⟩) (fun c2 => ?_)
  have k1 := b2i_nz c1
  have k2 := b2i_nz c2
  rw [if_pos ⟨k1, k2⟩, b2i_t ⟨k1, k2⟩] at k
  refine ⟨⟨k1.1, show kd < (3 : Int) by omega⟩, ⟨by omega, ?_⟩⟩
  refine k _ (I.wBrim (fun o _ _ e => hup_o e) (fun j e => aset_ne (by omega)) (fun j j0 j3 => ?_)) (frC.rf.up (Or.inl (by decide)))
  show hup h 7 kd t 7 j = aset a (66 + kd) t (66 + j) ∧ _
  by_cases e : j = kd
  · rw [e, hup_eq, aset_eq]
    exact ⟨rfl, k2⟩
  · rw [hup_nj e, aset_ne (by omega)]
    exact I.brim j j0 j3
theorem r_brim {kd t : Int} (k : ∀ h1, h1 85 = pBrim (h 85) kd t → frR h h1 → Q (vI (b2i ((0 ≤ kd ∧ kd ≤ 2) ∧ 0 ≤ t ∧ t ≤ 9))) h1) : Runs (d + 2) 179 0 [vA 84, vI kd, vI t] [] h Q := by
  unfold pBrim at k
  have F : ¬ ((0 ≤ kd ∧ kd ≤ 2) ∧ 0 ≤ t ∧ t ≤ 9) → Q (vI 0) h := fun c => by
    rw [if_neg c, b2i_f c] at k
    exact k h rfl frR.rf
  refine Runs.go 30 [] ?_
  refine r_isKind ?_
  refine br.i (fun c => ⟨by omega, F (fun z => b2i_z c z.1)⟩) (fun c1 => ?_)
  refine r_isIn ?_
  refine br.j (fun c => ⟨by omega, F (fun z => b2i_z (Decidable.not_not.mp c) z.2)⟩) (fun c2 => ?_)
  have k1 := b2i_nz c1
  have k2 := b2i_nz c2
  rw [if_pos ⟨k1, k2⟩, b2i_t ⟨k1, k2⟩] at k
  refine ⟨by omega, ⟨⟨by omega, show _ < (3856 : Int) by omega⟩, ⟨by omega, ?_⟩⟩⟩
  exact k _ hup_s (frR.rf.up (Or.inl rfl))
end TE
theorem o_brim : op_brim Inv := by
  intro x hx
  refine opM (fun a _ => b2i ((0 ≤ x 1 ∧ x 1 ≤ 2) ∧ 0 ≤ x 2 ∧ x 2 ≤ 9)) (fun a _ => pBrim a (x 1) (x 2)) (fun h L n Q I hn c0 t k => ?_) (fun h L Q ws t k => ?_) (fun a L w => ?_)
  · refine Runs.go 30 [] ?_
    exact c_tellBrim I (fun h1 J f => ⟨b2i_r _, k h1 (J.le (by omega)) f⟩)
  · have w := ws.wf
    exact r_brim k
  · show pBrim a (x 1) (x 2) 1 = a 1
    unfold pBrim
    split
    · exact aset_ne (by omega)
    · rfl
def pCost (a : aA) (kd t : Int) : aA := if (0 ≤ kd ∧ kd ≤ 2) ∧ 1 ≤ t ∧ t ≤ 99 then aset a (162 + kd) t else a
theorem o_costs : op_costs Inv := by
  intro x hx
  refine opM (fun a _ => b2i ((0 ≤ x 1 ∧ x 1 ≤ 2) ∧ 1 ≤ x 2 ∧ x 2 ≤ 99)) (fun a _ => pCost a (x 1) (x 2)) (fun h L n Q I hn c0 t k => ?_) (fun h L Q ws t k => ?_) (fun a L w => ?_)
  · unfold pCost at k
    have F : ¬ ((0 ≤ x 1 ∧ x 1 ≤ 2) ∧ 1 ≤ x 2 ∧ x 2 ≤ 99) → Q (vI 0) h := fun c => by
      rw [if_neg c, b2i_f c] at k
      exact k h (I.le (by omega)) frC.rf
    refine Runs.go 30 [] ?_
    refine sp_isForb ?_
    refine br.i (fun c => ⟨by omega, F (fun z => b2i_z c z.1)⟩) (fun c1 => ?_)
    refine sp_between ?_
    refine br.j (fun c => ⟨by omega, F (fun z => b2i_z (Decidable.not_not.mp c) z.2)⟩) (fun c2 => ?_)
    have k1 := b2i_nz c1
    have k2 := b2i_nz c2
    rw [if_pos ⟨k1, k2⟩, b2i_t ⟨k1, k2⟩] at k
    refine ⟨⟨k1.1, show x 1 < (3 : Int) by omega⟩, ⟨by omega, ?_⟩⟩
    refine k _ ((I.wCost (fun o _ _ e => hup_o e) (fun j e => aset_ne (by omega)) (fun j j0 j3 => ?_)).le (by omega)) (frC.rf.up (Or.inl (by decide)))
    show hup h 8 (x 1) (x 2) 8 j = aset (h 85) (162 + x 1) (x 2) (162 + j) ∧ _
    by_cases e : j = x 1
    · rw [e, hup_eq, aset_eq]
      exact ⟨rfl, k2⟩
    · rw [hup_nj e, aset_ne (by omega)]
      exact I.cost j j0 j3
  · have w := ws.wf
    unfold pCost at k
    have F : ¬ ((0 ≤ x 1 ∧ x 1 ≤ 2) ∧ 1 ≤ x 2 ∧ x 2 ≤ 99) → Q (vI 0) h := fun c => by
      rw [if_neg c, b2i_f c] at k
      exact k h rfl frR.rf
    refine Runs.go 30 [] ?_
    refine r_isKind ?_
    refine br.i (fun c => ⟨by omega, F (fun z => b2i_z c z.1)⟩) (fun c1 => ?_)
    refine r_isIn ?_
    refine br.j (fun c => ⟨by omega, F (fun z => b2i_z (Decidable.not_not.mp c) z.2)⟩) (fun c2 => ?_)
    have k1 := b2i_nz c1
    have k2 := b2i_nz c2
    rw [if_pos ⟨k1, k2⟩, b2i_t ⟨k1, k2⟩] at k
    refine ⟨by omega, ⟨⟨by omega, show _ < (3856 : Int) by omega⟩, ⟨by omega, ?_⟩⟩⟩
    exact k _ hup_s (frR.rf.up (Or.inl rfl))
  · show pCost a (x 1) (x 2) 1 = a 1
    unfold pCost
    split
    · exact aset_ne (by omega)
    · rfl
theorem o_way : op_way Inv := by
  intro x hx
  refine opM (fun a _ => b2i ((0 ≤ x 1 ∧ x 1 < a 0) ∧ (0 ≤ x 2 ∧ x 2 < a 0) ∧ x 1 ≠ x 2 ∧ 1 ≤ x 3 ∧ x 3 ≤ 99)) (fun a _ => if (0 ≤ x 1 ∧ x 1 < a 0) ∧ (0 ≤ x 2 ∧ x 2 < a 0) ∧ x 1 ≠ x 2 ∧ 1 ≤ x 3 ∧ x 3 ≤ 99 then aset (aset a (86 + 6 * x 1 + x 2) (x 3)) (86 + 6 * x 2 + x 1) (x 3) else a) (fun h L n Q I hn c0 t k => ?_) (fun h L Q ws t k => ?_) (fun a L w => ?_)
  · have q0 := I.num.1.2
    have F : ¬ ((0 ≤ x 1 ∧ x 1 < h 85 0) ∧ (0 ≤ x 2 ∧ x 2 < h 85 0) ∧ x 1 ≠ x 2 ∧ 1 ≤ x 3 ∧ x 3 ≤ 99) → Q (vI 0) h := fun c => by
      rw [if_neg c, b2i_f c] at k
      exact k h (I.le (by omega)) frC.rf
    refine Runs.go 60 [] ?_
    refine c_has I ?_
    refine br.i (fun c => ⟨by omega, F (fun z => b2i_z c z.1)⟩) (fun c1 => ?_)
    refine c_has I ?_
    refine br.i (fun c => ⟨by omega, F (fun z => b2i_z c z.2.1)⟩) (fun c2 => ?_)
    refine br.i (fun c => ⟨by omega, F (fun z => z.2.2.1 c)⟩) (fun c3 => ?_)
    refine sp_between ?_
    refine br.j (fun c => ⟨by omega, F (fun z => b2i_z (Decidable.not_not.mp c) z.2.2.2)⟩) (fun c4 => ?_)
    have k1 := b2i_nz c1
    have k2 := b2i_nz c2
    have k4 := b2i_nz c4
    rw [if_pos ⟨k1, k2, c3, k4⟩, b2i_t ⟨k1, k2, c3, k4⟩] at k
    refine ⟨by omega, ⟨by omega, ⟨⟨by omega, show _ < (36 : Int) by omega⟩, ?_⟩⟩⟩
    refine ⟨by omega, ⟨by omega, ⟨⟨by omega, show _ < (36 : Int) by omega⟩, ⟨by omega, ?_⟩⟩⟩⟩
    refine k _ ((I.wWay (fun o _ _ e => by rw [hup_o e, hup_o e]) (fun j e => by rw [aset_ne (by omega), aset_ne (by omega)]) (fun j j0 j3 => ?_)).le (by omega)) ((frC.rf.up (Or.inl (by decide))).up (Or.inl (by decide)))
    show hup (hup h 9 (x 1 * 6 + x 2) (x 3)) 9 (x 2 * 6 + x 1) (x 3) 9 j = aset (aset (h 85) (86 + 6 * x 1 + x 2) (x 3)) (86 + 6 * x 2 + x 1) (x 3) (86 + j) ∧ _
    by_cases e : j = x 2 * 6 + x 1
    · rw [e, hup_eq, show 86 + (x 2 * 6 + x 1) = 86 + 6 * x 2 + x 1 by omega, aset_eq]
      exact ⟨rfl, k4⟩
    · rw [hup_nj e, aset_ne (by omega)]
      by_cases e : j = x 1 * 6 + x 2
      · rw [e, hup_eq, show 86 + (x 1 * 6 + x 2) = 86 + 6 * x 1 + x 2 by omega, aset_eq]
        exact ⟨rfl, k4⟩
      · rw [hup_nj e, aset_ne (by omega)]
        exact I.way j j0 j3
  · have w := ws.wf
    have q0 := w.p0
    have F : ¬ ((0 ≤ x 1 ∧ x 1 < h 85 0) ∧ (0 ≤ x 2 ∧ x 2 < h 85 0) ∧ x 1 ≠ x 2 ∧ 1 ≤ x 3 ∧ x 3 ≤ 99) → Q (vI 0) h := fun c => by
      rw [if_neg c, b2i_f c] at k
      exact k h rfl frR.rf
    refine Runs.go 60 [] ?_
    refine r_isOne w ?_
    refine br.i (fun c => ⟨by omega, F (fun z => b2i_z c z.1)⟩) (fun c1 => ?_)
    refine r_isOne w ?_
    refine br.i (fun c => ⟨by omega, F (fun z => b2i_z c z.2.1)⟩) (fun c2 => ?_)
    refine br.i (fun c => ⟨by omega, F (fun z => z.2.2.1 c)⟩) (fun c3 => ?_)
    refine r_isIn ?_
    refine br.j (fun c => ⟨by omega, F (fun z => b2i_z (Decidable.not_not.mp c) z.2.2.2)⟩) (fun c4 => ?_)
    have k1 := b2i_nz c1
    have k2 := b2i_nz c2
    have k4 := b2i_nz c4
    rw [if_pos ⟨k1, k2, c3, k4⟩, b2i_t ⟨k1, k2, c3, k4⟩] at k
    refine ⟨by omega, ⟨by omega, ⟨by omega, ⟨⟨by omega, show _ < (3856 : Int) by omega⟩, ?_⟩⟩⟩⟩
    refine ⟨by omega, ⟨by omega, ⟨by omega, ⟨⟨by omega, show _ < (3856 : Int) by omega⟩, ⟨by omega, ?_⟩⟩⟩⟩⟩
    exact k _ (by rw [hup_s, hup_s]) ((frR.rf.up (Or.inl rfl)).up (Or.inl rfl))
  · show (if _ then aset (aset a (86 + 6 * x 1 + x 2) (x 3)) (86 + 6 * x 2 + x 1) (x 3) else a) 1 = a 1
    split
    · rw [aset_ne (by omega), aset_ne (by omega)]
    · rfl
/-! rows that are told: at c + 9, c + 13, c + 17 -/
theorem c_forget {d : Nat} {h : Hp} {Q : aPO} {T : Nat} (hT : T = 11 ∨ T = 15 ∨ T = 19) (k : Q (vI 0) (hup h T 3 0)) : Runs d 108 0 [vA T] [] h Q := by
  rcases hT with e | e | e <;> subst e <;> (refine Runs.go 20 [] ?_; exact QI k hup_eq)
theorem c_add {d : Nat} {h : Hp} {Q : aPO} {T : Nat} {x y z : Int} (hT : T = 11 ∨ T = 15 ∨ T = 19) (hc : 0 ≤ h T 3 ∧ h T 3 ≤ 8) (k0 : h T 3 = 8 → Q (vI (-2)) h) (k : h T 3 < 8 → Q (vI (h T 3 + 1)) (hup (hup (hup (hup h (T + 1) (h T 3) x) (T + 2) (h T 3) y) (T + 3) (h T 3) z) T 3 (h T 3 + 1))) : Runs d 107 0 [vA T, vI x, vI y, vI z] [] h Q := by
  rcases hT with e | e | e <;> subst e
  · refine Runs.go 60 [] ?_
    refine br.j (fun c => k0 (by have c1 : ¬ h 11 3 < 8 := c; omega)) (fun c => ?_)
    have c1 : h 11 3 < 8 := c
    have b : 0 ≤ h 11 3 ∧ h 11 3 < (8 : Int) := by omega
    exact ⟨b, ⟨b, ⟨b, ⟨show -2147483648 ≤ h 11 3 + 1 ∧ h 11 3 + 1 < 2147483648 by omega, QI (k c1) hup_eq⟩⟩⟩⟩
  · refine Runs.go 60 [] ?_
    refine br.j (fun c => k0 (by have c1 : ¬ h 15 3 < 8 := c; omega)) (fun c => ?_)
    have c1 : h 15 3 < 8 := c
    have b : 0 ≤ h 15 3 ∧ h 15 3 < (8 : Int) := by omega
    exact ⟨b, ⟨b, ⟨b, ⟨show -2147483648 ≤ h 15 3 + 1 ∧ h 15 3 + 1 < 2147483648 by omega, QI (k c1) hup_eq⟩⟩⟩⟩
  · refine Runs.go 60 [] ?_
    refine br.j (fun c => k0 (by have c1 : ¬ h 19 3 < 8 := c; omega)) (fun c => ?_)
    have c1 : h 19 3 < 8 := c
    have b : 0 ≤ h 19 3 ∧ h 19 3 < (8 : Int) := by omega
    exact ⟨b, ⟨b, ⟨b, ⟨show -2147483648 ≤ h 19 3 + 1 ∧ h 19 3 + 1 < 2147483648 by omega, QI (k c1) hup_eq⟩⟩⟩⟩
