/-! CALLS that tell rows: plan, year, dried (printed by wip/whole/gen/rows.py) -/
theorem o_plan : op_plan Inv := by
  intro x hx
  refine opM (fun a _ => if x 1 = -1 then 0 else if ((0 ≤ x 1 ∧ x 1 ≤ 2) ∧ 1 ≤ x 2 ∧ x 2 ≤ 99) ∧ a 4 < 8 then a 4 + 1 else -2) (fun a _ => if x 1 = -1 then aset a 4 0 else if ((0 ≤ x 1 ∧ x 1 ≤ 2) ∧ 1 ≤ x 2 ∧ x 2 ≤ 99) ∧ a 4 < 8 then aset (aset (aset (a) (70 + 2 * a 4) (x 1)) (70 + 2 * a 4 + 1) (x 2)) 4 (a 4 + 1) else a) (fun h L n Q I hn c0 t k => ?_) (fun h L Q ws t k => ?_) (fun a L w => ?_)
  · have q0 := I.num.1.2
    have ec : h 11 3 = h 85 4 ∧ 0 ≤ h 85 4 ∧ h 85 4 ≤ 8 := I.plan.1
    have F : ¬ x 1 = -1 → ¬ (((0 ≤ x 1 ∧ x 1 ≤ 2) ∧ 1 ≤ x 2 ∧ x 2 ≤ 99) ∧ h 85 4 < 8) → Q (vI (-2)) h := fun c c2 => by
      have K := k h
      rw [if_neg c, if_neg c, if_neg c2, if_neg c2] at K
      exact K (I.le (by omega)) frC.rf
    refine Runs.go 60 [] ?_
    refine br.j (fun c => ?_) (fun c => ?_)
    · have c' := Decidable.not_not.mp c
      rw [if_pos c'] at k
      refine c_forget (by decide) ?_
      have K := k (hup h 11 3 0)
      rw [if_pos c'] at K
      refine K ((I.wPlan (fun o _ _ e _ _ _ => hup_o e) (fun j e _ => aset_ne e) ⟨?_, fun j j0 j3 => ?_⟩).le (by omega)) (frC.rf.up (Or.inl (by decide)))
      · show hup h 11 3 0 11 3 = aset (h 85) 4 0 4 ∧ 0 ≤ aset (h 85) 4 0 4 ∧ aset (h 85) 4 0 4 ≤ 8
        rw [hup_eq, aset_eq]
        decide
      · have J := I.plan.2 j j0 j3
        show (hup h 11 3 0 12 j = aset (h 85) 4 0 (70 + 2 * j) ∧ 0 ≤ aset (h 85) 4 0 (70 + 2 * j) ∧ aset (h 85) 4 0 (70 + 2 * j) ≤ 2) ∧ (hup h 11 3 0 13 j = aset (h 85) 4 0 (70 + 2 * j + 1) ∧ 0 ≤ aset (h 85) 4 0 (70 + 2 * j + 1) ∧ aset (h 85) 4 0 (70 + 2 * j + 1) ≤ 99)
        rw [hup_o (show 12 ≠ 11 by decide), hup_o (show 13 ≠ 11 by decide), aset_ne (show 70 + 2 * j ≠ 4 by omega), aset_ne (show 70 + 2 * j + 1 ≠ 4 by omega)]
        exact J
    refine sp_isForb ?_
    refine br.i (fun c2 => F c (fun z => b2i_z c2 z.1.1)) (fun c11 => ?_)
    have k11 := b2i_nz c11
    refine sp_between ?_
    refine br.j (fun c2 => F c (fun z => b2i_z (Decidable.not_not.mp c2) z.1.2)) (fun c12 => ?_)
    have k12 := b2i_nz c12
    refine c_add (T := 11) (by decide) (by omega) (fun e => F c (fun z => by omega)) (fun e => ?_)
    have c8 : ((0 ≤ x 1 ∧ x 1 ≤ 2) ∧ 1 ≤ x 2 ∧ x 2 ≤ 99) ∧ h 85 4 < 8 := ⟨⟨k11, k12⟩, by omega⟩
    have K := k (hup (hup (hup (hup h 12 (h 11 3) (x 1)) 13 (h 11 3) (x 2)) 14 (h 11 3) (0)) 11 3 (h 11 3 + 1))
    rw [if_neg c, if_neg c, if_pos c8, if_pos c8] at K
    rw [← ec.1] at K
    refine K ((I.wPlan (fun o _ _ e1 e2 e3 e4 => by rw [hup_o e1, hup_o e4, hup_o e3, hup_o e2]) (fun j e1 e2 => by rw [aset_ne (by omega), aset_ne (by omega), aset_ne (by omega)]) ⟨?_, fun j j0 j3 => ?_⟩).le (by omega)) ((((frC.rf.up (Or.inl (by decide))).up (Or.inl (by decide))).up (Or.inl (by decide))).up (Or.inl (by decide)))
    · show (hup (hup (hup (hup h 12 (h 11 3) (x 1)) 13 (h 11 3) (x 2)) 14 (h 11 3) (0)) 11 3 (h 11 3 + 1)) 11 3 = (aset (aset (aset (h 85) (70 + 2 * h 11 3) (x 1)) (70 + 2 * h 11 3 + 1) (x 2)) 4 (h 11 3 + 1)) 4 ∧ 0 ≤ (aset (aset (aset (h 85) (70 + 2 * h 11 3) (x 1)) (70 + 2 * h 11 3 + 1) (x 2)) 4 (h 11 3 + 1)) 4 ∧ (aset (aset (aset (h 85) (70 + 2 * h 11 3) (x 1)) (70 + 2 * h 11 3 + 1) (x 2)) 4 (h 11 3 + 1)) 4 ≤ 8
      rw [hup_eq, aset_eq]
      omega
    · have J := I.plan.2 j j0 j3
      show ((hup (hup (hup (hup h 12 (h 11 3) (x 1)) 13 (h 11 3) (x 2)) 14 (h 11 3) (0)) 11 3 (h 11 3 + 1)) 12 j = (aset (aset (aset (h 85) (70 + 2 * h 11 3) (x 1)) (70 + 2 * h 11 3 + 1) (x 2)) 4 (h 11 3 + 1)) (70 + 2 * j) ∧ 0 ≤ (aset (aset (aset (h 85) (70 + 2 * h 11 3) (x 1)) (70 + 2 * h 11 3 + 1) (x 2)) 4 (h 11 3 + 1)) (70 + 2 * j) ∧ (aset (aset (aset (h 85) (70 + 2 * h 11 3) (x 1)) (70 + 2 * h 11 3 + 1) (x 2)) 4 (h 11 3 + 1)) (70 + 2 * j) ≤ 2) ∧ ((hup (hup (hup (hup h 12 (h 11 3) (x 1)) 13 (h 11 3) (x 2)) 14 (h 11 3) (0)) 11 3 (h 11 3 + 1)) 13 j = (aset (aset (aset (h 85) (70 + 2 * h 11 3) (x 1)) (70 + 2 * h 11 3 + 1) (x 2)) 4 (h 11 3 + 1)) (70 + 2 * j + 1) ∧ 0 ≤ (aset (aset (aset (h 85) (70 + 2 * h 11 3) (x 1)) (70 + 2 * h 11 3 + 1) (x 2)) 4 (h 11 3 + 1)) (70 + 2 * j + 1) ∧ (aset (aset (aset (h 85) (70 + 2 * h 11 3) (x 1)) (70 + 2 * h 11 3 + 1) (x 2)) 4 (h 11 3 + 1)) (70 + 2 * j + 1) ≤ 99)
      by_cases e9 : j = h 11 3
      · subst e9
        exact ⟨by rw [hup_o (show 12 ≠ 11 by decide), hup_o (show 12 ≠ 14 by decide), hup_o (show 12 ≠ 13 by decide), hup_eq, aset_ne (by omega), aset_ne (by omega), aset_eq]; exact ⟨rfl, by omega⟩, by rw [hup_o (show 13 ≠ 11 by decide), hup_o (show 13 ≠ 14 by decide), hup_eq, aset_ne (by omega), aset_eq]; exact ⟨rfl, by omega⟩⟩
      · exact ⟨by rw [hup_o (show 12 ≠ 11 by decide), hup_o (show 12 ≠ 14 by decide), hup_o (show 12 ≠ 13 by decide), hup_nj e9, aset_ne (by omega), aset_ne (by omega), aset_ne (by omega)]; exact J.1, by rw [hup_o (show 13 ≠ 11 by decide), hup_o (show 13 ≠ 14 by decide), hup_nj e9, hup_o (show 13 ≠ 12 by decide), aset_ne (by omega), aset_ne (by omega), aset_ne (by omega)]; exact J.2⟩
  · have w := ws.wf
    have q0 := w.p0
    have ec := w.p4
    have F : ¬ x 1 = -1 → ¬ (((0 ≤ x 1 ∧ x 1 ≤ 2) ∧ 1 ≤ x 2 ∧ x 2 ≤ 99) ∧ h 85 4 < 8) → Q (vI (-2)) h := fun c c2 => by
      have K := k h
      rw [if_neg c, if_neg c, if_neg c2, if_neg c2] at K
      exact K rfl frR.rf
    refine Runs.go 80 [62] ?_
    refine br.j (fun c => ?_) (fun c => ?_)
    · have c' := Decidable.not_not.mp c
      have K := k (hup h 85 4 0)
      rw [if_pos c', if_pos c'] at K
      exact ⟨by decide, K hup_s (frR.rf.up (Or.inl rfl))⟩
    refine r_isKind ?_
    refine br.i (fun c2 => F c (fun z => b2i_z c2 z.1.1)) (fun c11 => ?_)
    have k11 := b2i_nz c11
    refine r_isIn ?_
    refine br.i (fun c2 => F c (fun z => b2i_z c2 z.1.2)) (fun c12 => ?_)
    have k12 := b2i_nz c12
    refine ⟨by decide, ?_⟩
    refine br.j (fun c2 => F c (fun z => by have c3 : h 85 4 = 8 := Decidable.not_not.mp c2; omega)) (fun c2 => ?_)
    have c3 : h 85 4 < 8 := by have c4 : h 85 4 ≠ 8 := c2; omega
    have c8 : ((0 ≤ x 1 ∧ x 1 ≤ 2) ∧ 1 ≤ x 2 ∧ x 2 ≤ 99) ∧ h 85 4 < 8 := ⟨⟨k11, k12⟩, c3⟩
    have K := k
    rw [if_neg c, if_neg c, if_pos c8, if_pos c8] at K
    have G3 : ∀ g : Hp, g 85 = aset (aset (h 85) (70 + 2 * h 85 4) (x 1)) (70 + 2 * h 85 4 + 1) (x 2) → frR h g → Runs 150 276 81 [vA 84, vI (x 1), vI (x 2)] [] g Q := by
      intro g e f
      have e4 : g 85 4 = h 85 4 := by rw [e, aset_ne (by omega), aset_ne (by omega)]
      refine Runs.go 30 [] ?_
      refine ⟨by decide, ⟨show -2147483648 ≤ g 85 4 + 1 ∧ g 85 4 + 1 < 2147483648 by omega, ⟨by decide, ⟨by decide, ?_⟩⟩⟩⟩
      have E : (hup g 85 4 (g 85 4 + 1)) 85 4 = h 85 4 + 1 := by rw [hup_eq, e4]
      exact QI (K _ (by rw [hup_s, e4, e]) (f.up (Or.inl rfl))) E
    have G2 : ∀ g : Hp, g 85 = aset (h 85) (70 + 2 * h 85 4) (x 1) → frR h g → Runs 150 276 62 [vA 84, vI (x 1), vI (x 2)] [] g Q := by
      intro g e f
      have e4 : g 85 4 = h 85 4 := by rw [e, aset_ne (by omega)]
      refine Runs.go 30 [81] ?_
      refine ⟨by decide, ⟨show -2147483648 ≤ 2 * g 85 4 ∧ 2 * g 85 4 < 2147483648 by omega, ⟨show -2147483648 ≤ 70 + 2 * g 85 4 ∧ 70 + 2 * g 85 4 < 2147483648 by omega, ⟨show -2147483648 ≤ 70 + 2 * g 85 4 + 1 ∧ 70 + 2 * g 85 4 + 1 < 2147483648 by omega, ⟨⟨show 0 ≤ 70 + 2 * g 85 4 + 1 by omega, show 70 + 2 * g 85 4 + 1 < (3856 : Int) by omega⟩, ?_⟩⟩⟩⟩⟩
      exact G3 _ (by rw [hup_s]; show aset (g 85) (70 + 2 * g 85 4 + 1) (x 2) = _; rw [e4, e]) (f.up (Or.inl rfl))
    refine ⟨by decide, ⟨show -2147483648 ≤ 2 * h 85 4 ∧ 2 * h 85 4 < 2147483648 by omega, ⟨show -2147483648 ≤ 70 + 2 * h 85 4 ∧ 70 + 2 * h 85 4 < 2147483648 by omega, ⟨⟨show 0 ≤ 70 + 2 * h 85 4 by omega, show 70 + 2 * h 85 4 < (3856 : Int) by omega⟩, ?_⟩⟩⟩⟩
    exact G2 _ hup_s (frR.rf.up (Or.inl rfl))
  · have q := w.p4
    split
    · exact aset_ne (by decide)
    · split
      · rw [aset_ne (by omega), aset_ne (by omega), aset_ne (by omega)]
      · rfl
theorem o_year : op_year Inv := by
  intro x hx
  refine opM (fun a _ => if x 1 = -1 then 0 else if ((0 ≤ x 1 ∧ x 1 ≤ 999) ∧ 0 ≤ x 2 ∧ x 2 ≤ 999) ∧ a 5 < 8 then a 5 + 1 else -2) (fun a _ => if x 1 = -1 then aset a 5 0 else if ((0 ≤ x 1 ∧ x 1 ≤ 999) ∧ 0 ≤ x 2 ∧ x 2 ≤ 999) ∧ a 5 < 8 then aset (aset (aset (a) (122 + 2 * a 5) (x 1)) (122 + 2 * a 5 + 1) (x 2)) 5 (a 5 + 1) else a) (fun h L n Q I hn c0 t k => ?_) (fun h L Q ws t k => ?_) (fun a L w => ?_)
  · have q0 := I.num.1.2
    have ec : h 15 3 = h 85 5 ∧ 0 ≤ h 85 5 ∧ h 85 5 ≤ 8 := I.year.1
    have F : ¬ x 1 = -1 → ¬ (((0 ≤ x 1 ∧ x 1 ≤ 999) ∧ 0 ≤ x 2 ∧ x 2 ≤ 999) ∧ h 85 5 < 8) → Q (vI (-2)) h := fun c c2 => by
      have K := k h
      rw [if_neg c, if_neg c, if_neg c2, if_neg c2] at K
      exact K (I.le (by omega)) frC.rf
    refine Runs.go 60 [] ?_
    refine br.j (fun c => ?_) (fun c => ?_)
    · have c' := Decidable.not_not.mp c
      rw [if_pos c'] at k
      refine c_forget (by decide) ?_
      have K := k (hup h 15 3 0)
      rw [if_pos c'] at K
      refine K ((I.wYear (fun o _ _ e _ _ _ => hup_o e) (fun j e _ => aset_ne e) ⟨?_, fun j j0 j3 => ?_⟩).le (by omega)) (frC.rf.up (Or.inl (by decide)))
      · show hup h 15 3 0 15 3 = aset (h 85) 5 0 5 ∧ 0 ≤ aset (h 85) 5 0 5 ∧ aset (h 85) 5 0 5 ≤ 8
        rw [hup_eq, aset_eq]
        decide
      · have J := I.year.2 j j0 j3
        show (hup h 15 3 0 16 j = aset (h 85) 5 0 (122 + 2 * j) ∧ 0 ≤ aset (h 85) 5 0 (122 + 2 * j) ∧ aset (h 85) 5 0 (122 + 2 * j) ≤ 999) ∧ (hup h 15 3 0 17 j = aset (h 85) 5 0 (122 + 2 * j + 1) ∧ 0 ≤ aset (h 85) 5 0 (122 + 2 * j + 1) ∧ aset (h 85) 5 0 (122 + 2 * j + 1) ≤ 999)
        rw [hup_o (show 16 ≠ 15 by decide), hup_o (show 17 ≠ 15 by decide), aset_ne (show 122 + 2 * j ≠ 5 by omega), aset_ne (show 122 + 2 * j + 1 ≠ 5 by omega)]
        exact J
    refine sp_between ?_
    refine br.i (fun c2 => F c (fun z => b2i_z c2 z.1.1)) (fun c11 => ?_)
    have k11 := b2i_nz c11
    refine sp_between ?_
    refine br.j (fun c2 => F c (fun z => b2i_z (Decidable.not_not.mp c2) z.1.2)) (fun c12 => ?_)
    have k12 := b2i_nz c12
    refine c_add (T := 15) (by decide) (by omega) (fun e => F c (fun z => by omega)) (fun e => ?_)
    have c8 : ((0 ≤ x 1 ∧ x 1 ≤ 999) ∧ 0 ≤ x 2 ∧ x 2 ≤ 999) ∧ h 85 5 < 8 := ⟨⟨k11, k12⟩, by omega⟩
    have K := k (hup (hup (hup (hup h 16 (h 15 3) (x 1)) 17 (h 15 3) (x 2)) 18 (h 15 3) (0)) 15 3 (h 15 3 + 1))
    rw [if_neg c, if_neg c, if_pos c8, if_pos c8] at K
    rw [← ec.1] at K
    refine K ((I.wYear (fun o _ _ e1 e2 e3 e4 => by rw [hup_o e1, hup_o e4, hup_o e3, hup_o e2]) (fun j e1 e2 => by rw [aset_ne (by omega), aset_ne (by omega), aset_ne (by omega)]) ⟨?_, fun j j0 j3 => ?_⟩).le (by omega)) ((((frC.rf.up (Or.inl (by decide))).up (Or.inl (by decide))).up (Or.inl (by decide))).up (Or.inl (by decide)))
    · show (hup (hup (hup (hup h 16 (h 15 3) (x 1)) 17 (h 15 3) (x 2)) 18 (h 15 3) (0)) 15 3 (h 15 3 + 1)) 15 3 = (aset (aset (aset (h 85) (122 + 2 * h 15 3) (x 1)) (122 + 2 * h 15 3 + 1) (x 2)) 5 (h 15 3 + 1)) 5 ∧ 0 ≤ (aset (aset (aset (h 85) (122 + 2 * h 15 3) (x 1)) (122 + 2 * h 15 3 + 1) (x 2)) 5 (h 15 3 + 1)) 5 ∧ (aset (aset (aset (h 85) (122 + 2 * h 15 3) (x 1)) (122 + 2 * h 15 3 + 1) (x 2)) 5 (h 15 3 + 1)) 5 ≤ 8
      rw [hup_eq, aset_eq]
      omega
    · have J := I.year.2 j j0 j3
      show ((hup (hup (hup (hup h 16 (h 15 3) (x 1)) 17 (h 15 3) (x 2)) 18 (h 15 3) (0)) 15 3 (h 15 3 + 1)) 16 j = (aset (aset (aset (h 85) (122 + 2 * h 15 3) (x 1)) (122 + 2 * h 15 3 + 1) (x 2)) 5 (h 15 3 + 1)) (122 + 2 * j) ∧ 0 ≤ (aset (aset (aset (h 85) (122 + 2 * h 15 3) (x 1)) (122 + 2 * h 15 3 + 1) (x 2)) 5 (h 15 3 + 1)) (122 + 2 * j) ∧ (aset (aset (aset (h 85) (122 + 2 * h 15 3) (x 1)) (122 + 2 * h 15 3 + 1) (x 2)) 5 (h 15 3 + 1)) (122 + 2 * j) ≤ 999) ∧ ((hup (hup (hup (hup h 16 (h 15 3) (x 1)) 17 (h 15 3) (x 2)) 18 (h 15 3) (0)) 15 3 (h 15 3 + 1)) 17 j = (aset (aset (aset (h 85) (122 + 2 * h 15 3) (x 1)) (122 + 2 * h 15 3 + 1) (x 2)) 5 (h 15 3 + 1)) (122 + 2 * j + 1) ∧ 0 ≤ (aset (aset (aset (h 85) (122 + 2 * h 15 3) (x 1)) (122 + 2 * h 15 3 + 1) (x 2)) 5 (h 15 3 + 1)) (122 + 2 * j + 1) ∧ (aset (aset (aset (h 85) (122 + 2 * h 15 3) (x 1)) (122 + 2 * h 15 3 + 1) (x 2)) 5 (h 15 3 + 1)) (122 + 2 * j + 1) ≤ 999)
      by_cases e9 : j = h 15 3
      · subst e9
        exact ⟨by rw [hup_o (show 16 ≠ 15 by decide), hup_o (show 16 ≠ 18 by decide), hup_o (show 16 ≠ 17 by decide), hup_eq, aset_ne (by omega), aset_ne (by omega), aset_eq]; exact ⟨rfl, by omega⟩, by rw [hup_o (show 17 ≠ 15 by decide), hup_o (show 17 ≠ 18 by decide), hup_eq, aset_ne (by omega), aset_eq]; exact ⟨rfl, by omega⟩⟩
      · exact ⟨by rw [hup_o (show 16 ≠ 15 by decide), hup_o (show 16 ≠ 18 by decide), hup_o (show 16 ≠ 17 by decide), hup_nj e9, aset_ne (by omega), aset_ne (by omega), aset_ne (by omega)]; exact J.1, by rw [hup_o (show 17 ≠ 15 by decide), hup_o (show 17 ≠ 18 by decide), hup_nj e9, hup_o (show 17 ≠ 16 by decide), aset_ne (by omega), aset_ne (by omega), aset_ne (by omega)]; exact J.2⟩
  · have w := ws.wf
    have q0 := w.p0
    have ec := w.p5
    have F : ¬ x 1 = -1 → ¬ (((0 ≤ x 1 ∧ x 1 ≤ 999) ∧ 0 ≤ x 2 ∧ x 2 ≤ 999) ∧ h 85 5 < 8) → Q (vI (-2)) h := fun c c2 => by
      have K := k h
      rw [if_neg c, if_neg c, if_neg c2, if_neg c2] at K
      exact K rfl frR.rf
    refine Runs.go 80 [67] ?_
    refine br.j (fun c => ?_) (fun c => ?_)
    · have c' := Decidable.not_not.mp c
      have K := k (hup h 85 5 0)
      rw [if_pos c', if_pos c'] at K
      exact ⟨by decide, K hup_s (frR.rf.up (Or.inl rfl))⟩
    refine r_isIn ?_
    refine br.i (fun c2 => F c (fun z => b2i_z c2 z.1.1)) (fun c11 => ?_)
    have k11 := b2i_nz c11
    refine r_isIn ?_
    refine br.i (fun c2 => F c (fun z => b2i_z c2 z.1.2)) (fun c12 => ?_)
    have k12 := b2i_nz c12
    refine ⟨by decide, ?_⟩
    refine br.j (fun c2 => F c (fun z => by have c3 : h 85 5 = 8 := Decidable.not_not.mp c2; omega)) (fun c2 => ?_)
    have c3 : h 85 5 < 8 := by have c4 : h 85 5 ≠ 8 := c2; omega
    have c8 : ((0 ≤ x 1 ∧ x 1 ≤ 999) ∧ 0 ≤ x 2 ∧ x 2 ≤ 999) ∧ h 85 5 < 8 := ⟨⟨k11, k12⟩, c3⟩
    have K := k
    rw [if_neg c, if_neg c, if_pos c8, if_pos c8] at K
    have G3 : ∀ g : Hp, g 85 = aset (aset (h 85) (122 + 2 * h 85 5) (x 1)) (122 + 2 * h 85 5 + 1) (x 2) → frR h g → Runs 150 290 86 [vA 84, vI (x 1), vI (x 2)] [] g Q := by
      intro g e f
      have e4 : g 85 5 = h 85 5 := by rw [e, aset_ne (by omega), aset_ne (by omega)]
      refine Runs.go 30 [] ?_
      refine ⟨by decide, ⟨show -2147483648 ≤ g 85 5 + 1 ∧ g 85 5 + 1 < 2147483648 by omega, ⟨by decide, ⟨by decide, ?_⟩⟩⟩⟩
      have E : (hup g 85 5 (g 85 5 + 1)) 85 5 = h 85 5 + 1 := by rw [hup_eq, e4]
      exact QI (K _ (by rw [hup_s, e4, e]) (f.up (Or.inl rfl))) E
    have G2 : ∀ g : Hp, g 85 = aset (h 85) (122 + 2 * h 85 5) (x 1) → frR h g → Runs 150 290 67 [vA 84, vI (x 1), vI (x 2)] [] g Q := by
      intro g e f
      have e4 : g 85 5 = h 85 5 := by rw [e, aset_ne (by omega)]
      refine Runs.go 30 [86] ?_
      refine ⟨by decide, ⟨show -2147483648 ≤ 2 * g 85 5 ∧ 2 * g 85 5 < 2147483648 by omega, ⟨show -2147483648 ≤ 122 + 2 * g 85 5 ∧ 122 + 2 * g 85 5 < 2147483648 by omega, ⟨show -2147483648 ≤ 122 + 2 * g 85 5 + 1 ∧ 122 + 2 * g 85 5 + 1 < 2147483648 by omega, ⟨⟨show 0 ≤ 122 + 2 * g 85 5 + 1 by omega, show 122 + 2 * g 85 5 + 1 < (3856 : Int) by omega⟩, ?_⟩⟩⟩⟩⟩
      exact G3 _ (by rw [hup_s]; show aset (g 85) (122 + 2 * g 85 5 + 1) (x 2) = _; rw [e4, e]) (f.up (Or.inl rfl))
    refine ⟨by decide, ⟨show -2147483648 ≤ 2 * h 85 5 ∧ 2 * h 85 5 < 2147483648 by omega, ⟨show -2147483648 ≤ 122 + 2 * h 85 5 ∧ 122 + 2 * h 85 5 < 2147483648 by omega, ⟨⟨show 0 ≤ 122 + 2 * h 85 5 by omega, show 122 + 2 * h 85 5 < (3856 : Int) by omega⟩, ?_⟩⟩⟩⟩
    exact G2 _ hup_s (frR.rf.up (Or.inl rfl))
  · have q := w.p5
    split
    · exact aset_ne (by decide)
    · split
      · rw [aset_ne (by omega), aset_ne (by omega), aset_ne (by omega)]
      · rfl
theorem o_dried : op_dried Inv := by
  intro x hx
  refine opM (fun a _ => if x 1 = -1 then 0 else if ((0 ≤ x 1 ∧ x 1 < a 0) ∧ (0 ≤ x 2 ∧ x 2 ≤ 3) ∧ 0 ≤ x 3 ∧ x 3 ≤ 99) ∧ a 6 < 8 then a 6 + 1 else -2) (fun a _ => if x 1 = -1 then aset a 6 0 else if ((0 ≤ x 1 ∧ x 1 < a 0) ∧ (0 ≤ x 2 ∧ x 2 ≤ 3) ∧ 0 ≤ x 3 ∧ x 3 ≤ 99) ∧ a 6 < 8 then aset (aset (aset (aset (a) (138 + 3 * a 6) (x 1)) (138 + 3 * a 6 + 1) (x 2)) (138 + 3 * a 6 + 2) (x 3)) 6 (a 6 + 1) else a) (fun h L n Q I hn c0 t k => ?_) (fun h L Q ws t k => ?_) (fun a L w => ?_)
  · have q0 := I.num.1.2
    have ec : h 19 3 = h 85 6 ∧ 0 ≤ h 85 6 ∧ h 85 6 ≤ 8 := I.dried.1
    have F : ¬ x 1 = -1 → ¬ (((0 ≤ x 1 ∧ x 1 < h 85 0) ∧ (0 ≤ x 2 ∧ x 2 ≤ 3) ∧ 0 ≤ x 3 ∧ x 3 ≤ 99) ∧ h 85 6 < 8) → Q (vI (-2)) h := fun c c2 => by
      have K := k h
      rw [if_neg c, if_neg c, if_neg c2, if_neg c2] at K
      exact K (I.le (by omega)) frC.rf
    refine Runs.go 60 [] ?_
    refine br.j (fun c => ?_) (fun c => ?_)
    · have c' := Decidable.not_not.mp c
      rw [if_pos c'] at k
      refine c_forget (by decide) ?_
      have K := k (hup h 19 3 0)
      rw [if_pos c'] at K
      refine K ((I.wDried (fun o _ _ e _ _ _ => hup_o e) (fun j e _ => aset_ne e) ⟨?_, fun j j0 j3 => ?_⟩).le (by omega)) (frC.rf.up (Or.inl (by decide)))
      · show hup h 19 3 0 19 3 = aset (h 85) 6 0 6 ∧ 0 ≤ aset (h 85) 6 0 6 ∧ aset (h 85) 6 0 6 ≤ 8
        rw [hup_eq, aset_eq]
        decide
      · have J := I.dried.2 j j0 j3
        show (hup h 19 3 0 20 j = aset (h 85) 6 0 (138 + 3 * j) ∧ 0 ≤ aset (h 85) 6 0 (138 + 3 * j) ∧ aset (h 85) 6 0 (138 + 3 * j) ≤ 5) ∧ (hup h 19 3 0 21 j = aset (h 85) 6 0 (138 + 3 * j + 1) ∧ 0 ≤ aset (h 85) 6 0 (138 + 3 * j + 1) ∧ aset (h 85) 6 0 (138 + 3 * j + 1) ≤ 3) ∧ (hup h 19 3 0 22 j = aset (h 85) 6 0 (138 + 3 * j + 2) ∧ 0 ≤ aset (h 85) 6 0 (138 + 3 * j + 2) ∧ aset (h 85) 6 0 (138 + 3 * j + 2) ≤ 99)
        rw [hup_o (show 20 ≠ 19 by decide), hup_o (show 21 ≠ 19 by decide), hup_o (show 22 ≠ 19 by decide), aset_ne (show 138 + 3 * j ≠ 6 by omega), aset_ne (show 138 + 3 * j + 1 ≠ 6 by omega), aset_ne (show 138 + 3 * j + 2 ≠ 6 by omega)]
        exact J
    refine c_has I ?_
    refine br.i (fun c2 => F c (fun z => b2i_z c2 z.1.1)) (fun c11 => ?_)
    have k11 := b2i_nz c11
    refine sp_between ?_
    refine br.i (fun c2 => F c (fun z => b2i_z c2 z.1.2.1)) (fun c12 => ?_)
    have k12 := b2i_nz c12
    refine sp_between ?_
    refine br.j (fun c2 => F c (fun z => b2i_z (Decidable.not_not.mp c2) z.1.2.2)) (fun c13 => ?_)
    have k13 := b2i_nz c13
    refine c_add (T := 19) (by decide) (by omega) (fun e => F c (fun z => by omega)) (fun e => ?_)
    have c8 : ((0 ≤ x 1 ∧ x 1 < h 85 0) ∧ (0 ≤ x 2 ∧ x 2 ≤ 3) ∧ 0 ≤ x 3 ∧ x 3 ≤ 99) ∧ h 85 6 < 8 := ⟨⟨k11, k12, k13⟩, by omega⟩
    have K := k (hup (hup (hup (hup h 20 (h 19 3) (x 1)) 21 (h 19 3) (x 2)) 22 (h 19 3) (x 3)) 19 3 (h 19 3 + 1))
    rw [if_neg c, if_neg c, if_pos c8, if_pos c8] at K
    rw [← ec.1] at K
    refine K ((I.wDried (fun o _ _ e1 e2 e3 e4 => by rw [hup_o e1, hup_o e4, hup_o e3, hup_o e2]) (fun j e1 e2 => by rw [aset_ne (by omega), aset_ne (by omega), aset_ne (by omega), aset_ne (by omega)]) ⟨?_, fun j j0 j3 => ?_⟩).le (by omega)) ((((frC.rf.up (Or.inl (by decide))).up (Or.inl (by decide))).up (Or.inl (by decide))).up (Or.inl (by decide)))
    · show (hup (hup (hup (hup h 20 (h 19 3) (x 1)) 21 (h 19 3) (x 2)) 22 (h 19 3) (x 3)) 19 3 (h 19 3 + 1)) 19 3 = (aset (aset (aset (aset (h 85) (138 + 3 * h 19 3) (x 1)) (138 + 3 * h 19 3 + 1) (x 2)) (138 + 3 * h 19 3 + 2) (x 3)) 6 (h 19 3 + 1)) 6 ∧ 0 ≤ (aset (aset (aset (aset (h 85) (138 + 3 * h 19 3) (x 1)) (138 + 3 * h 19 3 + 1) (x 2)) (138 + 3 * h 19 3 + 2) (x 3)) 6 (h 19 3 + 1)) 6 ∧ (aset (aset (aset (aset (h 85) (138 + 3 * h 19 3) (x 1)) (138 + 3 * h 19 3 + 1) (x 2)) (138 + 3 * h 19 3 + 2) (x 3)) 6 (h 19 3 + 1)) 6 ≤ 8
      rw [hup_eq, aset_eq]
      omega
    · have J := I.dried.2 j j0 j3
      show ((hup (hup (hup (hup h 20 (h 19 3) (x 1)) 21 (h 19 3) (x 2)) 22 (h 19 3) (x 3)) 19 3 (h 19 3 + 1)) 20 j = (aset (aset (aset (aset (h 85) (138 + 3 * h 19 3) (x 1)) (138 + 3 * h 19 3 + 1) (x 2)) (138 + 3 * h 19 3 + 2) (x 3)) 6 (h 19 3 + 1)) (138 + 3 * j) ∧ 0 ≤ (aset (aset (aset (aset (h 85) (138 + 3 * h 19 3) (x 1)) (138 + 3 * h 19 3 + 1) (x 2)) (138 + 3 * h 19 3 + 2) (x 3)) 6 (h 19 3 + 1)) (138 + 3 * j) ∧ (aset (aset (aset (aset (h 85) (138 + 3 * h 19 3) (x 1)) (138 + 3 * h 19 3 + 1) (x 2)) (138 + 3 * h 19 3 + 2) (x 3)) 6 (h 19 3 + 1)) (138 + 3 * j) ≤ 5) ∧ ((hup (hup (hup (hup h 20 (h 19 3) (x 1)) 21 (h 19 3) (x 2)) 22 (h 19 3) (x 3)) 19 3 (h 19 3 + 1)) 21 j = (aset (aset (aset (aset (h 85) (138 + 3 * h 19 3) (x 1)) (138 + 3 * h 19 3 + 1) (x 2)) (138 + 3 * h 19 3 + 2) (x 3)) 6 (h 19 3 + 1)) (138 + 3 * j + 1) ∧ 0 ≤ (aset (aset (aset (aset (h 85) (138 + 3 * h 19 3) (x 1)) (138 + 3 * h 19 3 + 1) (x 2)) (138 + 3 * h 19 3 + 2) (x 3)) 6 (h 19 3 + 1)) (138 + 3 * j + 1) ∧ (aset (aset (aset (aset (h 85) (138 + 3 * h 19 3) (x 1)) (138 + 3 * h 19 3 + 1) (x 2)) (138 + 3 * h 19 3 + 2) (x 3)) 6 (h 19 3 + 1)) (138 + 3 * j + 1) ≤ 3) ∧ ((hup (hup (hup (hup h 20 (h 19 3) (x 1)) 21 (h 19 3) (x 2)) 22 (h 19 3) (x 3)) 19 3 (h 19 3 + 1)) 22 j = (aset (aset (aset (aset (h 85) (138 + 3 * h 19 3) (x 1)) (138 + 3 * h 19 3 + 1) (x 2)) (138 + 3 * h 19 3 + 2) (x 3)) 6 (h 19 3 + 1)) (138 + 3 * j + 2) ∧ 0 ≤ (aset (aset (aset (aset (h 85) (138 + 3 * h 19 3) (x 1)) (138 + 3 * h 19 3 + 1) (x 2)) (138 + 3 * h 19 3 + 2) (x 3)) 6 (h 19 3 + 1)) (138 + 3 * j + 2) ∧ (aset (aset (aset (aset (h 85) (138 + 3 * h 19 3) (x 1)) (138 + 3 * h 19 3 + 1) (x 2)) (138 + 3 * h 19 3 + 2) (x 3)) 6 (h 19 3 + 1)) (138 + 3 * j + 2) ≤ 99)
      by_cases e9 : j = h 19 3
      · subst e9
        exact ⟨by rw [hup_o (show 20 ≠ 19 by decide), hup_o (show 20 ≠ 22 by decide), hup_o (show 20 ≠ 21 by decide), hup_eq, aset_ne (by omega), aset_ne (by omega), aset_ne (by omega), aset_eq]; exact ⟨rfl, by omega⟩, by rw [hup_o (show 21 ≠ 19 by decide), hup_o (show 21 ≠ 22 by decide), hup_eq, aset_ne (by omega), aset_ne (by omega), aset_eq]; exact ⟨rfl, by omega⟩, by rw [hup_o (show 22 ≠ 19 by decide), hup_eq, aset_ne (by omega), aset_eq]; exact ⟨rfl, by omega⟩⟩
      · exact ⟨by rw [hup_o (show 20 ≠ 19 by decide), hup_o (show 20 ≠ 22 by decide), hup_o (show 20 ≠ 21 by decide), hup_nj e9, aset_ne (by omega), aset_ne (by omega), aset_ne (by omega), aset_ne (by omega)]; exact J.1, by rw [hup_o (show 21 ≠ 19 by decide), hup_o (show 21 ≠ 22 by decide), hup_nj e9, hup_o (show 21 ≠ 20 by decide), aset_ne (by omega), aset_ne (by omega), aset_ne (by omega), aset_ne (by omega)]; exact J.2.1, by rw [hup_o (show 22 ≠ 19 by decide), hup_nj e9, hup_o (show 22 ≠ 21 by decide), hup_o (show 22 ≠ 20 by decide), aset_ne (by omega), aset_ne (by omega), aset_ne (by omega), aset_ne (by omega)]; exact J.2.2⟩
  · have w := ws.wf
    have q0 := w.p0
    have ec := w.p6
    have F : ¬ x 1 = -1 → ¬ (((0 ≤ x 1 ∧ x 1 < h 85 0) ∧ (0 ≤ x 2 ∧ x 2 ≤ 3) ∧ 0 ≤ x 3 ∧ x 3 ≤ 99) ∧ h 85 6 < 8) → Q (vI (-2)) h := fun c c2 => by
      have K := k h
      rw [if_neg c, if_neg c, if_neg c2, if_neg c2] at K
      exact K rfl frR.rf
    refine Runs.go 80 [72] ?_
    refine br.j (fun c => ?_) (fun c => ?_)
    · have c' := Decidable.not_not.mp c
      have K := k (hup h 85 6 0)
      rw [if_pos c', if_pos c'] at K
      exact ⟨by decide, K hup_s (frR.rf.up (Or.inl rfl))⟩
    refine r_isOne w ?_
    refine br.i (fun c2 => F c (fun z => b2i_z c2 z.1.1)) (fun c11 => ?_)
    have k11 := b2i_nz c11
    refine r_isIn ?_
    refine br.i (fun c2 => F c (fun z => b2i_z c2 z.1.2.1)) (fun c12 => ?_)
    have k12 := b2i_nz c12
    refine r_isIn ?_
    refine br.i (fun c2 => F c (fun z => b2i_z c2 z.1.2.2)) (fun c13 => ?_)
    have k13 := b2i_nz c13
    refine ⟨by decide, ?_⟩
    refine br.j (fun c2 => F c (fun z => by have c3 : h 85 6 = 8 := Decidable.not_not.mp c2; omega)) (fun c2 => ?_)
    have c3 : h 85 6 < 8 := by have c4 : h 85 6 ≠ 8 := c2; omega
    have c8 : ((0 ≤ x 1 ∧ x 1 < h 85 0) ∧ (0 ≤ x 2 ∧ x 2 ≤ 3) ∧ 0 ≤ x 3 ∧ x 3 ≤ 99) ∧ h 85 6 < 8 := ⟨⟨k11, k12, k13⟩, c3⟩
    have K := k
    rw [if_neg c, if_neg c, if_pos c8, if_pos c8] at K
    have G3 : ∀ g : Hp, g 85 = aset (aset (aset (h 85) (138 + 3 * h 85 6) (x 1)) (138 + 3 * h 85 6 + 1) (x 2)) (138 + 3 * h 85 6 + 2) (x 3) → frR h g → Runs 150 300 100 [vA 84, vI (x 1), vI (x 2), vI (x 3), vI (138 + 3 * h 85 6)] [] g Q := by
      intro g e f
      have e4 : g 85 6 = h 85 6 := by rw [e, aset_ne (by omega), aset_ne (by omega), aset_ne (by omega)]
      refine Runs.go 30 [] ?_
      refine ⟨by decide, ⟨show -2147483648 ≤ g 85 6 + 1 ∧ g 85 6 + 1 < 2147483648 by omega, ⟨by decide, ⟨by decide, ?_⟩⟩⟩⟩
      have E : (hup g 85 6 (g 85 6 + 1)) 85 6 = h 85 6 + 1 := by rw [hup_eq, e4]
      exact QI (K _ (by rw [hup_s, e4, e]) (f.up (Or.inl rfl))) E
    have G2 : Runs 150 300 72 [vA 84, vI (x 1), vI (x 2), vI (x 3), vI (138 + 3 * h 85 6)] [] h Q := by
      refine Runs.go 30 [100] ?_
      refine ⟨⟨by omega, show 138 + 3 * h 85 6 < (3856 : Int) by omega⟩, ⟨by omega, ⟨⟨by omega, show 138 + 3 * h 85 6 + 1 < (3856 : Int) by omega⟩, ⟨by omega, ⟨⟨by omega, show 138 + 3 * h 85 6 + 2 < (3856 : Int) by omega⟩, ?_⟩⟩⟩⟩⟩
      exact G3 _ (by rw [hup_s, hup_s, hup_s]) (((frR.rf.up (Or.inl rfl)).up (Or.inl rfl)).up (Or.inl rfl))
    refine ⟨by decide, ⟨show -2147483648 ≤ 3 * h 85 6 ∧ 3 * h 85 6 < 2147483648 by omega, ⟨show -2147483648 ≤ 138 + 3 * h 85 6 ∧ 138 + 3 * h 85 6 < 2147483648 by omega, ?_⟩⟩⟩
    exact G2
  · have q := w.p6
    split
    · exact aset_ne (by decide)
    · split
      · rw [aset_ne (by omega), aset_ne (by omega), aset_ne (by omega), aset_ne (by omega)]
      · rfl
