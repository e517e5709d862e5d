/-! A STEP IS KEPT, by the class -/
section WS
variable {h h1 : Hp} {c : Nat} {a a1 : aA} {n : Int}
theorem CG.wSteps (I : CG h c a n) (eo : ∀ o, c ≤ o → o ≤ c + 22 → o ≠ c + 21 → o ≠ c + 22 → h1 o = h o) (ea : ∀ j, ¬ (j = 3) → ¬ (166 ≤ j ∧ j < 1396) → a1 j = a j) (nSteps : cSteps h1 c a1) (nNow : cNow a1) : CG h1 c a1 n := by
  obtain ⟨i1, i2, i3, i4, i5, i6, i7, i8, i9, i10, i11⟩ := I
  have q0 := i1.1.2
  have q3 := i10.1.2.2
  exact ⟨i1.cg (fun j _ _ => congrFun (eo c (by omega) (by omega) (by omega) (by omega)) j) (fun j _ _ _ => ea j (by omega) (by omega)),
    i2.cg (fun i _ _ j _ _ => congrFun (eo (c + i) (by omega) (by omega) (by omega) (by omega)) j) (fun j _ _ => congrFun (eo (c + 4) (by omega) (by omega) (by omega) (by omega)) j) (fun j _ _ => ea j (by omega) (by omega)),
    i3.cg (fun j _ _ => congrFun (eo (c + 5) (by omega) (by omega) (by omega) (by omega)) j) (fun j _ _ => ea j (by omega) (by omega)),
    i4.cg (fun j _ _ => congrFun (eo (c + 6) (by omega) (by omega) (by omega) (by omega)) j) (fun j _ _ => ea j (by omega) (by omega)),
    i5.cg (fun j _ _ => congrFun (eo (c + 7) (by omega) (by omega) (by omega) (by omega)) j) (fun j _ _ => ea j (by omega) (by omega)),
    i6.cg (congrFun (eo (c + 9) (by omega) (by omega) (by omega) (by omega)) 3) (fun i _ _ j _ _ => congrFun (eo (c + i) (by omega) (by omega) (by omega) (by omega)) j) (ea 4 (by omega) (by omega)) (fun j _ _ => ea j (by omega) (by omega)),
    i7.cg (congrFun (eo (c + 13) (by omega) (by omega) (by omega) (by omega)) 3) (fun i _ _ j _ _ => congrFun (eo (c + i) (by omega) (by omega) (by omega) (by omega)) j) (ea 5 (by omega) (by omega)) (fun j _ _ => ea j (by omega) (by omega)),
    i8.cg (congrFun (eo (c + 17) (by omega) (by omega) (by omega) (by omega)) 3) (fun i _ _ j _ _ => congrFun (eo (c + i) (by omega) (by omega) (by omega) (by omega)) j) (ea 6 (by omega) (by omega)) (fun j _ _ => ea j (by omega) (by omega)),
    i9.cg (congrFun (eo c (by omega) (by omega) (by omega) (by omega)) 6) (fun j _ _ => congrFun (eo (c + 8) (by omega) (by omega) (by omega) (by omega)) j) (ea 11 (by omega) (by omega)) (fun j _ _ => ea j (by omega) (by omega)),
    nSteps,
    nNow⟩
end WS
theorem pShift_o {a : aA} {j : Int} (h3 : j ≠ 3) (h : ¬ (166 ≤ j ∧ j < 1396)) : pShift a j = a j := by
  unfold pShift
  split
  · show (if j = 3 then _ else _) = _
    rw [if_neg h3, if_neg (by omega)]
  · rfl
theorem pRow_o {b : aA} {j : Int} (h3 : j ≠ 3) (h : ¬ (166 ≤ j ∧ j < 1396)) (hb : 0 ≤ b 3 ∧ b 3 ≤ 29) : pRow b j = b j := by
  unfold pRow
  rw [if_neg h3, if_neg (by omega)]
/-- the eldest step goes -/
theorem CG.shift {h h1 : Hp} {a b : aA} {n : Int} (I : CG h 2 a n) (e30 : a 3 = 30) (eb : b = fun j => if j = 3 then 29 else if 166 ≤ j ∧ j < 1355 then a (j + 41) else a j) (eo : ∀ o, o ≠ 23 → h1 o = h o) (e1 : h1 23 1 = (h 23 1 + 1) % 30) (e2 : h1 23 2 = 29) : CG h1 2 b n := by
  have hp := I.steps.hp
  have q0 := I.num.1.2
  have b3 : b 3 = 29 := by rw [eb]; rfl
  have bo : ∀ j, j ≠ 3 → ¬ (166 ≤ j ∧ j < 1355) → b j = a j := fun j x y => by rw [eb]; show (if j = 3 then _ else _) = _; rw [if_neg x, if_neg y]
  have bi : ∀ j, 166 ≤ j → j < 1355 → b j = a (j + 41) := fun j x y => by rw [eb]; show (if j = 3 then _ else _) = _; rw [if_neg (by omega), if_pos ⟨x, y⟩]
  have s2 := I.steps.2.1
  have cs := I.steps.2.2.2
  refine I.wSteps (fun o _ _ x y => eo o x) (fun j x y => bo j x (by omega)) ⟨?_, ?_, fun j j0 j3 => ?_, ?_, ?_, ?_⟩ ?_
  · show h1 23 2 = b 3 ∧ _
    rw [e2, b3]
    decide
  · show 0 ≤ h1 23 1 ∧ h1 23 1 < 30
    omega
  · rw [b3] at j3
    show cRow h1 2 b ((h1 23 1 + j) % 30 * 71) (166 + 41 * j)
    have R := I.steps.2.2.1 (j + 1) (by omega) (by omega)
    have er : (h1 23 1 + j) % 30 = (h 23 1 + (j + 1)) % 30 := by omega
    rw [er]
    exact R.cg (fun i _ _ => congrFun (eo 24 (by decide)) _) (fun i _ _ => by rw [bi _ (by omega) (by omega), show 166 + 41 * j + i + 41 = 166 + 41 * (j + 1) + i by omega]) (fun z => by rw [bo 0 (by decide) (by omega)]; exact z) (fun i _ _ => ⟨bo _ (by omega) (by omega), bo _ (by omega) (by omega)⟩)
  · intro i j i0 ij j3
    rw [b3] at j3
    have z := cs.1 (i + 1) (j + 1) (by omega) (by omega) (by omega)
    rw [bi _ (by omega) (by omega), bi (166 + 41 * j) (by omega) (by omega), bi (166 + 41 * i + 4) (by omega) (by omega), bi (166 + 41 * j + 4) (by omega) (by omega)]
    rw [show 166 + 41 * i + 41 = 166 + 41 * (i + 1) by omega, show 166 + 41 * j + 41 = 166 + 41 * (j + 1) by omega, show 166 + 41 * i + 4 + 41 = 166 + 41 * (i + 1) + 4 by omega, show 166 + 41 * j + 4 + 41 = 166 + 41 * (j + 1) + 4 by omega]
    omega
  · intro i i0 i3
    rw [b3] at i3
    rw [b3]
    have z := cs.2.1 (i + 1) (by omega) (by omega)
    rw [bi _ (by omega) (by omega), bo 11 (by decide) (by omega), show 166 + 41 * i + 4 + 41 = 166 + 41 * (i + 1) + 4 by omega]
    omega
  · intro j p j0 j3 p0 p1
    rw [b3] at j3
    rw [bi _ (by omega) (by omega), show 166 + 41 * j + 41 = 166 + 41 * (j + 1) by omega] at p0
    rw [bi _ (by omega) (by omega), show 166 + 41 * (j + 1) + 41 = 166 + 41 * (j + 1 + 1) by omega] at p1
    have z1 := hp (j + 1) (by omega) (by omega)
    have z2 := hp (j + 1 + 1) (by omega) (by omega)
    have z := cs.2.2 (j + 1) p (by omega) (by omega) p0 p1
    obtain ⟨t1, t2, t3⟩ := z
    refine ⟨?_, ?_, fun k k0 k4 => ?_⟩
    · rw [bi _ (by omega) (by omega), bo (12 + 9 * p + 7) (by omega) (by omega), show 166 + 41 * (j + 1) + 5 + 6 * p + 0 + 41 = 166 + 41 * (j + 1 + 1) + 5 + 6 * p + 0 by omega]; exact t1
    · rw [bi _ (by omega) (by omega), bo (12 + 9 * p + 8) (by omega) (by omega), show 166 + 41 * (j + 1) + 5 + 6 * p + 1 + 41 = 166 + 41 * (j + 1 + 1) + 5 + 6 * p + 1 by omega]; exact t2
    · rw [bi _ (by omega) (by omega), show 166 + 41 * (j + 1) + 5 + 6 * p + (2 + k) + 41 = 166 + 41 * (j + 1 + 1) + 5 + 6 * p + (2 + k) by omega]; exact t3 k k0 k4
  · intro p p3 p0 p1
    rw [b3] at p0
    rw [bi _ (by omega) (by omega), show 166 + 41 * ((29 : Int) - 1) + 41 = 166 + 41 * (30 - 1) by omega] at p0
    rw [bo 0 (by decide) (by omega)] at p1
    have N := I.now p (by omega)
    rw [e30] at N
    have z := hp (30 - 1) (by omega) (by omega)
    exact (N p0 p1).cg (fun k _ _ => bo _ (by omega) (by omega)) (bo _ (by omega) (by omega)) (bo _ (by omega) (by omega))
/-- what the class writes into a row -/
def rowC (h : Hp) (j : Int) : Int := if j = 0 then h 2 0 else if j = 1 then h 2 1 else if j = 2 then h 2 2 else if j = 3 then h 2 3 else if j = 4 then h 2 6 else if j < 11 then h 4 (j - 5) else if j < 17 then h 5 (j - 11) else if j < 41 then h 6 (j - 17) else h 10 (j - 41)
theorem CG.push {h h1 : Hp} {b : aA} {n t : Int} (I : CG h 2 b n) (hb : b 3 ≤ 29) (eo : ∀ o, o ≠ 23 → o ≠ 24 → h1 o = h o) (e1 : h1 23 1 = h 23 1) (e2 : h1 23 2 = h 23 2 + 1) (et : t = (h 23 1 + h 23 2) % 30 * 71)
    (ei : ∀ j, 0 ≤ j → j < 71 → h1 24 (t + j) = rowC h j) (ex : ∀ j, j < t ∨ t + 71 ≤ j → h1 24 j = h 24 j) : CG h1 2 (pRow b) n ∧ PK (pRow b) 0 := by
  have hp := I.steps.hp
  have q0 := I.num.1.2
  have s1 : h 23 2 = b 3 ∧ 0 ≤ b 3 ∧ b 3 ≤ 30 := I.steps.1
  have s2 : 0 ≤ h 23 1 ∧ h 23 1 < 30 := I.steps.2.1
  have cs := I.steps.2.2.2
  have b3 : pRow b 3 = b 3 + 1 := by unfold pRow; rw [if_pos rfl]
  have bo : ∀ j, j ≠ 3 → ¬ (166 + 41 * b 3 ≤ j ∧ j < 166 + 41 * b 3 + 41) → pRow b j = b j := fun j x y => by unfold pRow; rw [if_neg x, if_neg y]
  have bi : ∀ i, 0 ≤ i → i < 41 → pRow b (166 + 41 * b 3 + i) = rowOf b i := fun i x y => by unfold pRow; rw [if_neg (by omega), if_pos (by omega), show 166 + 41 * b 3 + i - (166 + 41 * b 3) = i by omega]
  have bi0 : pRow b (166 + 41 * b 3) = b 0 := by have := bi 0 (by decide) (by decide); rw [Int.add_zero] at this; rw [this]; rfl
  have bi4 : pRow b (166 + 41 * b 3 + 4) = b 11 := by rw [bi 4 (by decide) (by decide)]; rfl
  have b0 : pRow b 0 = b 0 := bo 0 (by decide) (by omega)
  have b11 : pRow b 11 = b 11 := bo 11 (by decide) (by omega)
  have N : cRow h1 2 (pRow b) t (166 + 41 * b 3) := by
    have c0 := ei 0 (by decide) (by decide)
    rw [Int.add_zero] at c0
    have nu := I.num
    have bk0 := I.book
    refine ⟨?_, ?_, ?_, ?_, ?_, ?_, fun p p0 p6 => ?_⟩
    · rw [bi0, b0]
      exact ⟨c0.trans nu.1.1, nu.1.2.1, by omega⟩
    · rw [bi 2 (by decide) (by decide)]
      exact ⟨(ei 1 (by decide) (by decide)).trans nu.2.1.1, nu.2.1.2⟩
    · rw [bi 1 (by decide) (by decide)]
      exact ⟨(ei 2 (by decide) (by decide)).trans nu.2.2.1.1, nu.2.2.1.2⟩
    · rw [bi 3 (by decide) (by decide)]
      exact ⟨(ei 3 (by decide) (by decide)).trans nu.2.2.2.1.1, nu.2.2.2.1.2⟩
    · rw [bi4]
      exact ⟨(ei 4 (by decide) (by decide)).trans bk0.1.1, bk0.1.2.1⟩
    · rw [bi4]
      refine bk0.2.ca bk0.1.2.1 (fun j j0 j3 => ?_) (fun j _ _ => bo j (by omega) (by omega))
      have z := ei (41 + j) (by omega) (by omega)
      rw [← Int.add_assoc] at z
      show h1 24 (t + 41 + j) = h 10 j
      rw [z]
      unfold rowC
      rw [if_neg (by omega), if_neg (by omega), if_neg (by omega), if_neg (by omega), if_neg (by omega), if_neg (by omega), if_neg (by omega), if_neg (by omega), show 41 + j - 41 = j by omega]
    · have P := I.per p p0 p6
      refine ⟨?_, ?_, fun k k0 k4 => ?_⟩
      · rw [show 166 + 41 * b 3 + 5 + 6 * p + 0 = 166 + 41 * b 3 + (5 + 6 * p + 0) by omega, bi _ (by omega) (by omega), rowOf_p p0 (by omega), show t + 5 + p = t + (5 + p) by omega]
        refine ⟨?_, P.2.1.2⟩
        show h1 24 (t + (5 + p)) = _
        rw [ei (5 + p) (by omega) (by omega)]
        unfold rowC
        rw [if_neg (by omega), if_neg (by omega), if_neg (by omega), if_neg (by omega), if_neg (by omega), if_pos (by omega), show 5 + p - 5 = p by omega]
        exact P.2.1.1
      · rw [show 166 + 41 * b 3 + 5 + 6 * p + 1 = 166 + 41 * b 3 + (5 + 6 * p + 1) by omega, bi _ (by omega) (by omega), rowOf_p p0 (by omega), show t + 11 + p = t + (11 + p) by omega]
        refine ⟨?_, P.2.2.1.2⟩
        show h1 24 (t + (11 + p)) = _
        rw [ei (11 + p) (by omega) (by omega)]
        unfold rowC
        rw [if_neg (by omega), if_neg (by omega), if_neg (by omega), if_neg (by omega), if_neg (by omega), if_neg (by omega), if_pos (by omega), show 11 + p - 11 = p by omega]
        exact P.2.2.1.1
      · rw [show 166 + 41 * b 3 + 5 + 6 * p + (2 + k) = 166 + 41 * b 3 + (5 + 6 * p + (2 + k)) by omega, bi _ (by omega) (by omega), rowOf_p p0 (by omega), show t + 17 + (p * 4 + k) = t + (17 + (p * 4 + k)) by omega]
        refine ⟨?_, (P.2.2.2.1 k k0 k4).2⟩
        show h1 24 (t + (17 + (p * 4 + k))) = _
        rw [ei (17 + (p * 4 + k)) (by omega) (by omega)]
        unfold rowC
        rw [if_neg (by omega), if_neg (by omega), if_neg (by omega), if_neg (by omega), if_neg (by omega), if_neg (by omega), if_neg (by omega), if_pos (by omega), show 17 + (p * 4 + k) - 17 = p * 4 + k by omega]
        exact (P.2.2.2.1 k k0 k4).1
  have pk : (0 < pRow b 3 ∧ pRow b (166 + 41 * (pRow b 3 - 1)) = pRow b 0) ∧ pRow b 11 ≤ pRow b (166 + 41 * (pRow b 3 - 1) + 4) + 0 := by
    rw [b3, show b 3 + 1 - 1 = b 3 by omega, bi0, b0, bi4, b11]
    omega
  refine ⟨I.wSteps (fun o _ _ x y => eo o x y) (fun j x y => bo j x (by omega)) ⟨?_, ?_, fun j j0 j3 => ?_, ?_, ?_, ?_⟩ ?_, pk⟩
  · show h1 23 2 = pRow b 3 ∧ _
    rw [b3]
    omega
  · show 0 ≤ h1 23 1 ∧ h1 23 1 < 30
    omega
  · rw [b3] at j3
    show cRow h1 2 (pRow b) ((h1 23 1 + j) % 30 * 71) (166 + 41 * j)
    by_cases ej : j = b 3
    · rw [ej, e1, ← s1.1, ← et, s1.1]
      exact N
    · have R := I.steps.2.2.1 j j0 (by omega)
      rw [e1]
      refine R.cg (fun i i0 i7 => ?_) (fun i _ _ => bo _ (by omega) (by omega)) (fun z => by rw [b0]; exact z) (fun i _ _ => ⟨bo _ (by omega) (by omega), bo _ (by omega) (by omega)⟩)
      show h1 24 ((h 23 1 + j) % 30 * 71 + i) = h 24 _
      exact ex _ (by omega)
  · intro i j i0 ij j3
    rw [b3] at j3
    rw [bo (166 + 41 * i) (by omega) (by omega), bo (166 + 41 * i + 4) (by omega) (by omega)]
    by_cases ej : j = b 3
    · rw [ej, bi0, bi4]
      have z1 := hp i i0 (by omega)
      have z2 := cs.2.1 i i0 (by omega)
      omega
    · rw [bo (166 + 41 * j) (by omega) (by omega), bo (166 + 41 * j + 4) (by omega) (by omega)]
      exact cs.1 i j i0 ij (by omega)
  · intro i i0 i3
    rw [b3] at i3
    rw [b3, b11]
    by_cases ej : i = b 3
    · rw [ej, bi4]
      omega
    · rw [bo (166 + 41 * i + 4) (by omega) (by omega)]
      have z2 := cs.2.1 i i0 (by omega)
      omega
  · intro j p j0 j3 p0 p1
    rw [b3] at j3
    have z1 := hp j (by omega) (by omega)
    rw [bo (166 + 41 * j) (by omega) (by omega)] at p0
    by_cases ej : j + 1 = b 3
    · rw [ej, bi0] at p1
      rw [ej]
      have T := I.now p (by omega) (by rw [show b 3 - 1 = j by omega]; exact p0) p1
      obtain ⟨t1, t2, t3⟩ := T
      refine ⟨?_, ?_, fun k k0 k4 => ?_⟩
      · rw [show 166 + 41 * b 3 + 5 + 6 * p + 0 = 166 + 41 * b 3 + (5 + 6 * p + 0) by omega, bi _ (by omega) (by omega), rowOf_p (by omega) (by omega), bo (12 + 9 * p + 7) (by omega) (by omega)]
        exact t1
      · rw [show 166 + 41 * b 3 + 5 + 6 * p + 1 = 166 + 41 * b 3 + (5 + 6 * p + 1) by omega, bi _ (by omega) (by omega), rowOf_p (by omega) (by omega), bo (12 + 9 * p + 8) (by omega) (by omega)]
        exact t2
      · rw [show 166 + 41 * b 3 + 5 + 6 * p + (2 + k) = 166 + 41 * b 3 + (5 + 6 * p + (2 + k)) by omega, bi _ (by omega) (by omega), rowOf_p (by omega) (by omega)]
        exact t3 k k0 k4
    · have z2 := hp (j + 1) (by omega) (by omega)
      rw [bo (166 + 41 * (j + 1)) (by omega) (by omega)] at p1
      exact (cs.2.2 j p j0 (by omega) p0 p1).cg (fun k _ _ => bo _ (by omega) (by omega)) (bo _ (by omega) (by omega)) (bo _ (by omega) (by omega))
  · intro p p3 p0 p1
    rw [pk.1.2] at p0
    omega
def kpH (h : Hp) (t : Int) : Hp := hcp (hcp (hcp (hcp (hup (hup (hup (hup (hup (hup h 23 2 (h 23 2 + 1)) 24 (t + 0) (h 2 0)) 24 (t + 1) (h 2 1)) 24 (t + 2) (h 2 2)) 24 (t + 3) (h 2 3)) 24 (t + 4) (h 2 6)) 4 0 24 (t + 5) 6) 5 0 24 (t + 11) 6) 6 0 24 (t + 17) 24) 10 0 24 (t + 41) 30
theorem kpH_o {h : Hp} {t : Int} {o : Nat} (h1 : o ≠ 23) (h2 : o ≠ 24) : kpH h t o = h o := by
  unfold kpH
  rw [hcp_o h2, hcp_o h2, hcp_o h2, hcp_o h2, hup_o h2, hup_o h2, hup_o h2, hup_o h2, hup_o h2, hup_o h1]
theorem kpH_3 {h : Hp} {t : Int} : kpH h t 23 = aset (h 23) 2 (h 23 2 + 1) := by
  have e : (23 : Nat) ≠ 24 := by decide
  unfold kpH
  rw [hcp_o e, hcp_o e, hcp_o e, hcp_o e, hup_o e, hup_o e, hup_o e, hup_o e, hup_o e, hup_s]
theorem kpH_x {h : Hp} {t j : Int} (z : j < t ∨ t + 71 ≤ j) : kpH h t 24 j = h 24 j := by
  unfold kpH
  rw [hcp_out (by omega), hcp_out (by omega), hcp_out (by omega), hcp_out (by omega), hup_nj (by omega), hup_nj (by omega), hup_nj (by omega), hup_nj (by omega), hup_nj (by omega), hup_o (by decide)]
theorem kpH_i {h : Hp} {t j : Int} (j0 : 0 ≤ j) (j7 : j < 71) : kpH h t 24 (t + j) = rowC h j := by
  unfold kpH rowC
  by_cases c1 : 41 ≤ j
  · rw [hcp_in (by omega), hcp_o (by decide), hcp_o (by decide), hcp_o (by decide), hup_o (by decide), hup_o (by decide), hup_o (by decide), hup_o (by decide), hup_o (by decide), hup_o (by decide),
      if_neg (by omega), if_neg (by omega), if_neg (by omega), if_neg (by omega), if_neg (by omega), if_neg (by omega), if_neg (by omega), if_neg (by omega), show 0 + (t + j - (t + 41)) = j - 41 by omega]
  · rw [hcp_out (by omega)]
    by_cases c2 : 17 ≤ j
    · rw [hcp_in (by omega), hcp_o (by decide), hcp_o (by decide), hup_o (by decide), hup_o (by decide), hup_o (by decide), hup_o (by decide), hup_o (by decide), hup_o (by decide),
        if_neg (by omega), if_neg (by omega), if_neg (by omega), if_neg (by omega), if_neg (by omega), if_neg (by omega), if_neg (by omega), if_pos (by omega), show 0 + (t + j - (t + 17)) = j - 17 by omega]
    · rw [hcp_out (by omega)]
      by_cases c3 : 11 ≤ j
      · rw [hcp_in (by omega), hcp_o (by decide), hup_o (by decide), hup_o (by decide), hup_o (by decide), hup_o (by decide), hup_o (by decide), hup_o (by decide),
          if_neg (by omega), if_neg (by omega), if_neg (by omega), if_neg (by omega), if_neg (by omega), if_neg (by omega), if_pos (by omega), show 0 + (t + j - (t + 11)) = j - 11 by omega]
      · rw [hcp_out (by omega)]
        by_cases c4 : 5 ≤ j
        · rw [hcp_in (by omega), hup_o (by decide), hup_o (by decide), hup_o (by decide), hup_o (by decide), hup_o (by decide), hup_o (by decide),
            if_neg (by omega), if_neg (by omega), if_neg (by omega), if_neg (by omega), if_neg (by omega), if_pos (by omega), show 0 + (t + j - (t + 5)) = j - 5 by omega]
        · rw [hcp_out (by omega)]
          have : j = 0 ∨ j = 1 ∨ j = 2 ∨ j = 3 ∨ j = 4 := by omega
          rcases this with e | e | e | e | e <;> subst e
          · rw [hup_nj (by omega), hup_nj (by omega), hup_nj (by omega), hup_nj (by omega), hup_eq]; rfl
          · rw [hup_nj (by omega), hup_nj (by omega), hup_nj (by omega), hup_eq]; rfl
          · rw [hup_nj (by omega), hup_nj (by omega), hup_eq]; rfl
          · rw [hup_nj (by omega), hup_eq]; rfl
          · rw [hup_eq]; rfl
section KC
variable {d : Nat} {h : Hp} {Q : aPO} {n : Int}
theorem c_keep32 {b : aA} (I : CG h 2 b n) (hb : b 3 ≤ 29) (k : ∀ h1, CG h1 2 (pRow b) n → PK (pRow b) 0 → (∀ o, o ≠ 23 → o ≠ 24 → h1 o = h o) → Q none h1) : Runs d 98 32 [vA 23, vA 2, none] [] h Q := by
  have s1 : h 23 2 = b 3 ∧ 0 ≤ b 3 ∧ b 3 ≤ 30 := I.steps.1
  have s2 : 0 ≤ h 23 1 ∧ h 23 1 < 30 := I.steps.2.1
  have G : ∀ t, t = (h 23 1 + h 23 2) % 30 * 71 → Runs d 98 48 [vA 23, vA 2, vI t] [] h Q := by
    intro t et
    have J := I.push hb (h1 := kpH h t) (fun o x y => kpH_o x y) (by rw [kpH_3, aset_ne (by decide)]) (by rw [kpH_3, aset_eq]) et (fun j x y => kpH_i x y) (fun j x => kpH_x x)
    have K := k (kpH h t) J.1 J.2 (fun o x y => kpH_o x y)
    refine Runs.go 200 [] ?_
    refine ⟨show -2147483648 ≤ h 23 2 + 1 ∧ h 23 2 + 1 < 2147483648 by omega, ?_⟩
    refine ⟨by omega, ⟨⟨by omega, show t + 0 < (2130 : Int) by omega⟩, ?_⟩⟩
    refine ⟨by omega, ⟨⟨by omega, show t + 1 < (2130 : Int) by omega⟩, ?_⟩⟩
    refine ⟨by omega, ⟨⟨by omega, show t + 2 < (2130 : Int) by omega⟩, ?_⟩⟩
    refine ⟨by omega, ⟨⟨by omega, show t + 3 < (2130 : Int) by omega⟩, ?_⟩⟩
    refine ⟨by omega, ⟨⟨by omega, show t + 4 < (2130 : Int) by omega⟩, ?_⟩⟩
    refine ⟨by omega, ⟨⟨by omega, by omega, by omega, by decide, show t + 5 + 6 ≤ (2130 : Int) by omega⟩, ?_⟩⟩
    refine ⟨by omega, ⟨⟨by omega, by omega, by omega, by decide, show t + 11 + 6 ≤ (2130 : Int) by omega⟩, ?_⟩⟩
    refine ⟨by omega, ⟨⟨by omega, by omega, by omega, by decide, show t + 17 + 24 ≤ (2130 : Int) by omega⟩, ?_⟩⟩
    refine ⟨by omega, ⟨⟨by omega, by omega, by omega, by decide, show t + 41 + 30 ≤ (2130 : Int) by omega⟩, ?_⟩⟩
    exact K
  have tm : (h 23 1 + h 23 2).tmod 30 = (h 23 1 + h 23 2) % 30 := Int.tmod_eq_emod_of_nonneg (by omega)
  refine Runs.go 40 [48] ?_
  refine ⟨show -2147483648 ≤ h 23 1 + h 23 2 ∧ h 23 1 + h 23 2 < 2147483648 by omega, ?_⟩
  refine ⟨by omega, ?_⟩
  refine ⟨show -2147483648 ≤ (h 23 1 + h 23 2).tmod 30 * 71 ∧ (h 23 1 + h 23 2).tmod 30 * 71 < 2147483648 by omega, ?_⟩
  exact G _ (by rw [← tm])
theorem c_keep {a : aA} (I : CG h 2 a n) (k : ∀ h1, CG h1 2 (pKeep a) n → PK (pKeep a) 0 → (∀ o, o ≠ 23 → o ≠ 24 → h1 o = h o) → Q none h1) : Runs d 98 0 [vA 23, vA 2, none] [] h Q := by
  have s1 : h 23 2 = a 3 ∧ 0 ≤ a 3 ∧ a 3 ≤ 30 := I.steps.1
  have s2 : 0 ≤ h 23 1 ∧ h 23 1 < 30 := I.steps.2.1
  unfold pKeep pShift at k
  refine Runs.go 40 [32] ?_
  refine br.i (fun c => ?_) (fun c => ?_)
  · have c1 : h 23 2 ≠ 30 := c
    rw [if_neg (by omega)] at k
    exact c_keep32 I (by omega) k
  · have c1 : h 23 2 = 30 := Decidable.not_not.mp c
    rw [if_pos (by omega)] at k
    have tm : (h 23 1 + 1).tmod 30 = (h 23 1 + 1) % 30 := Int.tmod_eq_emod_of_nonneg (by omega)
    refine ⟨show -2147483648 ≤ h 23 1 + 1 ∧ h 23 1 + 1 < 2147483648 by omega, ⟨by omega, ?_⟩⟩
    have e2 : hup h 23 1 ((h 23 1 + 1).tmod 30) 23 2 = 30 := by rw [hup_nj (by decide)]; exact c1
    refine ⟨show -2147483648 ≤ hup h 23 1 ((h 23 1 + 1).tmod 30) 23 2 - 1 ∧ hup h 23 1 ((h 23 1 + 1).tmod 30) 23 2 - 1 < 2147483648 by omega, ?_⟩
    refine c_keep32 (b := fun j => if j = 3 then 29 else if 166 ≤ j ∧ j < 1355 then a (j + 41) else a j) (I.shift (by omega) rfl (fun o x => by rw [hup_o x, hup_o x]) ?_ ?_) (by show (29 : Int) ≤ 29; decide) (fun h1 J p f => k h1 J p (fun o x y => by rw [f o x y, hup_o x, hup_o x]))
    · rw [hup_nj (by decide), hup_eq, tm]
    · rw [hup_eq, e2]; decide
end KC
