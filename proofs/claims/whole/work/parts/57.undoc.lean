/-! CALLS: undo, by the class -/
def udH (h : Hp) (t m : Int) : Hp := hcp (hcp (hcp (hcp (hup (hup (hup (hup (hup h 23 2 (h 23 2 - 1)) 2 1 (h 24 (t + 1))) 2 2 (h 24 (t + 2))) 2 3 (h 24 (t + 3))) 2 6 (h 24 (t + 4))) 24 (t + 41) 10 0 30) 24 (t + 5) 4 0 m) 24 (t + 11) 5 0 m) 24 (t + 17) 6 0 (m * 4)
section UH
variable {h : Hp} {t m : Int}
theorem udH_o {o : Nat} (h2 : o ≠ 2) (h3 : o ≠ 4) (h4 : o ≠ 5) (h5 : o ≠ 6) (h6 : o ≠ 10) (h7 : o ≠ 23) : udH h t m o = h o := by
  unfold udH
  rw [hcp_o h5, hcp_o h4, hcp_o h3, hcp_o h6, hup_o h2, hup_o h2, hup_o h2, hup_o h2, hup_o h7]
theorem udH_23 : udH h t m 23 = aset (h 23) 2 (h 23 2 - 1) := by
  unfold udH
  rw [hcp_o (by decide), hcp_o (by decide), hcp_o (by decide), hcp_o (by decide), hup_o (by decide), hup_o (by decide), hup_o (by decide), hup_o (by decide), hup_s]
theorem udH_2 : udH h t m 2 = aset (aset (aset (aset (h 2) 1 (h 24 (t + 1))) 2 (h 24 (t + 2))) 3 (h 24 (t + 3))) 6 (h 24 (t + 4)) := by
  unfold udH
  rw [hcp_o (by decide), hcp_o (by decide), hcp_o (by decide), hcp_o (by decide), hup_s, hup_s, hup_s, hup_s, hup_o (by decide)]
theorem udH_10 {j : Int} (hj : 0 ≤ j ∧ j < 30) : udH h t m 10 j = h 24 (t + 41 + j) := by
  unfold udH
  rw [hcp_o (by decide), hcp_o (by decide), hcp_o (by decide), hcp_in (by omega), hup_o (by decide), hup_o (by decide), hup_o (by decide), hup_o (by decide), hup_o (by decide), Int.sub_zero]
theorem udH_4 {j : Int} : udH h t m 4 j = if 0 ≤ j ∧ j < m then h 24 (t + 5 + j) else h 4 j := by
  unfold udH
  rw [hcp_o (by decide), hcp_o (by decide)]
  by_cases e : 0 ≤ j ∧ j < m
  · rw [if_pos e, hcp_in (by omega), hcp_o (by decide), hup_o (by decide), hup_o (by decide), hup_o (by decide), hup_o (by decide), hup_o (by decide), Int.sub_zero]
  · rw [if_neg e, hcp_out (by omega), hcp_o (by decide), hup_o (by decide), hup_o (by decide), hup_o (by decide), hup_o (by decide), hup_o (by decide)]
theorem udH_5 {j : Int} : udH h t m 5 j = if 0 ≤ j ∧ j < m then h 24 (t + 11 + j) else h 5 j := by
  unfold udH
  rw [hcp_o (by decide)]
  by_cases e : 0 ≤ j ∧ j < m
  · rw [if_pos e, hcp_in (by omega), hcp_o (by decide), hcp_o (by decide), hup_o (by decide), hup_o (by decide), hup_o (by decide), hup_o (by decide), hup_o (by decide), Int.sub_zero]
  · rw [if_neg e, hcp_out (by omega), hcp_o (by decide), hcp_o (by decide), hup_o (by decide), hup_o (by decide), hup_o (by decide), hup_o (by decide), hup_o (by decide)]
theorem udH_6 {j : Int} : udH h t m 6 j = if 0 ≤ j ∧ j < m * 4 then h 24 (t + 17 + j) else h 6 j := by
  unfold udH
  by_cases e : 0 ≤ j ∧ j < m * 4
  · rw [if_pos e, hcp_in (by omega), hcp_o (by decide), hcp_o (by decide), hcp_o (by decide), hup_o (by decide), hup_o (by decide), hup_o (by decide), hup_o (by decide), hup_o (by decide), Int.sub_zero]
  · rw [if_neg e, hcp_out (by omega), hcp_o (by decide), hcp_o (by decide), hcp_o (by decide), hup_o (by decide), hup_o (by decide), hup_o (by decide), hup_o (by decide), hup_o (by decide)]
end UH
theorem CG.undo {h : Hp} {a : aA} {n t : Int} (I : CG h 2 a n) (h3 : 0 < a 3) (et : t = (h 23 1 + (a 3 - 1)) % 30 * 71) : CG (udH h t (a (166 + 41 * (a 3 - 1)))) 2 (pU a (a 0)) n := by
  have N := I.num
  have q0 := N.1.2
  have s1 : h 23 2 = a 3 ∧ 0 ≤ a 3 ∧ a 3 ≤ 30 := I.steps.1
  have s2 : 0 ≤ h 23 1 ∧ h 23 1 < 30 := I.steps.2.1
  have cs := I.steps.2.2.2
  have hp := I.steps.hp
  have R : cRow h 2 a t (166 + 41 * (a 3 - 1)) := by
    have z := I.steps.2.2.1 (a 3 - 1) (by omega) (by omega)
    rw [et]
    exact z
  have b3 : pU a (a 0) 3 = a 3 - 1 := pU_3
  have bo : ∀ j, j ≠ 3 → ¬ (8 ≤ j ∧ j < 66) → pU a (a 0) j = a j := fun j x y => pU_o x y
  have bd : ∀ k, 0 ≤ k → k < 4 → pU a (a 0) (8 + k) = a (166 + 41 * (a 3 - 1) + (1 + k)) := fun k x y => by rw [pU_d (by omega), show 166 + 41 * (a 3 - 1) + 1 + (8 + k - 8) = 166 + 41 * (a 3 - 1) + (1 + k) by omega]
  have b8 : pU a (a 0) 8 = a (166 + 41 * (a 3 - 1) + 1) := bd 0 (by decide) (by decide)
  have b9 : pU a (a 0) 9 = a (166 + 41 * (a 3 - 1) + 2) := bd 1 (by decide) (by decide)
  have b10 : pU a (a 0) 10 = a (166 + 41 * (a 3 - 1) + 3) := bd 2 (by decide) (by decide)
  have b11 : pU a (a 0) 11 = a (166 + 41 * (a 3 - 1) + 4) := bd 3 (by decide) (by decide)
  have bp : ∀ q, 0 ≤ q → q < 6 → ∀ w, 0 ≤ w → w < 9 → pU a (a 0) (12 + 9 * q + w) = if w < 6 ∧ q < a 0 then uv a (166 + 41 * (a 3 - 1)) q w else a (12 + 9 * q + w) := fun q x y w u v => pU_p ⟨x, y⟩ ⟨u, v⟩
  have hX := hp (a 3 - 1) (by omega) (by omega)
  generalize hx : 166 + 41 * (a 3 - 1) = x at *
  have bT : ∀ q, 0 ≤ q → q < 6 → pU a (a 0) (12 + 9 * q + 7) = a (12 + 9 * q + 7) ∧ pU a (a 0) (12 + 9 * q + 8) = a (12 + 9 * q + 8) := fun q u v => ⟨by rw [bp q u v 7 (by decide) (by decide), if_neg (by omega)], by rw [bp q u v 8 (by decide) (by decide), if_neg (by omega)]⟩
  have W4 := cs.2.1 (a 3 - 1) (by omega) (by omega)
  rw [hx] at W4
  have nB := I.book.1.2
  -- one of people
  have cell : ∀ q, 0 ≤ q → q < 6 → ∀ w, 0 ≤ w → w < 6 → pU a (a 0) (12 + 9 * q + w) = if q < a x then a (x + 5 + 6 * q + w) else a (12 + 9 * q + w) := by
    intro q q1 q2 w w1 w2
    rw [bp q q1 q2 w w1 (by omega)]
    by_cases c1 : q < a x
    · rw [if_pos c1, if_pos (by omega)]
      unfold uv
      rw [if_pos c1]
    · rw [if_neg c1]
      by_cases c2 : q < a 0
      · have T := I.now q h3 (by rw [hx]; omega) c2
        rw [if_pos ⟨w2, c2⟩]
        unfold uv
        rw [if_neg c1]
        by_cases w0 : w = 0
        · subst w0; rw [if_pos rfl]; exact T.1.symm
        · rw [if_neg w0]
          by_cases w1' : w = 1
          · subst w1'; rw [if_pos rfl]; exact T.2.1.symm
          · rw [if_neg w1']
            have := T.2.2 (w - 2) (by omega) (by omega)
            rw [show 12 + 9 * q + (2 + (w - 2)) = 12 + 9 * q + w by omega] at this
            exact this.symm
      · rw [if_neg (by omega)]
  refine I.wUndo (m := n) (fun o _ _ x1 x2 x3 x4 x5 x6 => udH_o x1 x2 x3 x4 x5 x6) (fun j x y => bo j x y) ?_ (fun q q1 q2 => ?_) ⟨?_, ?_⟩ ⟨?_, ?_, fun j j0 j3 => ?_, ?_, ?_, ?_⟩ ?_
  · refine ⟨?_, ?_, ?_, ?_, ?_, ?_⟩
    · rw [udH_2, aset_ne (by decide), aset_ne (by decide), aset_ne (by decide), aset_ne (by decide), bo 0 (by decide) (by decide)]; exact N.1
    · rw [udH_2, aset_ne (by decide), aset_ne (by decide), aset_ne (by decide), aset_eq, b9]; exact R.2.1
    · rw [udH_2, aset_ne (by decide), aset_ne (by decide), aset_eq, b8]; exact R.2.2.1
    · rw [udH_2, aset_ne (by decide), aset_eq, b10]; exact R.2.2.2.1
    · rw [udH_2, aset_ne (by decide), aset_ne (by decide), aset_ne (by decide), aset_ne (by decide), bo 1 (by decide) (by decide)]; exact N.2.2.2.2.1
    · rw [udH_2, aset_ne (by decide), aset_ne (by decide), aset_ne (by decide), aset_ne (by decide), bo 1 (by decide) (by decide), bo 2 (by decide) (by decide)]; exact N.2.2.2.2.2
  · have P := I.per q q1 q2
    have S := R.2.2.2.2.2.2 q q1 q2
    refine ⟨?_, ?_, ?_, fun k k0 k4 => ?_, ?_, ?_⟩
    · rw [bp q q1 q2 6 (by decide) (by decide), if_neg (by omega), show udH h t (a x) (2 + 1) = h (2 + 1) from udH_o (by decide) (by decide) (by decide) (by decide) (by decide) (by decide)]; exact P.1
    · rw [cell q q1 q2 0 (by decide) (by decide)]
      show udH h t (a x) 4 q = _ ∧ _
      rw [udH_4]
      by_cases c1 : q < a x
      · rw [if_pos c1, if_pos ⟨q1, c1⟩]; exact S.1
      · rw [if_neg c1, if_neg (by omega)]; exact P.2.1
    · rw [cell q q1 q2 1 (by decide) (by decide)]
      show udH h t (a x) 5 q = _ ∧ _
      rw [udH_5]
      by_cases c1 : q < a x
      · rw [if_pos c1, if_pos ⟨q1, c1⟩]; exact S.2.1
      · rw [if_neg c1, if_neg (by omega)]; exact P.2.2.1
    · rw [cell q q1 q2 (2 + k) (by omega) (by omega)]
      show udH h t (a x) 6 (q * 4 + k) = _ ∧ _
      rw [udH_6]
      by_cases c1 : q < a x
      · rw [if_pos c1, if_pos (by omega)]; exact S.2.2 k k0 k4
      · rw [if_neg c1, if_neg (by omega)]; exact P.2.2.2.1 k k0 k4
    · rw [(bT q q1 q2).1]; exact P.2.2.2.2.1
    · rw [(bT q q1 q2).2]; exact P.2.2.2.2.2
  · rw [b11, udH_2, aset_eq]
    exact ⟨R.2.2.2.2.1.1, R.2.2.2.2.1.2, by omega⟩
  · rw [b11]
    refine R.2.2.2.2.2.1.ca R.2.2.2.2.1.2 (fun j x y => ?_) (fun j x y => bo j (by omega) (by omega))
    show udH h t (a _) 10 j = _
    rw [udH_10 ⟨x, y⟩]
  · rw [b3]
    show udH h t (a x) 23 2 = _ ∧ _
    rw [udH_23, aset_eq]
    omega
  · show 0 ≤ udH h t (a x) 23 1 ∧ udH h t (a x) 23 1 < 30
    rw [udH_23, aset_ne (by decide)]
    exact s2
  · rw [b3] at j3
    have e1 : udH h t (a x) (2 + 21) 1 = h (2 + 21) 1 := by show udH h t (a x) 23 1 = h 23 1; rw [udH_23, aset_ne (by decide)]
    rw [e1]
    have e24 : udH h t (a x) (2 + 22) = h (2 + 22) := udH_o (by decide) (by decide) (by decide) (by decide) (by decide) (by decide)
    exact (I.steps.2.2.1 j j0 (by omega)).cg (fun i _ _ => congrFun e24 _) (fun i _ _ => bo _ (by omega) (by omega)) (fun z => by rw [bo 0 (by decide) (by decide)]; exact z) (fun i _ _ => ⟨bo _ (by omega) (by omega), bo _ (by omega) (by omega)⟩)
  · intro i j i0 ij j3
    rw [b3] at j3
    rw [bo (166 + 41 * i) (by omega) (by omega), bo (166 + 41 * j) (by omega) (by omega), bo (166 + 41 * i + 4) (by omega) (by omega), bo (166 + 41 * j + 4) (by omega) (by omega)]
    exact cs.1 i j i0 ij (by omega)
  · intro i i0 i3
    rw [b3] at i3
    rw [b3, b11, bo (166 + 41 * i + 4) (by omega) (by omega)]
    have z := cs.1 i (a 3 - 1) i0 (by omega) (by omega)
    rw [hx] at z
    omega
  · intro j p j0 j3 p0 p1
    rw [b3] at j3
    rw [bo (166 + 41 * j) (by omega) (by omega)] at p0
    rw [bo (166 + 41 * (j + 1)) (by omega) (by omega)] at p1
    have z1 := hp j (by omega) (by omega)
    have z2 := hp (j + 1) (by omega) (by omega)
    exact (cs.2.2 j p j0 (by omega) p0 p1).cg (fun k _ _ => bo _ (by omega) (by omega)) (bT p (by omega) (by omega)).1 (bT p (by omega) (by omega)).2
  · intro p p3 p0 p1
    rw [b3] at p3 p0
    rw [bo _ (by omega) (by omega)] at p0
    rw [bo 0 (by decide) (by decide)] at p1
    have z1 := hp (a 3 - 1 - 1) (by omega) (by omega)
    have T : told a (12 + 9 * p) p ∨ (p < a x ∧ told a (x + 5 + 6 * p) p) := by
      by_cases c1 : p < a x
      · right
        have z := cs.2.2 (a 3 - 1 - 1) p (by omega) (by omega) p0 (by rw [show a 3 - 1 - 1 + 1 = a 3 - 1 by omega, hx]; exact c1)
        rw [show a 3 - 1 - 1 + 1 = a 3 - 1 by omega, hx] at z
        exact ⟨c1, z⟩
      · left
        exact I.now p h3 (by rw [hx]; omega) p1
    have p6 : 0 ≤ p ∧ p < 6 := by omega
    unfold told
    rw [(bT p p6.1 p6.2).1, (bT p p6.1 p6.2).2, cell p p6.1 p6.2 0 (by decide) (by decide), cell p p6.1 p6.2 1 (by decide) (by decide)]
    rcases T with T | ⟨c1, T⟩
    · by_cases c1 : p < a x
      · have z := cs.2.2 (a 3 - 1 - 1) p (by omega) (by omega) p0 (by rw [show a 3 - 1 - 1 + 1 = a 3 - 1 by omega, hx]; exact c1)
        rw [show a 3 - 1 - 1 + 1 = a 3 - 1 by omega, hx] at z
        rw [if_pos c1, if_pos c1]
        exact ⟨z.1, z.2.1, fun k k0 k4 => by rw [cell p p6.1 p6.2 (2 + k) (by omega) (by omega), if_pos c1]; exact z.2.2 k k0 k4⟩
      · rw [if_neg c1, if_neg c1]
        exact ⟨T.1, T.2.1, fun k k0 k4 => by rw [cell p p6.1 p6.2 (2 + k) (by omega) (by omega), if_neg c1]; exact T.2.2 k k0 k4⟩
    · rw [if_pos c1, if_pos c1]
      exact ⟨T.1, T.2.1, fun k k0 k4 => by rw [cell p p6.1 p6.2 (2 + k) (by omega) (by omega), if_pos c1]; exact T.2.2 k k0 k4⟩
theorem c_takeBack {d : Nat} {h : Hp} {Q : aPO} {a : aA} {n : Int} (I : CG h 2 a n) (k : ∀ h1, CG h1 2 (pUndo a) n → frC h h1 → Q (vI (zUndo a)) h1) : Runs (d + 1) 99 0 [vA 23, vA 2, none, none] [] h Q := by
  have q0 := I.num.1.2
  have s1 : h 23 2 = a 3 ∧ 0 ≤ a 3 ∧ a 3 ≤ 30 := I.steps.1
  have s2 : 0 ≤ h 23 1 ∧ h 23 1 < 30 := I.steps.2.1
  unfold pUndo zUndo at k
  refine Runs.go 40 [35] ?_
  refine br.j (fun y => ?_) (fun y => ?_)
  · have y' : ¬ 0 < h 23 2 := y
    rw [if_pos (by omega), if_pos (by omega)] at k
    exact k h I frC.rf
  have y' : 0 < h 23 2 := y
  rw [if_neg (by omega), if_neg (by omega)] at k
  have J := I.undo (t := (h 23 1 + (a 3 - 1)) % 30 * 71) (by omega) rfl
  have R := I.steps.2.2.1 (a 3 - 1) (by omega) (by omega)
  have R0 : h 24 ((h 23 1 + (a 3 - 1)) % 30 * 71) = a (166 + 41 * (a 3 - 1)) := R.1.1
  have R1 := R.1.2
  refine ⟨show -2147483648 ≤ h 23 2 - 1 ∧ h 23 2 - 1 < 2147483648 by omega, ?_⟩
  have g1 : hup h 23 2 (h 23 2 - 1) 23 1 = h 23 1 := hup_nj (by decide)
  have g2 : hup h 23 2 (h 23 2 - 1) 23 2 = a 3 - 1 := by rw [hup_eq, s1.1]
  refine ⟨show -2147483648 ≤ hup h 23 2 (h 23 2 - 1) 23 1 + hup h 23 2 (h 23 2 - 1) 23 2 ∧ hup h 23 2 (h 23 2 - 1) 23 1 + hup h 23 2 (h 23 2 - 1) 23 2 < 2147483648 by omega, ⟨by omega, ?_⟩⟩
  have tm : (hup h 23 2 (h 23 2 - 1) 23 1 + hup h 23 2 (h 23 2 - 1) 23 2).tmod 30 = (h 23 1 + (a 3 - 1)) % 30 := by rw [g1, g2]; exact Int.tmod_eq_emod_of_nonneg (by omega)
  refine ⟨show -2147483648 ≤ (hup h 23 2 (h 23 2 - 1) 23 1 + hup h 23 2 (h 23 2 - 1) 23 2).tmod 30 * 71 ∧ (hup h 23 2 (h 23 2 - 1) 23 1 + hup h 23 2 (h 23 2 - 1) 23 2).tmod 30 * 71 < 2147483648 by omega, ?_⟩
  have G : ∀ t, t = (h 23 1 + (a 3 - 1)) % 30 * 71 → Runs (d + 1) 99 35 [vA 23, vA 2, vI t, none] [] (hup h 23 2 (h 23 2 - 1)) Q := by
    intro t et
    rw [← et] at J R0
    have K := k _ J (fun o x y => udH_o (by omega) (by omega) (by omega) (by omega) (by omega) (by omega))
    have bt : 0 ≤ t ∧ t ≤ 2059 := by omega
    have H : ∀ m : Int, m = a (166 + 41 * (a 3 - 1)) → Runs (d + 1) 99 115 [vA 23, vA 2, vI t, vI m] [] (hcp (hup (hup (hup (hup (hup h 23 2 (h 23 2 - 1)) 2 1 (h 24 (t + 1))) 2 2 (h 24 (t + 2))) 2 3 (h 24 (t + 3))) 2 6 (h 24 (t + 4))) 24 (t + 41) 10 0 30) Q := by
      intro m em
      rw [← em] at K
      refine Runs.go 60 [] ?_
      refine ⟨by omega, ⟨⟨by omega, by omega, by omega, show t + 5 + m ≤ (2130 : Int) by omega, show 0 + m ≤ (6 : Int) by omega⟩, ?_⟩⟩
      refine ⟨by omega, ⟨⟨by omega, by omega, by omega, show t + 11 + m ≤ (2130 : Int) by omega, show 0 + m ≤ (6 : Int) by omega⟩, ?_⟩⟩
      refine ⟨by omega, ⟨by omega, ⟨⟨by omega, by omega, by omega, show t + 17 + m * 4 ≤ (2130 : Int) by omega, show 0 + m * 4 ≤ (24 : Int) by omega⟩, ?_⟩⟩⟩
      have Z : udH h t m 23 2 = a 3 - 1 := by rw [udH_23, aset_eq, s1.1]
      exact QI K Z
    refine Runs.go 100 [115] ?_
    refine ⟨by omega, ⟨⟨by omega, show t + 1 < (2130 : Int) by omega⟩, ?_⟩⟩
    refine ⟨by omega, ⟨⟨by omega, show t + 2 < (2130 : Int) by omega⟩, ?_⟩⟩
    refine ⟨by omega, ⟨⟨by omega, show t + 3 < (2130 : Int) by omega⟩, ?_⟩⟩
    refine ⟨by omega, ⟨⟨by omega, show t + 4 < (2130 : Int) by omega⟩, ?_⟩⟩
    refine ⟨by omega, ⟨⟨by omega, by decide, by decide, show t + 41 + 30 ≤ (2130 : Int) by omega, by decide⟩, ?_⟩⟩
    refine ⟨by omega, ⟨⟨by omega, show t + 0 < (2130 : Int) by omega⟩, ?_⟩⟩
    refine H (min 6 (h 24 (t + 0))) ?_
    rw [Int.add_zero, R0]
    omega
  exact G _ (by rw [← tm])
theorem pU_1 {a : aA} : pUndo a 1 = a 1 := by
  unfold pUndo
  split
  · rfl
  · exact pU_o (by decide) (by decide)
theorem o_undo : op_undo Inv := by
  intro x hx
  refine opM (fun a _ => zUndo a) (fun a _ => pUndo a) (fun h L n Q I hn z0 t k => ?_) (fun h L Q ws t k => ?_) (fun a L w => pU_1)
  · refine Runs.go 30 [] ?_
    exact c_takeBack I (fun h1 J f => k h1 (J.le (by omega)) f)
  · exact r_undo ws.wf k
