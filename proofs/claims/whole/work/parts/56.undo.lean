/-! CALLS: undo (the first rows printed by wip/whole/gen/undo.py) -/
section WU
variable {h h1 : Hp} {c : Nat} {a a1 : aA} {n : Int}
theorem CG.wUndo {m : Int} (I : CG h c a n) (eo : ∀ o, c ≤ o → o ≤ c + 22 → o ≠ c → o ≠ c + 2 → o ≠ c + 3 → o ≠ c + 4 → o ≠ c + 8 → o ≠ c + 21 → h1 o = h o) (ea : ∀ j, ¬ (j = 3) → ¬ (8 ≤ j ∧ j < 66) → a1 j = a j) (nNum : cNum h1 c a1) (nPer : cPer h1 c a1) (nBook : cBook h1 c a1 m) (nSteps : cSteps h1 c a1) (nNow : cNow a1) : CG h1 c a1 m := by
  obtain ⟨i1, i2, i3, i4, i5, i6, i7, i8, i9, i10, i11⟩ := I
  have q0 := i1.1.2
  have q3 := i10.1.2.2
  exact ⟨nNum,
    nPer,
    i3.cg (fun j _ _ => congrFun (eo (c + 5) (by omega) (by omega) (by omega) (by omega) (by omega) (by omega) (by omega) (by omega)) j) (fun j _ _ => ea j (by omega) (by omega)),
    i4.cg (fun j _ _ => congrFun (eo (c + 6) (by omega) (by omega) (by omega) (by omega) (by omega) (by omega) (by omega) (by omega)) j) (fun j _ _ => ea j (by omega) (by omega)),
    i5.cg (fun j _ _ => congrFun (eo (c + 7) (by omega) (by omega) (by omega) (by omega) (by omega) (by omega) (by omega) (by omega)) j) (fun j _ _ => ea j (by omega) (by omega)),
    i6.cg (congrFun (eo (c + 9) (by omega) (by omega) (by omega) (by omega) (by omega) (by omega) (by omega) (by omega)) 3) (fun i _ _ j _ _ => congrFun (eo (c + i) (by omega) (by omega) (by omega) (by omega) (by omega) (by omega) (by omega) (by omega)) j) (ea 4 (by omega) (by omega)) (fun j _ _ => ea j (by omega) (by omega)),
    i7.cg (congrFun (eo (c + 13) (by omega) (by omega) (by omega) (by omega) (by omega) (by omega) (by omega) (by omega)) 3) (fun i _ _ j _ _ => congrFun (eo (c + i) (by omega) (by omega) (by omega) (by omega) (by omega) (by omega) (by omega) (by omega)) j) (ea 5 (by omega) (by omega)) (fun j _ _ => ea j (by omega) (by omega)),
    i8.cg (congrFun (eo (c + 17) (by omega) (by omega) (by omega) (by omega) (by omega) (by omega) (by omega) (by omega)) 3) (fun i _ _ j _ _ => congrFun (eo (c + i) (by omega) (by omega) (by omega) (by omega) (by omega) (by omega) (by omega) (by omega)) j) (ea 6 (by omega) (by omega)) (fun j _ _ => ea j (by omega) (by omega)),
    nBook,
    nSteps,
    nNow⟩
end WU
/-- what one had, or as told -/
def uv (a : aA) (x q w : Int) : Int := if q < a x then a (x + 5 + 6 * q + w) else if w = 0 then a (12 + 9 * q + 7) else if w = 1 then a (12 + 9 * q + 8) else 0
/-- undone for the first p of people -/
def pU (a : aA) (p : Int) : aA := fun j => if j = 3 then a 3 - 1 else if 8 ≤ j ∧ j < 12 then a (166 + 41 * (a 3 - 1) + 1 + (j - 8)) else if (12 ≤ j ∧ j < 66) ∧ (j - 12) % 9 < 6 ∧ (j - 12) / 9 < p then uv a (166 + 41 * (a 3 - 1)) ((j - 12) / 9) ((j - 12) % 9) else a j
def pUndo (a : aA) : aA := if a 3 = 0 then a else pU a (a 0)
def zUndo (a : aA) : Int := if a 3 = 0 then -1 else a 3 - 1
theorem pU_o {a : aA} {p j : Int} (h3 : j ≠ 3) (h : ¬ (8 ≤ j ∧ j < 66)) : pU a p j = a j := by
  unfold pU
  rw [if_neg h3, if_neg (by omega), if_neg (by omega)]
theorem pU_3 {a : aA} {p : Int} : pU a p 3 = a 3 - 1 := by unfold pU; rw [if_pos rfl]
theorem pU_d {a : aA} {p j : Int} (h : 8 ≤ j ∧ j < 12) : pU a p j = a (166 + 41 * (a 3 - 1) + 1 + (j - 8)) := by
  unfold pU
  rw [if_neg (by omega), if_pos h]
theorem pU_p {a : aA} {p q w : Int} (hq : 0 ≤ q ∧ q < 6) (hw : 0 ≤ w ∧ w < 9) : pU a p (12 + 9 * q + w) = if w < 6 ∧ q < p then uv a (166 + 41 * (a 3 - 1)) q w else a (12 + 9 * q + w) := by
  unfold pU
  rw [if_neg (by omega), if_neg (by omega), show (12 + 9 * q + w - 12) % 9 = w by omega, show (12 + 9 * q + w - 12) / 9 = q by omega]
  by_cases e : w < 6 ∧ q < p
  · rw [if_pos e, if_pos (by omega)]
  · rw [if_neg e, if_neg (by omega)]
section UN
variable {d : Nat} {h : Hp} {Q : aPO} {a : aA} {n : Int}
theorem r_undo (w : Wf (h 85)) (k : ∀ h1, h1 85 = pUndo (h 85) → frR h h1 → Q (vI (zUndo (h 85))) h1) : Runs (d + 2) 239 0 [vA 84, none, none, none] [] h Q := by
  have q0 := w.p0
  have q3 := w.p3
  unfold pUndo zUndo at k
  generalize hs : h 85 = s at *
  refine Runs.go 30 [37] ?_
  refine ⟨by decide, ?_⟩
  refine br.j (fun y => ?_) (fun y => ?_)
  · have y' : h 85 3 = 0 := Decidable.not_not.mp y
    rw [hs] at y'
    rw [if_pos y', if_pos y'] at k
    exact k h hs frR.rf
  have y1 : h 85 3 ≠ 0 := y
  have y' : s 3 ≠ 0 := by rw [← hs]; exact y1
  rw [if_neg y', if_neg y'] at k
  have e3' : h 85 3 = s 3 := by rw [hs]
  refine ⟨by decide, ⟨show -2147483648 ≤ h 85 3 - 1 ∧ h 85 3 - 1 < 2147483648 by omega, ⟨by decide, ⟨by decide, ?_⟩⟩⟩⟩
  have g3 : hup h 85 3 (h 85 3 - 1) 85 3 = s 3 - 1 := by rw [hup_eq, hs]
  refine ⟨show -2147483648 ≤ 41 * hup h 85 3 (h 85 3 - 1) 85 3 ∧ 41 * hup h 85 3 (h 85 3 - 1) 85 3 < 2147483648 by omega, ⟨show -2147483648 ≤ 166 + 41 * hup h 85 3 (h 85 3 - 1) 85 3 ∧ 166 + 41 * hup h 85 3 (h 85 3 - 1) 85 3 < 2147483648 by omega, ?_⟩⟩
  have G0 : ∀ x : Int, x = 166 + 41 * (s 3 - 1) → ∀ g : Hp, g 85 = aset s 3 (s 3 - 1) → frR h g → Runs (d + 2) 239 37 [vA 84, vI x, vI 0, none] [] g Q := by
    intro x ex g eg fg
    -- people
    have G2 : ∀ (g : Hp) (u : AV), g 85 = pU s 0 → frR h g → Runs (d + 2) 239 69 [vA 84, vI x, vI 0, u] [] g Q := by
      intro g u eg fg
      refine downI (R := fun p => ∀ (g : Hp) (u : AV), g 85 = pU s p → frR h g → Runs (d + 2) 239 69 [vA 84, vI x, vI p, u] [] g Q) (x := 0) (n := s 0) q0.1 ?_ (fun p p0 p6 r => ?_) g u eg fg
      · intro g u e f
        have e0 : g 85 0 = s 0 := by rw [e, pU_o (by decide) (by decide)]
        have e3 : g 85 3 = s 3 - 1 := by rw [e, pU_3]
        refine Runs.go 20 [] ?_
        exact ⟨by decide, br.t (show g 85 0 ≤ s 0 by omega) ⟨by decide, QI (k g e f) e3⟩⟩
      · intro g u e f
        have hp : 0 ≤ p ∧ p < 6 := by omega
        have e0 : g 85 0 = s 0 := by rw [e, pU_o (by decide) (by decide)]
        have ex0 : g 85 x = s x := by rw [e, pU_o (by omega) (by omega)]
        have bx : 0 ≤ x ∧ x < (3856 : Int) := by omega
        by_cases cp : p < s x
        · -- as it was
          have In : ∀ (g : Hp), g 85 = pU s p → frR h g → Runs (d + 2) 239 96 [vA 84, vI x, vI p, vI 0] [] g Q := by
            intro g e f
            refine downI (R := fun i => ∀ (g : Hp), g 85 = (fun j => if 12 + 9 * p ≤ j ∧ j < 12 + 9 * p + i then s (x + 5 + 6 * p + (j - (12 + 9 * p))) else pU s p j) → frR h g → Runs (d + 2) 239 96 [vA 84, vI x, vI p, vI i] [] g Q) (x := 0) (n := 6) (by decide) ?_ (fun i i0 i6 r2 => ?_) g (by rw [e]; funext j; rw [if_neg (by omega)]) f
            · intro g e f
              refine Runs.go 20 [69] ?_
              refine br.t (by omega) ⟨by omega, r g _ ?_ f⟩
              rw [e]
              funext j
              by_cases c1 : 12 + 9 * p ≤ j ∧ j < 12 + 9 * p + 6
              · rw [if_pos c1]
                have z := pU_p (a := s) (p := p + 1) (q := p) (w := j - (12 + 9 * p)) hp (by omega)
                rw [show 12 + 9 * p + (j - (12 + 9 * p)) = j by omega, if_pos (by omega)] at z
                rw [z]
                unfold uv
                rw [← ex, if_pos cp]
              · rw [if_neg c1]
                unfold pU
                by_cases c2 : j = 3
                · rw [if_pos c2, if_pos c2]
                · rw [if_neg c2, if_neg c2]
                  by_cases c3 : 8 ≤ j ∧ j < 12
                  · rw [if_pos c3, if_pos c3]
                  · rw [if_neg c3, if_neg c3]
                    by_cases c4 : (12 ≤ j ∧ j < 66) ∧ (j - 12) % 9 < 6 ∧ (j - 12) / 9 < p
                    · rw [if_pos c4, if_pos (by omega)]
                    · rw [if_neg c4, if_neg (by omega)]
            · intro g e f
              have gx : g 85 x = s x := by rw [e]; dsimp only; rw [if_neg (by omega), pU_o (by omega) (by omega)]
              have gv : g 85 (x + 5 + 6 * p + i) = s (x + 5 + 6 * p + i) := by rw [e]; dsimp only; rw [if_neg (by omega), pU_o (by omega) (by omega)]
              refine Runs.go 40 [96] ?_
              refine br.f (by omega) ⟨bx, br.f (show ¬ g 85 x ≤ p by omega) ?_⟩
              refine ⟨by omega, ⟨by omega, ⟨by omega, ⟨by omega, ⟨⟨by omega, show x + 5 + 6 * p + i < (3856 : Int) by omega⟩, ?_⟩⟩⟩⟩⟩
              refine r_put hp (by omega) ⟨by omega, ?_⟩
              refine r2 _ ?_ (f.up (Or.inl rfl))
              rw [hup_s, gv, e]
              funext j
              unfold aset
              dsimp only
              by_cases c1 : j = 12 + 9 * p + i
              · rw [if_pos c1, if_pos (by omega), c1, show 12 + 9 * p + i - (12 + 9 * p) = i by omega]
              · rw [if_neg c1]
                by_cases c2 : 12 + 9 * p ≤ j ∧ j < 12 + 9 * p + i
                · rw [if_pos c2, if_pos (by omega)]
                · rw [if_neg c2, if_neg (by omega)]
          refine Runs.go 20 [96] ?_
          refine ⟨by decide, br.f (show ¬ g 85 0 ≤ p by omega) ⟨bx, br.t (show p < g 85 x by omega) ?_⟩⟩
          exact In g e f
        · -- as told
          refine Runs.go 40 [69] ?_
          refine ⟨by decide, br.f (show ¬ g 85 0 ≤ p by omega) ⟨bx, br.f (show ¬ p < g 85 x by omega) ?_⟩⟩
          refine r_begin hp (fun h1 e1 f1 => ?_)
          rw [e] at e1
          have hx1 : h1 85 x = s x := by
            rw [e1]
            unfold pBeg
            rw [if_neg (by omega), if_neg (by omega), if_neg (by omega), pU_o (by omega) (by omega)]
          refine br.f (by decide) ⟨bx, br.t (show h1 85 x ≤ p by omega) ⟨by omega, ?_⟩⟩
          refine r h1 _ ?_ (f.tr (fun o z _ => f1 o z))
          rw [e1]
          funext j
          unfold pBeg
          have z := fun w (hw : 0 ≤ w ∧ w < 9) => pU_p (a := s) (p := p + 1) (q := p) (w := w) hp hw
          have z0 := fun w (hw : 0 ≤ w ∧ w < 9) => pU_p (a := s) (p := p) (q := p) (w := w) hp hw
          by_cases c0 : j = 12 + 9 * p + 0
          · rw [if_pos c0, c0, z 0 (by decide), z0 7 (by decide), if_neg (by omega), if_pos (by omega)]
            unfold uv
            rw [← ex, if_neg cp, if_pos rfl]
          · rw [if_neg c0]
            by_cases c1 : j = 12 + 9 * p + 1
            · rw [if_pos c1, c1, z 1 (by decide), z0 8 (by decide), if_neg (by omega), if_pos (by omega)]
              unfold uv
              rw [← ex, if_neg cp, if_neg (by decide), if_pos rfl]
            · rw [if_neg c1]
              by_cases c2 : 12 + 9 * p + 2 ≤ j ∧ j < 12 + 9 * p + 6
              · rw [if_pos c2]
                have zz := z (j - (12 + 9 * p)) (by omega)
                rw [show 12 + 9 * p + (j - (12 + 9 * p)) = j by omega, if_pos (by omega)] at zz
                rw [zz]
                unfold uv
                rw [← ex, if_neg cp, if_neg (by omega), if_neg (by omega)]
              · rw [if_neg c2]
                unfold pU
                by_cases c3 : j = 3
                · rw [if_pos c3, if_pos c3]
                · rw [if_neg c3, if_neg c3]
                  by_cases c4 : 8 ≤ j ∧ j < 12
                  · rw [if_pos c4, if_pos c4]
                  · rw [if_neg c4, if_neg c4]
                    by_cases c5 : (12 ≤ j ∧ j < 66) ∧ (j - 12) % 9 < 6 ∧ (j - 12) / 9 < p
                    · rw [if_pos c5, if_pos (by omega)]
                    · rw [if_neg c5, if_neg (by omega)]
    refine downI (R := fun i => ∀ (g : Hp), g 85 = (fun j => if j = 3 then s 3 - 1 else if 8 ≤ j ∧ j < 8 + i then s (x + 1 + (j - 8)) else s j) → frR h g → Runs (d + 2) 239 37 [vA 84, vI x, vI i, none] [] g Q) (x := 0) (n := 4) (by decide) ?_ (fun i i0 i4 r => ?_) g ?_ fg
    · intro g e f
      refine Runs.go 20 [69] ?_
      refine br.t (by omega) (G2 g _ ?_ f)
      rw [e]
      funext j
      unfold pU
      rw [ex]
      by_cases c1 : j = 3
      · rw [if_pos c1, if_pos c1]
      · rw [if_neg c1, if_neg c1]
        by_cases c2 : 8 ≤ j ∧ j < 12
        · rw [if_pos c2, if_pos (by omega)]
        · rw [if_neg c2, if_neg (by omega), if_neg (by omega)]
    · intro g e f
      have gv : g 85 (x + 1 + i) = s (x + 1 + i) := by rw [e]; dsimp only; rw [if_neg (by omega), if_neg (by omega)]
      refine Runs.go 30 [37] ?_
      refine br.f (by omega) ⟨by omega, ⟨by omega, ⟨by omega, ⟨⟨by omega, show x + 1 + i < (3856 : Int) by omega⟩, ⟨⟨by omega, show 8 + i < (3856 : Int) by omega⟩, ⟨by omega, ?_⟩⟩⟩⟩⟩⟩
      refine r _ ?_ (f.up (Or.inl rfl))
      rw [hup_s, gv, e]
      funext j
      unfold aset
      dsimp only
      by_cases c1 : j = 8 + i
      · rw [if_pos c1, if_neg (by omega), if_pos (by omega), c1, show 8 + i - 8 = i by omega]
      · rw [if_neg c1]
        by_cases c2 : j = 3
        · rw [if_pos c2, if_pos c2]
        · rw [if_neg c2, if_neg c2]
          by_cases c3 : 8 ≤ j ∧ j < 8 + i
          · rw [if_pos c3, if_pos (by omega)]
          · rw [if_neg c3, if_neg (by omega)]
    · rw [eg]
      funext j
      unfold aset
      by_cases c1 : j = 3
      · rw [if_pos c1, if_pos c1]
      · rw [if_neg c1, if_neg c1, if_neg (by omega)]
  refine G0 _ ?_ _ ?_ (frR.rf.up (Or.inl rfl))
  · rw [g3]
  · rw [hup_s, hs]
end UN
