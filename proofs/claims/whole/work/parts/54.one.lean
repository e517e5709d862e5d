/-! CALLS: one, standard (the first rows printed by wip/whole/gen/one.py) -/
section WO
variable {h h1 : Hp} {c : Nat} {a a1 : aA} {n : Int}
theorem CG.wOne (I : CG h c a n) (eo : ∀ o, c ≤ o → o ≤ c + 22 → o ≠ c → o ≠ c + 1 → o ≠ c + 2 → o ≠ c + 3 → o ≠ c + 4 → h1 o = h o) (ea : ∀ j, ¬ (j = 0) → ¬ (12 ≤ j ∧ j < 66) → a1 j = a j) (e6 : h1 c 6 = h c 6) (nNum : cNum h1 c a1) (nPer : cPer h1 c a1) (nSteps : cSteps h1 c a1) (nNow : cNow a1) : CG h1 c a1 n := by
  obtain ⟨i1, i2, i3, i4, i5, i6, i7, i8, i9, i10, i11⟩ := I
  have q0 := i1.1.2
  have q3 := i10.1.2.2
  exact ⟨nNum,
    nPer,
    i3.cg (fun j _ _ => congrFun (eo (c + 5) (by omega) (by omega) (by omega) (by omega) (by omega) (by omega) (by omega)) j) (fun j _ _ => ea j (by omega) (by omega)),
    i4.cg (fun j _ _ => congrFun (eo (c + 6) (by omega) (by omega) (by omega) (by omega) (by omega) (by omega) (by omega)) j) (fun j _ _ => ea j (by omega) (by omega)),
    i5.cg (fun j _ _ => congrFun (eo (c + 7) (by omega) (by omega) (by omega) (by omega) (by omega) (by omega) (by omega)) j) (fun j _ _ => ea j (by omega) (by omega)),
    i6.cg (congrFun (eo (c + 9) (by omega) (by omega) (by omega) (by omega) (by omega) (by omega) (by omega)) 3) (fun i _ _ j _ _ => congrFun (eo (c + i) (by omega) (by omega) (by omega) (by omega) (by omega) (by omega) (by omega)) j) (ea 4 (by omega) (by omega)) (fun j _ _ => ea j (by omega) (by omega)),
    i7.cg (congrFun (eo (c + 13) (by omega) (by omega) (by omega) (by omega) (by omega) (by omega) (by omega)) 3) (fun i _ _ j _ _ => congrFun (eo (c + i) (by omega) (by omega) (by omega) (by omega) (by omega) (by omega) (by omega)) j) (ea 5 (by omega) (by omega)) (fun j _ _ => ea j (by omega) (by omega)),
    i8.cg (congrFun (eo (c + 17) (by omega) (by omega) (by omega) (by omega) (by omega) (by omega) (by omega)) 3) (fun i _ _ j _ _ => congrFun (eo (c + i) (by omega) (by omega) (by omega) (by omega) (by omega) (by omega) (by omega)) j) (ea 6 (by omega) (by omega)) (fun j _ _ => ea j (by omega) (by omega)),
    i9.cg e6 (fun j _ _ => congrFun (eo (c + 8) (by omega) (by omega) (by omega) (by omega) (by omega) (by omega) (by omega)) j) (ea 11 (by omega) (by omega)) (fun j _ _ => ea j (by omega) (by omega)),
    nSteps,
    nNow⟩
theorem CG.wStd (I : CG h c a n) (eo : ∀ o, c ≤ o → o ≤ c + 22 → o ≠ c → o ≠ c + 22 → h1 o = h o) (ea : ∀ j, ¬ (j = 9) → ¬ (166 ≤ j ∧ j < 1396) → a1 j = a j) (e6 : h1 c 6 = h c 6) (nNum : cNum h1 c a1) (nSteps : cSteps h1 c a1) (nNow : cNow a1) : CG h1 c a1 n := by
  obtain ⟨i1, i2, i3, i4, i5, i6, i7, i8, i9, i10, i11⟩ := I
  have q0 := i1.1.2
  have q3 := i10.1.2.2
  exact ⟨nNum,
    i2.cg (fun i _ _ j _ _ => congrFun (eo (c + i) (by omega) (by omega) (by omega) (by omega)) j) (fun j _ _ => congrFun (eo (c + 4) (by omega) (by omega) (by omega) (by omega)) j) (fun j _ _ => ea j (by omega) (by omega)),
    i3.cg (fun j _ _ => congrFun (eo (c + 5) (by omega) (by omega) (by omega) (by omega)) j) (fun j _ _ => ea j (by omega) (by omega)),
    i4.cg (fun j _ _ => congrFun (eo (c + 6) (by omega) (by omega) (by omega) (by omega)) j) (fun j _ _ => ea j (by omega) (by omega)),
    i5.cg (fun j _ _ => congrFun (eo (c + 7) (by omega) (by omega) (by omega) (by omega)) j) (fun j _ _ => ea j (by omega) (by omega)),
    i6.cg (congrFun (eo (c + 9) (by omega) (by omega) (by omega) (by omega)) 3) (fun i _ _ j _ _ => congrFun (eo (c + i) (by omega) (by omega) (by omega) (by omega)) j) (ea 4 (by omega) (by omega)) (fun j _ _ => ea j (by omega) (by omega)),
    i7.cg (congrFun (eo (c + 13) (by omega) (by omega) (by omega) (by omega)) 3) (fun i _ _ j _ _ => congrFun (eo (c + i) (by omega) (by omega) (by omega) (by omega)) j) (ea 5 (by omega) (by omega)) (fun j _ _ => ea j (by omega) (by omega)),
    i8.cg (congrFun (eo (c + 17) (by omega) (by omega) (by omega) (by omega)) 3) (fun i _ _ j _ _ => congrFun (eo (c + i) (by omega) (by omega) (by omega) (by omega)) j) (ea 6 (by omega) (by omega)) (fun j _ _ => ea j (by omega) (by omega)),
    i9.cg e6 (fun j _ _ => congrFun (eo (c + 8) (by omega) (by omega) (by omega) (by omega)) j) (ea 11 (by omega) (by omega)) (fun j _ _ => ea j (by omega) (by omega)),
    nSteps,
    nNow⟩
end WO
def pBeg (a : aA) (p : Int) : aA := fun j => if j = 12 + 9 * p + 0 then a (12 + 9 * p + 7) else if j = 12 + 9 * p + 1 then a (12 + 9 * p + 8) else if 12 + 9 * p + 2 ≤ j ∧ j < 12 + 9 * p + 6 then 0 else a j
def pOne (a : aA) (u v c : Int) : aA := if ((0 ≤ u ∧ u ≤ 2) ∧ (0 ≤ v ∧ v ≤ 9) ∧ 0 ≤ c ∧ c ≤ 9999) ∧ a 0 < 6 then aset (pBeg (pPut (pPut (pPut a (a 0) 6 u) (a 0) 7 v) (a 0) 8 c) (a 0)) 0 (a 0 + 1) else a
def zOne (a : aA) (u v c : Int) : Int := if ((0 ≤ u ∧ u ≤ 2) ∧ (0 ≤ v ∧ v ≤ 9) ∧ 0 ≤ c ∧ c ≤ 9999) ∧ a 0 < 6 then a 0 else -1
section ON
variable {d : Nat} {h : Hp} {Q : aPO} {a : aA} {n : Int}
theorem r_begin {p : Int} (hp : 0 ≤ p ∧ p < 6) (k : ∀ h1, h1 85 = pBeg (h 85) p → (∀ o, o ≠ 85 → h1 o = h o) → Q none h1) : Runs (d + 1) 178 0 [vA 84, vI p, none] [] h Q := by
  generalize hs : h 85 = s at *
  refine Runs.go 40 [28] ?_
  refine r_get hp (by omega) ?_
  refine r_put hp (by omega) ?_
  refine r_get hp (by omega) ?_
  refine r_put hp (by omega) ?_
  refine downI (R := fun i => ∀ (g : Hp), g 85 = (fun j => if j = 12 + 9 * p + 0 then s (12 + 9 * p + 7) else if j = 12 + 9 * p + 1 then s (12 + 9 * p + 8) else if 12 + 9 * p + 2 ≤ j ∧ j < 12 + 9 * p + 2 + i then 0 else s j) → (∀ o, o ≠ 85 → g o = h o) → Runs (d + 1) 178 28 [vA 84, vI p, vI i] [] g Q) (x := 0) (n := 4) (by decide) ?_ (fun i i0 i3 r => ?_) _ ?_ (fun o y => by rw [hup_o y, hup_o y])
  · intro g e f
    refine Runs.go 20 [] ?_
    refine br.t (by omega) (k g ?_ f)
    rw [e]
    funext j
    unfold pBeg
    rw [show 12 + 9 * p + 2 + 4 = 12 + 9 * p + 6 by omega]
  · intro g e f
    refine Runs.go 20 [28] ?_
    refine br.f (by omega) ⟨by omega, ?_⟩
    refine r_put hp (by omega) ⟨by omega, ?_⟩
    refine r _ ?_ (fun o y => by rw [hup_o y]; exact f o y)
    rw [hup_s, e]
    funext j
    unfold aset
    by_cases y0 : j = 12 + 9 * p + (2 + i)
    · rw [if_pos y0, if_neg (by omega), if_neg (by omega), if_pos (by omega)]
    · rw [if_neg y0]
      dsimp only
      by_cases y1 : j = 12 + 9 * p + 0
      · rw [if_pos y1, if_pos y1]
      · rw [if_neg y1, if_neg y1]
        by_cases y2 : j = 12 + 9 * p + 1
        · rw [if_pos y2, if_pos y2]
        · rw [if_neg y2, if_neg y2]
          by_cases y3 : 12 + 9 * p + 2 ≤ j ∧ j < 12 + 9 * p + 2 + i
          · rw [if_pos y3, if_pos (by omega)]
          · rw [if_neg y3, if_neg (by omega)]
  · rw [hup_s, hup_s, hs, aset_ne (show 12 + 9 * p + 8 ≠ 12 + 9 * p + 0 by omega)]
    funext j
    unfold aset
    by_cases y1 : j = 12 + 9 * p + 0
    · rw [if_neg (by omega), if_pos y1, if_pos y1]
    · by_cases y2 : j = 12 + 9 * p + 1
      · rw [if_pos y2, if_neg y1, if_pos y2]
      · rw [if_neg y2, if_neg y1, if_neg y1, if_neg y2, if_neg (by omega)]
theorem r_one {u v c : Int} (w : Wf (h 85)) (k : ∀ h1, h1 85 = pOne (h 85) u v c → frR h h1 → Q (vI (zOne (h 85) u v c)) h1) : Runs (d + 2) 177 0 [vA 84, vI u, vI v, vI c, none] [] h Q := by
  have q0 := w.p0
  unfold pOne zOne at k
  have F : ¬ (((0 ≤ u ∧ u ≤ 2) ∧ (0 ≤ v ∧ v ≤ 9) ∧ 0 ≤ c ∧ c ≤ 9999) ∧ h 85 0 < 6) → Q (vI (-1)) h := fun y => by
    have K := k h
    rw [if_neg y, if_neg y] at K
    exact K rfl frR.rf
  refine Runs.go 40 [51] ?_
  refine r_isIn ?_
  refine br.i (fun y => F (fun q => b2i_z y q.1.1)) (fun y1 => ?_)
  refine r_isIn ?_
  refine br.i (fun y => F (fun q => b2i_z y q.1.2.1)) (fun y2 => ?_)
  refine r_isIn ?_
  refine br.i (fun y => F (fun q => b2i_z y q.1.2.2)) (fun y3 => ?_)
  refine ⟨by decide, ?_⟩
  refine br.j (fun y => F (fun q => ?_)) (fun y4 => ?_)
  · have y' : h 85 0 = 6 := Decidable.not_not.mp y
    omega
  have y' : h 85 0 ≠ 6 := y4
  have ok : ((0 ≤ u ∧ u ≤ 2) ∧ (0 ≤ v ∧ v ≤ 9) ∧ 0 ≤ c ∧ c ≤ 9999) ∧ h 85 0 < 6 := ⟨⟨b2i_nz y1, b2i_nz y2, b2i_nz y3⟩, by omega⟩
  rw [if_pos ok, if_pos ok] at k
  have G : ∀ p : Int, p = h 85 0 → Runs (d + 2) 177 51 [vA 84, vI u, vI v, vI c, vI p] [] h Q := by
    intro p ep
    have p6 : 0 ≤ p ∧ p < 6 := by omega
    refine Runs.go 40 [] ?_
    refine r_put p6 (by omega) ?_
    refine r_put p6 (by omega) ?_
    refine r_put p6 (by omega) ?_
    refine r_begin p6 (fun h1 e1 f1 => ?_)
    rw [hup_s, hup_s, hup_s] at e1
    have e0 : h1 85 0 = p := by
      rw [e1, ep]
      unfold pBeg
      rw [if_neg (by omega), if_neg (by omega), if_neg (by omega), aset_ne (by omega), aset_ne (by omega), aset_ne (by omega)]
    refine ⟨by decide, ⟨show -2147483648 ≤ h1 85 0 + 1 ∧ h1 85 0 + 1 < 2147483648 by omega, ⟨by decide, ?_⟩⟩⟩
    refine QI (k _ ?_ (fun o y _ => by rw [hup_o y, f1 o y, hup_o y, hup_o y, hup_o y])) ep
    rw [hup_s, e0, e1, ep]
    rfl
  refine ⟨by decide, ?_⟩
  exact G _ rfl
theorem pOne_v {u v c : Int} (w : Wf a) (ok : ((0 ≤ u ∧ u ≤ 2) ∧ (0 ≤ v ∧ v ≤ 9) ∧ 0 ≤ c ∧ c ≤ 9999) ∧ a 0 < 6) : pOne a u v c 0 = a 0 + 1 ∧ (∀ j, j ≠ 0 → ¬ (12 + 9 * a 0 ≤ j ∧ j < 12 + 9 * a 0 + 9) → pOne a u v c j = a j) ∧ pOne a u v c (12 + 9 * a 0 + 0) = v ∧ pOne a u v c (12 + 9 * a 0 + 1) = c ∧ (∀ i, 0 ≤ i → i < 4 → pOne a u v c (12 + 9 * a 0 + (2 + i)) = 0) ∧ pOne a u v c (12 + 9 * a 0 + 6) = u ∧ pOne a u v c (12 + 9 * a 0 + 7) = v ∧ pOne a u v c (12 + 9 * a 0 + 8) = c := by
  have q0 := w.p0
  unfold pOne
  rw [if_pos ok]
  generalize hp : a 0 = p at *
  refine ⟨aset_eq, fun j j0 jo => ?_, ?_, ?_, fun i i0 i4 => ?_, ?_, ?_, ?_⟩
  · rw [aset_ne j0]
    unfold pBeg pPut
    rw [if_neg (by omega), if_neg (by omega), if_neg (by omega), aset_ne (by omega), aset_ne (by omega), aset_ne (by omega)]
  · rw [aset_ne (by omega)]
    unfold pBeg pPut
    rw [if_pos rfl, aset_ne (by omega), aset_eq]
  · rw [aset_ne (by omega)]
    unfold pBeg pPut
    rw [if_neg (by omega), if_pos rfl, aset_eq]
  · rw [aset_ne (by omega)]
    unfold pBeg pPut
    rw [if_neg (by omega), if_neg (by omega), if_pos (by omega)]
  · rw [aset_ne (by omega)]
    unfold pBeg pPut
    rw [if_neg (by omega), if_neg (by omega), if_neg (by omega), aset_ne (by omega), aset_ne (by omega), aset_eq]
  · rw [aset_ne (by omega)]
    unfold pBeg pPut
    rw [if_neg (by omega), if_neg (by omega), if_neg (by omega), aset_ne (by omega), aset_eq]
  · rw [aset_ne (by omega)]
    unfold pBeg pPut
    rw [if_neg (by omega), if_neg (by omega), if_neg (by omega), aset_eq]
theorem c_tellOne {u v c : Int} (I : CG h 2 a n) (hn : n ≤ 30000) (k : ∀ h1, CG h1 2 (pOne a u v c) n → frC h h1 → Q (vI (zOne a u v c)) h1) : Runs (d + 2) 45 0 [vA 1, vI u, vI v, vI c, none, none] [] h Q := by
  have w := I.wf hn
  have q0 := w.p0
  have e0 : h 2 0 = a 0 := I.num.1.1
  unfold zOne at k
  have F : ¬ (((0 ≤ u ∧ u ≤ 2) ∧ (0 ≤ v ∧ v ≤ 9) ∧ 0 ≤ c ∧ c ≤ 9999) ∧ a 0 < 6) → Q (vI (-1)) h := fun y => by
    have K := k h
    unfold pOne at K
    rw [if_neg y, if_neg y] at K
    exact K I frC.rf
  have G : ∀ p : Int, p = a 0 → Runs (d + 2) 45 9 [vA 1, vI u, vI v, vI c, vI p, none] [] h Q := by
    intro p ep
    refine Runs.go 40 [84] ?_
    refine sp_between ?_
    refine br.i (fun y => F (fun q => b2i_z y q.1.1)) (fun y1 => ?_)
    refine sp_between ?_
    refine br.i (fun y => F (fun q => b2i_z y q.1.2.1)) (fun y2 => ?_)
    refine sp_between ?_
    refine br.i (fun y => F (fun q => b2i_z y q.1.2.2)) (fun y3 => ?_)
    refine br.j (fun y => F (fun q => by omega)) (fun y4 => ?_)
    have ok : ((0 ≤ u ∧ u ≤ 2) ∧ (0 ≤ v ∧ v ≤ 9) ∧ 0 ≤ c ∧ c ≤ 9999) ∧ a 0 < 6 := ⟨⟨b2i_nz y1, b2i_nz y2, b2i_nz y3⟩, by omega⟩
    rw [if_pos ok] at k
    have b : 0 ≤ p ∧ p < (6 : Int) := by omega
    refine ⟨b, ⟨b, ⟨b, ?_⟩⟩⟩
    have B0 : hup (hup (hup h 3 p u) 4 p v) 5 p c 6 = h 6 := by rw [hup_o (by decide), hup_o (by decide), hup_o (by decide)]
    have B1 : ∀ o, o ≠ 3 → o ≠ 4 → o ≠ 5 → hup (hup (hup h 3 p u) 4 p v) 5 p c o = h o := fun o x y z => by rw [hup_o z, hup_o y, hup_o x]
    have B3 : hup (hup (hup h 3 p u) 4 p v) 5 p c 3 = aset (h 3) p u := by rw [hup_o (by decide), hup_o (by decide), hup_s]
    have B4 : hup (hup (hup h 3 p u) 4 p v) 5 p c 4 = aset (h 4) p v := by rw [hup_o (by decide), hup_s, hup_o (by decide)]
    have B5 : hup (hup (hup h 3 p u) 4 p v) 5 p c 5 = aset (h 5) p c := by rw [hup_s, hup_o (by decide), hup_o (by decide)]
    generalize hup (hup (hup h 3 p u) 4 p v) 5 p c = g0 at *
    refine downI (R := fun i => ∀ g : Hp, (∀ o, o ≠ 6 → g o = g0 o) → (∀ j, g 6 j = if p * 4 ≤ j ∧ j < p * 4 + i then 0 else h 6 j) → Runs (d + 2) 45 84 [vA 1, vI u, vI v, vI c, vI p, vI i] [] g Q) (x := 0) (n := 4) (by decide) ?_ (fun i i0 i3 r => ?_) g0 (fun _ _ => rfl) (fun j => by rw [B0, if_neg (by omega)])
    · intro g f f6
      have g0' : g 2 0 = p := by rw [f 2 (by decide), B1 2 (by decide) (by decide) (by decide), ep]; exact e0
      refine Runs.go 20 [] ?_
      refine br.t (by omega) ⟨show -2147483648 ≤ g 2 0 + 1 ∧ g 2 0 + 1 < 2147483648 by omega, ?_⟩
      have E : hup g 2 0 (g 2 0 + 1) = hup g 2 0 (a 0 + 1) := by rw [g0', ep]
      have V := pOne_v w ok
      rw [← ep] at V
      have gg : ∀ o, o ≠ 2 → o ≠ 3 → o ≠ 4 → o ≠ 5 → o ≠ 6 → hup g 2 0 (p + 1) o = h o := fun o x y z q t => by rw [hup_o x, f o t, B1 o y z q]
      have g2 : ∀ j : Int, j ≠ 0 → hup g 2 0 (p + 1) 2 j = h 2 j := fun j e => by rw [hup_nj e, f 2 (by decide), B1 2 (by decide) (by decide) (by decide)]
      have vo := V.2.1
      have hp3 : ∀ q : Int, 0 ≤ q → q < 6 → q ≠ p → ∀ i, 0 ≤ i → i < 9 → pOne a u v c (12 + 9 * q + i) = a (12 + 9 * q + i) := fun q x y z i i0 i9 => vo _ (by omega) (by omega)
      have J : CG (hup g 2 0 (p + 1)) 2 (pOne a u v c) n := by
        refine I.wOne (fun o _ _ x y z q t => gg o x y z q t) (fun j x y => vo j x (by omega)) (g2 6 (by decide)) ?_ ?_ ?_ ?_
        · have N := I.num
          have b0 : ∀ j, j ≠ 0 → j < 12 → pOne a u v c j = a j := fun j x y => vo j x (by omega)
          refine ⟨?_, ?_, ?_, ?_, ?_, ?_⟩
          · rw [V.1, hup_eq]; omega
          · rw [g2 1 (by decide), b0 9 (by decide) (by decide)]; exact N.2.1
          · rw [g2 2 (by decide), b0 8 (by decide) (by decide)]; exact N.2.2.1
          · rw [g2 3 (by decide), b0 10 (by decide) (by decide)]; exact N.2.2.2.1
          · rw [g2 4 (by decide), b0 1 (by decide) (by decide)]; exact N.2.2.2.2.1
          · rw [g2 5 (by decide), b0 1 (by decide) (by decide), b0 2 (by decide) (by decide)]; exact N.2.2.2.2.2
        · intro q x y
          have h3 : hup g 2 0 (p + 1) 3 = aset (h 3) p u := by rw [hup_o (by decide), f 3 (by decide), B3]
          have h4 : hup g 2 0 (p + 1) 4 = aset (h 4) p v := by rw [hup_o (by decide), f 4 (by decide), B4]
          have h5 : hup g 2 0 (p + 1) 5 = aset (h 5) p c := by rw [hup_o (by decide), f 5 (by decide), B5]
          have h6 : ∀ j, hup g 2 0 (p + 1) 6 j = if p * 4 ≤ j ∧ j < p * 4 + 4 then 0 else h 6 j := fun j => by rw [hup_o (by decide)]; exact f6 j
          by_cases eq : q = p
          · subst eq
            refine ⟨?_, ?_, ?_, fun i j0 j4 => ?_, ?_, ?_⟩
            · show hup g 2 0 (q + 1) 3 q = _ ∧ _
              rw [h3, aset_eq, V.2.2.2.2.2.1]; exact ⟨rfl, ok.1.1⟩
            · show hup g 2 0 (q + 1) 4 q = _ ∧ _
              rw [h4, aset_eq, V.2.2.1]; exact ⟨rfl, ok.1.2.1⟩
            · show hup g 2 0 (q + 1) 5 q = _ ∧ _
              rw [h5, aset_eq, V.2.2.2.1]; exact ⟨rfl, ok.1.2.2⟩
            · show hup g 2 0 (q + 1) 6 (q * 4 + i) = _ ∧ _
              rw [h6, if_pos (by omega), V.2.2.2.2.1 i j0 j4]; decide
            · rw [V.2.2.2.2.2.2.1]; exact ok.1.2.1
            · rw [V.2.2.2.2.2.2.2]; exact ok.1.2.2
          · refine (I.per q x y).cg x y ?_ ?_ ?_ (fun i j0 j4 => ?_) (fun i j0 j9 => hp3 q x y eq i j0 j9)
            · show hup g 2 0 (p + 1) 3 q = h 3 q
              rw [h3, aset_ne eq]
            · show hup g 2 0 (p + 1) 4 q = h 4 q
              rw [h4, aset_ne eq]
            · show hup g 2 0 (p + 1) 5 q = h 5 q
              rw [h5, aset_ne eq]
            · show hup g 2 0 (p + 1) 6 (q * 4 + i) = h 6 _
              rw [h6, if_neg (by omega)]
        · refine I.steps.cg ?_ ?_ (fun j _ _ => ?_) q0.2 (by rw [V.1]; omega) (vo 3 (by decide) (by omega)) (vo 11 (by decide) (by omega)) (fun q x y => ⟨vo _ (by omega) (by omega), vo _ (by omega) (by omega)⟩) (fun j x y => vo j (by omega) (by omega))
          · exact congrFun (gg 23 (by decide) (by decide) (by decide) (by decide) (by decide)) 1
          · exact congrFun (gg 23 (by decide) (by decide) (by decide) (by decide) (by decide)) 2
          · exact congrFun (gg 24 (by decide) (by decide) (by decide) (by decide) (by decide)) j
        · intro q x y z
          have s3 := I.steps.1.2
          rw [vo 3 (by decide) (by omega)] at x y
          rw [vo _ (by omega) (by omega)] at y
          rw [V.1] at z
          have hp := I.steps.hp (a 3 - 1) (by omega) (by omega)
          by_cases eq : q = p
          · subst eq
            refine ⟨?_, ?_, fun i j0 j4 => V.2.2.2.2.1 i j0 j4⟩
            · rw [V.2.2.1, V.2.2.2.2.2.2.1]
            · rw [V.2.2.2.1, V.2.2.2.2.2.2.2]
          · exact (I.now q x y (by omega)).cg (fun i j0 j6 => hp3 q (by omega) (by omega) eq i j0 (by omega)) (hp3 q (by omega) (by omega) eq 7 (by decide) (by decide)) (hp3 q (by omega) (by omega) eq 8 (by decide) (by decide))
      have K := k _ J (fun o x y => gg o (by omega) (by omega) (by omega) (by omega) (by omega))
      rw [← ep] at E
      rw [← E] at K
      exact QI K ep
    · intro g f f6
      refine Runs.go 30 [84] ?_
      refine br.f (by omega) ?_
      refine sp_setAmount (by omega) (by omega) i0 i3 ⟨by omega, ?_⟩
      refine r _ (fun o x => by rw [hup_o x]; exact f o x) (fun j => ?_)
      rw [hup_s]
      unfold aset
      by_cases e : j = p * 4 + i
      · rw [if_pos e, if_pos (by omega)]; decide
      · rw [if_neg e, f6]
        by_cases z : p * 4 ≤ j ∧ j < p * 4 + i
        · rw [if_pos z, if_pos (by omega)]
        · rw [if_neg z, if_neg (by omega)]
  refine Runs.go 10 [9] ?_
  exact G _ e0
end ON
theorem pOne_1 {a : aA} {u v c : Int} (w : Wf a) : pOne a u v c 1 = a 1 := by
  have q0 := w.p0
  by_cases y : ((0 ≤ u ∧ u ≤ 2) ∧ (0 ≤ v ∧ v ≤ 9) ∧ 0 ≤ c ∧ c ≤ 9999) ∧ a 0 < 6
  · exact (pOne_v w y).2.1 1 (by decide) (by omega)
  · unfold pOne
    rw [if_neg y]
theorem o_one : op_one Inv := by
  intro x hx
  refine opM (fun a _ => zOne a (x 1) (x 2) (x 3)) (fun a _ => pOne a (x 1) (x 2) (x 3)) (fun h L n Q I hn z0 t k => ?_) (fun h L Q ws t k => ?_) (fun a L w => pOne_1 w)
  · refine Runs.go 30 [] ?_
    exact c_tellOne I hn (fun h1 J f => k h1 (J.le (by omega)) f)
  · exact r_one ws.wf k
