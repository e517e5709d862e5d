/-! CALLS: standard -/
def pSv (a : aA) (v i : Int) : aA := fun j => if j = 9 then v else if (166 ≤ j ∧ j < 166 + 41 * i) ∧ (j - 166) % 41 = 2 then v else a j
def pStd (a : aA) (v : Int) : aA := if 1 ≤ v ∧ v ≤ 99 then pSv a v (a 3) else a
theorem pSv_o {a : aA} {v i j : Int} (h9 : j ≠ 9) (h : ¬ (166 ≤ j ∧ j < 166 + 41 * i)) : pSv a v i j = a j := by
  unfold pSv
  rw [if_neg h9, if_neg (by omega)]
theorem pSv_r {a : aA} {v i : Int} {q o : Int} (hq : 0 ≤ q ∧ q < i) (ho : 0 ≤ o ∧ o < 41) : pSv a v i (166 + 41 * q + o) = if o = 2 then v else a (166 + 41 * q + o) := by
  unfold pSv
  rw [if_neg (by omega)]
  by_cases e : o = 2
  · rw [if_pos e, if_pos (by omega)]
  · rw [if_neg e, if_neg (by omega)]
theorem cRow.std {h h1 : Hp} {c : Nat} {a a1 : aA} {r x v : Int} (hc : ∀ o, 0 ≤ o → o < 71 → h1 (c + 22) (r + o) = if o = 1 then v else h (c + 22) (r + o)) (ha : ∀ o, 0 ≤ o → o < 41 → a1 (x + o) = if o = 2 then v else a (x + o)) (e0 : a1 0 = a 0) (eb : ∀ j, 1396 ≤ j → j < 3856 → a1 j = a j) (hv : 1 ≤ v ∧ v ≤ 99) (R : cRow h c a r x) : cRow h1 c a1 r x := by
  obtain ⟨i1, i2, i3, i4, i5, i6, i7⟩ := R
  have cc : ∀ o, 0 ≤ o → o < 71 → o ≠ 1 → h1 (c + 22) (r + o) = h (c + 22) (r + o) := fun o x y z => by rw [hc o x y, if_neg z]
  have aa : ∀ o, 0 ≤ o → o < 41 → o ≠ 2 → a1 (x + o) = a (x + o) := fun o y z q => by rw [ha o y z, if_neg q]
  have c0 := cc 0 (by decide) (by decide) (by decide)
  have a0 := aa 0 (by decide) (by decide) (by decide)
  rw [Int.add_zero] at c0 a0
  refine ⟨?_, ?_, ?_, ?_, ?_, ?_, fun p p0 p6 => ?_⟩
  · rw [c0, a0, e0]; exact i1
  · rw [hc 1 (by decide) (by decide), ha 2 (by decide) (by decide), if_pos rfl, if_pos rfl]; exact ⟨rfl, hv⟩
  · rw [cc 2 (by decide) (by decide) (by decide), aa 1 (by decide) (by decide) (by decide)]; exact i3
  · rw [cc 3 (by decide) (by decide) (by decide), aa 3 (by decide) (by decide) (by decide)]; exact i4
  · rw [cc 4 (by decide) (by decide) (by decide), aa 4 (by decide) (by decide) (by decide)]; exact i5
  · rw [aa 4 (by decide) (by decide) (by decide)]
    refine i6.ca i5.2 (fun j _ _ => ?_) eb
    exact eqc (cc (41 + j) (by omega) (by omega) (by omega)) (by omega) (by omega)
  · obtain ⟨j1, j2, j3⟩ := i7 p p0 p6
    refine ⟨?_, ?_, fun k k0 k4 => ?_⟩
    · have z1 : h1 (c + 22) (r + 5 + p) = h (c + 22) (r + 5 + p) := eqc (cc (5 + p) (by omega) (by omega) (by omega)) (by omega) (by omega)
      have z2 : a1 (x + 5 + 6 * p + 0) = a (x + 5 + 6 * p + 0) := eqc (aa (5 + 6 * p + 0) (by omega) (by omega) (by omega)) (by omega) (by omega)
      rw [z1, z2]; exact j1
    · have z1 : h1 (c + 22) (r + 11 + p) = h (c + 22) (r + 11 + p) := eqc (cc (11 + p) (by omega) (by omega) (by omega)) (by omega) (by omega)
      have z2 : a1 (x + 5 + 6 * p + 1) = a (x + 5 + 6 * p + 1) := eqc (aa (5 + 6 * p + 1) (by omega) (by omega) (by omega)) (by omega) (by omega)
      rw [z1, z2]; exact j2
    · have z1 : h1 (c + 22) (r + 17 + (p * 4 + k)) = h (c + 22) (r + 17 + (p * 4 + k)) := eqc (cc (17 + (p * 4 + k)) (by omega) (by omega) (by omega)) (by omega) (by omega)
      have z2 : a1 (x + 5 + 6 * p + (2 + k)) = a (x + 5 + 6 * p + (2 + k)) := eqc (aa (5 + 6 * p + (2 + k)) (by omega) (by omega) (by omega)) (by omega) (by omega)
      rw [z1, z2]; exact j3 k k0 k4
theorem CG.stand {h h1 : Hp} {a : aA} {n v : Int} (I : CG h 2 a n) (hv : 1 ≤ v ∧ v ≤ 99) (eo : ∀ o, o ≠ 2 → o ≠ 24 → h1 o = h o) (e2 : ∀ j, j ≠ 1 → h1 2 j = h 2 j) (e21 : h1 2 1 = v) (e4 : ∀ j, 0 ≤ j → j < 2130 → h1 24 j = if j % 71 = 1 then v else h 24 j) : CG h1 2 (pSv a v (a 3)) n := by
  have N := I.num
  have q0 := N.1.2
  have s3 := I.steps.1.2
  have s2 := I.steps.2.1
  have cs := I.steps.2.2.2
  have hp := I.steps.hp
  have so : ∀ j, j ≠ 9 → j < 166 → pSv a v (a 3) j = a j := fun j x y => pSv_o x (by omega)
  have sb : ∀ j, 1396 ≤ j → pSv a v (a 3) j = a j := fun j x => pSv_o (by omega) (by omega)
  have sr : ∀ q, 0 ≤ q → q < a 3 → ∀ o, 0 ≤ o → o < 41 → o ≠ 2 → pSv a v (a 3) (166 + 41 * q + o) = a (166 + 41 * q + o) := fun q x y o z w u => by rw [pSv_r ⟨x, y⟩ ⟨z, w⟩, if_neg u]
  have sr0 : ∀ q, 0 ≤ q → q < a 3 → pSv a v (a 3) (166 + 41 * q) = a (166 + 41 * q) := fun q x y => by have z := sr q x y 0 (by decide) (by decide) (by decide); rw [Int.add_zero] at z; exact z
  refine I.wStd (fun o _ _ x y => eo o x y) (fun j x y => pSv_o x (by omega)) (e2 6 (by decide)) ?_ ⟨?_, ?_, fun j j0 j3 => ?_, ?_, ?_, ?_⟩ ?_
  · refine ⟨?_, ?_, ?_, ?_, ?_, ?_⟩
    · rw [e2 0 (by decide), so 0 (by decide) (by decide)]; exact N.1
    · rw [e21, show pSv a v (a 3) 9 = v from by unfold pSv; rw [if_pos rfl]]; exact ⟨rfl, hv⟩
    · rw [e2 2 (by decide), so 8 (by decide) (by decide)]; exact N.2.2.1
    · rw [e2 3 (by decide), so 10 (by decide) (by decide)]; exact N.2.2.2.1
    · rw [e2 4 (by decide), so 1 (by decide) (by decide)]; exact N.2.2.2.2.1
    · rw [e2 5 (by decide), so 1 (by decide) (by decide), so 2 (by decide) (by decide)]; exact N.2.2.2.2.2
  · rw [so 3 (by decide) (by decide), show h1 (2 + 21) = h (2 + 21) from eo 23 (by decide) (by decide)]; exact I.steps.1
  · rw [show h1 (2 + 21) = h (2 + 21) from eo 23 (by decide) (by decide)]; exact s2
  · rw [so 3 (by decide) (by decide)] at j3
    rw [show h1 (2 + 21) = h (2 + 21) from eo 23 (by decide) (by decide)]
    refine (I.steps.2.2.1 j j0 j3).std (v := v) (fun o x y => ?_) (fun o x y => pSv_r ⟨j0, j3⟩ ⟨x, y⟩) (so 0 (by decide) (by decide)) (fun j x _ => sb j x) hv
    show h1 24 ((h (2 + 21) 1 + j) % 30 * 71 + o) = if o = 1 then v else h 24 _
    rw [e4 _ (by omega) (by omega)]
    by_cases e : o = 1
    · rw [if_pos e, if_pos (by omega)]
    · rw [if_neg e, if_neg (by omega)]
  · intro i j i0 ij j3
    rw [so 3 (by decide) (by decide)] at j3
    rw [sr0 i i0 (by omega), sr0 j (by omega) j3, sr i i0 (by omega) 4 (by decide) (by decide) (by decide), sr j (by omega) j3 4 (by decide) (by decide) (by decide)]
    exact cs.1 i j i0 ij j3
  · intro i i0 i3
    rw [so 3 (by decide) (by decide)] at i3
    rw [so 3 (by decide) (by decide), so 11 (by decide) (by decide), sr i i0 i3 4 (by decide) (by decide) (by decide)]
    exact cs.2.1 i i0 i3
  · intro j p j0 j3 p0 p1
    rw [so 3 (by decide) (by decide)] at j3
    rw [sr0 j j0 (by omega)] at p0
    rw [sr0 (j + 1) (by omega) j3] at p1
    have z1 := hp j (by omega) (by omega)
    have z2 := hp (j + 1) (by omega) (by omega)
    refine (cs.2.2 j p j0 j3 p0 p1).cg (fun k k0 k6 => ?_) (so _ (by omega) (by omega)) (so _ (by omega) (by omega))
    exact eqc (sr (j + 1) (by omega) j3 (5 + 6 * p + k) (by omega) (by omega) (by omega)) (by omega) (by omega)
  · intro p p3 p0 p1
    rw [so 3 (by decide) (by decide)] at p3 p0
    rw [sr0 _ (by omega) (by omega)] at p0
    rw [so 0 (by decide) (by decide)] at p1
    have z1 := hp (a 3 - 1) (by omega) (by omega)
    exact (I.now p p3 p0 p1).cg (fun k _ _ => so _ (by omega) (by omega)) (so _ (by omega) (by omega)) (so _ (by omega) (by omega))
section SD
variable {d : Nat} {h : Hp} {Q : aPO} {a : aA} {n : Int}
theorem c_tellStd {v : Int} (I : CG h 2 a n) (k : ∀ h1, CG h1 2 (pStd a v) n → frC h h1 → Q (vI (b2i (1 ≤ v ∧ v ≤ 99))) h1) : Runs (d + 2) 47 0 [vA 1, vI v] [] h Q := by
  unfold pStd at k
  refine Runs.go 40 [] ?_
  refine sp_between ?_
  refine br.j (fun y => ?_) (fun y => ?_)
  · have y' := b2i_z (Decidable.not_not.mp y)
    rw [if_neg y', b2i_f y'] at k
    exact ⟨by omega, k h I frC.rf⟩
  have y' := b2i_nz y
  rw [if_pos y', b2i_t y'] at k
  have T : ∀ (g : Hp) (Q2 : aPO), (∀ h1, (∀ o, o ≠ 24 → h1 o = g o) → (∀ j, 0 ≤ j → j < 2130 → h1 24 j = if j % 71 = 1 then v else g 24 j) → Q2 none h1) → Runs (d + 1) 100 0 [vA 23, vI v, none] [] g Q2 := by
    intro g Q2 k2
    refine Runs.go 20 [2] ?_
    refine downI (R := fun i => ∀ (q : Hp), (∀ o, o ≠ 24 → q o = g o) → (∀ j, q 24 j = if (0 ≤ j ∧ j < 71 * i) ∧ j % 71 = 1 then v else g 24 j) → Runs (d + 1) 100 2 [vA 23, vI v, vI i] [] q Q2) (x := 0) (n := 30) (by decide) ?_ (fun i i0 i3 r => ?_) g (fun _ _ => rfl) (fun j => by rw [if_neg (by omega)])
    · intro q f f4
      refine Runs.go 20 [] ?_
      refine br.t (by omega) (k2 q f (fun j j0 j1 => ?_))
      rw [f4]
      by_cases e : j % 71 = 1
      · rw [if_pos e, if_pos (by omega)]
      · rw [if_neg e, if_neg (by omega)]
    · intro q f f4
      refine Runs.go 20 [2] ?_
      refine br.f (by omega) ⟨by omega, ⟨by omega, ⟨⟨by omega, show i * 71 + 1 < (2130 : Int) by omega⟩, ⟨by omega, ?_⟩⟩⟩⟩
      refine r _ (fun o x => by rw [hup_o x]; exact f o x) (fun j => ?_)
      rw [hup_s]
      unfold aset
      by_cases e : j = i * 71 + 1
      · rw [if_pos e, if_pos (by omega)]
      · rw [if_neg e, f4]
        by_cases z : (0 ≤ j ∧ j < 71 * i) ∧ j % 71 = 1
        · rw [if_pos z, if_pos (by omega)]
        · rw [if_neg z, if_neg (by omega)]
  refine T _ _ (fun h1 f f4 => ⟨by omega, ?_⟩)
  refine k h1 (I.stand y' (fun o x y => by rw [f o y, hup_o x]) (fun j x => by rw [f 2 (by decide), hup_nj x]) (by rw [f 2 (by decide), hup_eq]) (fun j x z => ?_)) (fun o x y => by rw [f o (by omega), hup_o (show o ≠ 2 by omega)])
  rw [f4 j x z, hup_o (by decide)]
theorem r_standard {v : Int} (w : Wf (h 85)) (k : ∀ h1, h1 85 = pStd (h 85) v → frR h h1 → Q (vI (b2i (1 ≤ v ∧ v ≤ 99))) h1) : Runs (d + 1) 180 0 [vA 84, vI v, none] [] h Q := by
  have q3 := w.p3
  unfold pStd at k
  refine Runs.go 40 [22] ?_
  refine r_isIn ?_
  refine br.j (fun y => ?_) (fun y => ?_)
  · have y' := b2i_z (Decidable.not_not.mp y)
    have K := k h
    rw [if_neg y', b2i_f y'] at K
    exact ⟨by omega, K rfl frR.rf⟩
  have y' := b2i_nz y
  rw [if_pos y', b2i_t y'] at k
  refine ⟨by decide, ?_⟩
  generalize hs : h 85 = s at *
  refine downI (R := fun i => ∀ (g : Hp), g 85 = pSv s v i → frR h g → Runs (d + 1) 180 22 [vA 84, vI v, vI i] [] g Q) (x := 0) (n := s 3) q3.1 ?_ (fun i i0 i3 r => ?_) _ ?_ (frR.rf.up (Or.inl rfl))
  · intro g e f
    have e3 : g 85 3 = s 3 := by rw [e, pSv_o (by decide) (by omega)]
    refine Runs.go 20 [] ?_
    exact ⟨by decide, br.t (show g 85 3 ≤ s 3 by omega) ⟨by omega, k g e f⟩⟩
  · intro g e f
    have e3 : g 85 3 = s 3 := by rw [e, pSv_o (by decide) (by omega)]
    refine Runs.go 20 [22] ?_
    refine ⟨by decide, br.f (show ¬ g 85 3 ≤ i by omega) ?_⟩
    refine ⟨by omega, ⟨by omega, ⟨by omega, ⟨⟨by omega, show 166 + 41 * i + 2 < (3856 : Int) by omega⟩, ⟨by omega, ?_⟩⟩⟩⟩⟩
    refine r _ ?_ (f.up (Or.inl rfl))
    rw [hup_s, e]
    funext j
    unfold aset pSv
    by_cases z : j = 166 + 41 * i + 2
    · rw [if_pos z, if_neg (by omega), if_pos (by omega)]
    · rw [if_neg z]
      by_cases z9 : j = 9
      · rw [if_pos z9, if_pos z9]
      · rw [if_neg z9, if_neg z9]
        by_cases z2 : (166 ≤ j ∧ j < 166 + 41 * i) ∧ (j - 166) % 41 = 2
        · rw [if_pos z2, if_pos (by omega)]
        · rw [if_neg z2, if_neg (by omega)]
  · rw [hup_s, hs]
    funext j
    unfold aset pSv
    by_cases z9 : j = 9
    · rw [if_pos z9, if_pos z9]
    · rw [if_neg z9, if_neg z9, if_neg (by omega)]
end SD
theorem pStd_1 {a : aA} {v : Int} : pStd a v 1 = a 1 := by
  unfold pStd
  split
  · exact pSv_o (by decide) (by omega)
  · rfl
theorem o_standard : op_standard Inv := by
  intro x hx
  refine opM (fun a _ => b2i (1 ≤ x 1 ∧ x 1 ≤ 99)) (fun a _ => pStd a (x 1)) (fun h L n Q I hn z0 t k => ?_) (fun h L Q ws t k => ?_) (fun a L w => pStd_1)
  · refine Runs.go 30 [] ?_
    exact c_tellStd I (fun h1 J f => ⟨b2i_r _, k h1 (J.le (by omega)) f⟩)
  · exact r_standard ws.wf k
