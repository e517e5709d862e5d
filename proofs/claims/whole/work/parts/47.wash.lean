/-! STEPS: wash, bend, shrink -/
theorem pKeep_o {a : aA} {j : Int} (w : Wf a) (h3 : j ≠ 3) (h : ¬ (166 ≤ j ∧ j < 1396)) : pKeep a j = a j := by
  have e := pSt_o (z := 0) w h3 h
  unfold pSt at e
  rw [if_pos rfl] at e
  exact e
theorem aset_c {a : aA} {i j v u : Int} (h : i ≠ j) : aset (aset a i v) j u = aset (aset a j u) i v := by
  funext q
  unfold aset
  by_cases x : q = i
  · rw [if_pos x, if_neg (by omega), if_pos x]
  · rw [if_neg x, if_neg x]
def okWa (a : aA) (p kd t : Int) : Prop := (0 ≤ p ∧ p < a 0) ∧ (0 ≤ kd ∧ kd ≤ 2) ∧ 1 ≤ t ∧ t ≤ a (12 + 9 * p + (2 + 3)) ∧ t ≤ a (12 + 9 * p + (2 + kd))
def pWa (s : aA) (p kd t : Int) : aA := pPut (pPut s p (2 + 3) (cutI 0 999 (s (12 + 9 * p + (2 + 3)) + -t))) p (2 + kd) (cutI 0 999 (s (12 + 9 * p + (2 + kd)) + -t))
def pWash (z : Int) (a : aA) (p kd t : Int) : aA := if (0 ≤ p ∧ p < a 0) ∧ (0 ≤ kd ∧ kd ≤ 2) ∧ 1 ≤ t ∧ t ≤ a (12 + 9 * p + (2 + 3)) ∧ t ≤ a (12 + 9 * p + (2 + kd)) then pWa (pSt z a) p kd t else a
def zWash (a : aA) (p kd t : Int) : Int := if (0 ≤ p ∧ p < a 0) ∧ (0 ≤ kd ∧ kd ≤ 2) ∧ 1 ≤ t ∧ t ≤ a (12 + 9 * p + (2 + 3)) ∧ t ≤ a (12 + 9 * p + (2 + kd)) then a (12 + 9 * p + (2 + kd)) - t else -1
theorem cut_in {v : Int} (h : 0 ≤ v ∧ v ≤ 999) : cutI 0 999 v = v := by unfold cutI; rw [if_neg (by omega), if_neg (by omega)]
section WA
variable {d : Nat} {h : Hp} {Q : aPO} {a : aA} {n m z : Int}
theorem c_washes {p kd t : Int} (ht : t < 2147483648) (I : CG h 2 a n) (hn : n ≤ 30000) (hz : h 1 3 = z) (h01 : z = 0 ∨ z = 1) (hm : 0 ≤ m) (pk : z = 1 → PK a m) (k : ∀ h1, CG h1 2 (pWash z a p kd t) n → (z = 1 → PK (pWash z a p kd t) m) → frC h h1 → Q (vI (zWash a p kd t)) h1) : Runs (d + 3) 50 0 [vA 1, vI p, vI kd, vI t, none, none] [] h Q := by
  have q0 := I.num.1.2
  have w := I.wf hn
  unfold pWash zWash at k
  have F : ¬ ((0 ≤ p ∧ p < a 0) ∧ (0 ≤ kd ∧ kd ≤ 2) ∧ 1 ≤ t ∧ t ≤ a (12 + 9 * p + (2 + 3)) ∧ t ≤ a (12 + 9 * p + (2 + kd))) → Q (vI (-1)) h := fun c => by
    rw [if_neg c, if_neg c] at k
    exact k h I pk frC.rf
  refine Runs.go 80 [61] ?_
  refine c_has I ?_
  refine br.i (fun c => F (fun y => b2i_z c y.1)) (fun c1 => ?_)
  refine sp_isForb ?_
  refine br.i (fun c => F (fun y => b2i_z c y.2.1)) (fun c2 => ?_)
  refine br.j (fun c => F (fun y => c y.2.2.1)) (fun c3 => ?_)
  have k1 := b2i_nz c1
  have k2 := b2i_nz c2
  have p6 : 0 ≤ p ∧ p < 6 := by omega
  have d4 : 0 ≤ kd ∧ kd < 4 := by omega
  refine c_amount I p6 d4 ?_
  refine c_amount I p6 (j := 3) (by decide) ?_
  refine br.i (fun c => F (fun y => by omega)) (fun c4 => ?_)
  refine br.j (fun c => F (fun y => by omega)) (fun c5 => ?_)
  have ok : (0 ≤ p ∧ p < a 0) ∧ (0 ≤ kd ∧ kd ≤ 2) ∧ 1 ≤ t ∧ t ≤ a (12 + 9 * p + (2 + 3)) ∧ t ≤ a (12 + 9 * p + (2 + kd)) := ⟨k1, k2, c3, c5, by omega⟩
  rw [if_pos ok, if_pos ok] at k
  have r1 := w.drop p6 d4
  have r2 := w.drop p6 (k := 3) (by decide)
  have s1 : pSt z a (12 + 9 * p + (2 + kd)) = a (12 + 9 * p + (2 + kd)) := pSt_o w (by omega) (by omega)
  have s2 : pSt z a (12 + 9 * p + (2 + 3)) = a (12 + 9 * p + (2 + 3)) := pSt_o w (by omega) (by omega)
  have G : ∀ u v : Int, u = a (12 + 9 * p + (2 + kd)) → v = a (12 + 9 * p + (2 + 3)) → Runs (d + 3) 50 61 [vA 1, vI p, vI kd, vI t, vI u, vI v] [] h Q := by
    intro u v eu ev
    refine Runs.go 40 [] ?_
    refine c_step I hz h01 hm pk (fun h1 I1 P1 f1 => ?_)
    refine ⟨by omega, ?_⟩
    refine c_setAmount I1 P1 p6 d4 (fun h2 I2 P2 f2 => ?_)
    refine ⟨by omega, ?_⟩
    refine c_setAmount I2 P2 p6 (kd := 3) (by decide) (fun h3 I3 P3 f3 => ?_)
    have E : pPut (pPut (pSt z a) p (2 + kd) (cutI 0 999 (u - t))) p (2 + 3) (cutI 0 999 (v - t)) = pWa (pSt z a) p kd t := by
      unfold pWa pPut
      rw [aset_c (by omega), s1, s2, eu, ev]
      rfl
    rw [E] at I3 P3
    refine ⟨by omega, ?_⟩
    exact QI (k h3 I3 (fun _ => P3) (fun o x y => ((f3 o (by omega)).trans (f2 o (by omega))).trans (f1 o (by omega) (by omega)))) (by rw [eu])
  exact G _ _ rfl rfl
theorem r_canWash {p kd t : Int} (w : Wf (h 85)) (k : Q (vI (b2i ((0 ≤ p ∧ p < h 85 0) ∧ (0 ≤ kd ∧ kd ≤ 2) ∧ 1 ≤ t ∧ t ≤ h 85 (12 + 9 * p + (2 + 3)) ∧ t ≤ h 85 (12 + 9 * p + (2 + kd))))) h) : Runs (d + 2) 243 0 [vA 84, vI p, vI kd, vI t] [] h Q := by
  have q0 := w.p0
  have F : ¬ ((0 ≤ p ∧ p < h 85 0) ∧ (0 ≤ kd ∧ kd ≤ 2) ∧ 1 ≤ t ∧ t ≤ h 85 (12 + 9 * p + (2 + 3)) ∧ t ≤ h 85 (12 + 9 * p + (2 + kd))) → Q (vI 0) h := fun yy => by
    rw [b2i_f yy] at k
    exact k
  refine Runs.go 60 [] ?_
  refine r_isOne w ?_
  refine br.i (fun x1 => ⟨by omega, F (fun y => b2i_z x1 y.1)⟩) (fun x1 => ?_)
  refine r_isKind ?_
  refine br.i (fun x2 => ⟨by omega, F (fun y => b2i_z x2 y.2.1)⟩) (fun x2 => ?_)
  refine br.i (fun x3 => ⟨by omega, F (fun y => by omega)⟩) (fun x3 => ?_)
  have k1 := b2i_nz x1
  have k2 := b2i_nz x2
  have p6 : 0 ≤ p ∧ p < 6 := by omega
  refine r_get p6 (by omega) ?_
  have D : h 85 (12 + 9 * p + 5) = h 85 (12 + 9 * p + (2 + 3)) := rfl
  refine br.i (fun x4 => ⟨by omega, F (fun y => by omega)⟩) (fun x4 => ?_)
  refine ⟨by omega, ?_⟩
  refine r_get p6 (by omega) ?_
  refine br.i (fun x5 => ⟨by omega, F (fun y => by omega)⟩) (fun x5 => ?_)
  rw [b2i_t ⟨k1, k2, by omega, by omega, by omega⟩] at k
  exact ⟨by omega, k⟩
theorem r_washNow {p kd t : Int} (w : Wf (h 85)) (hp : 0 ≤ p ∧ p < 6) (hk : 0 ≤ kd ∧ kd ≤ 2) (ht : 1 ≤ t ∧ t ≤ 999) (w1 : Wf (pPut (h 85) p (2 + 3) (cutI 0 999 (h 85 (12 + 9 * p + (2 + 3)) + -t)))) (k : ∀ h1, h1 85 = pWa (h 85) p kd t → (∀ o, o ≠ 85 → h1 o = h o) → Q none h1) : Runs (d + 2) 244 0 [vA 84, vI p, vI kd, vI t] [] h Q := by
  refine Runs.go 60 [] ?_
  refine ⟨by omega, ?_⟩
  refine r_more w hp (kd := 3) (by decide) (by omega) ?_
  refine ⟨by omega, ?_⟩
  have e := hup_s (h := h) (o := 85) (i := 12 + 9 * p + (2 + 3)) (v := cutI 0 999 (h 85 (12 + 9 * p + (2 + 3)) + -t))
  refine r_more (by rw [e]; exact w1) hp (by omega) (by omega) ?_
  refine k _ ?_ (fun o x => by rw [hup_o x, hup_o x])
  rw [hup_s, e, aset_ne (show 12 + 9 * p + (2 + kd) ≠ 12 + 9 * p + (2 + 3) by omega)]
  rfl
theorem r_wash {p kd t : Int} (ws : Ws (h 85)) (k : ∀ h1, h1 85 = pWash 0 (h 85) p kd t → frR h h1 → Q (vI (zWash (h 85) p kd t)) h1) : Runs (d + 3) 245 0 [vA 84, vI p, vI kd, vI t] [] h Q := by
  have w := ws.wf
  have q0 := w.p0
  unfold pWash zWash at k
  refine Runs.go 60 [] ?_
  refine r_canWash w ?_
  refine br.j (fun c => ?_) (fun c => ?_)
  · have K := k h
    rw [if_neg (b2i_z (Decidable.not_not.mp c)), if_neg (b2i_z (Decidable.not_not.mp c))] at K
    exact K rfl frR.rf
  have ok := b2i_nz c
  have p6 : 0 ≤ p ∧ p < 6 := by omega
  have r1 := w.drop p6 (k := kd) (by omega)
  have r2 := w.drop p6 (k := 3) (by decide)
  refine r_keep w (fun h1 e1 f1 => ?_)
  have w1 := ws.keep
  have s1 : pSt 0 (h 85) (12 + 9 * p + (2 + kd)) = h 85 (12 + 9 * p + (2 + kd)) := pSt_o w (by omega) (by omega)
  refine r_washNow (by rw [e1]; exact w1.wf) p6 ok.2.1 (by omega) (by rw [e1]; exact (w1.amt p6 (k := 3) (by decide) (cutI_r (by decide))).wf) (fun h2 e2 f2 => ?_)
  refine ⟨by omega, ?_⟩
  refine r_get p6 (by omega) ?_
  have K := k h2
  rw [if_pos ok, if_pos ok] at K
  refine QI (K (by rw [e2, e1]; rfl) (fun o x y => (f2 o x).trans (f1 o x))) ?_
  rw [e2, e1]
  unfold pWa pPut
  rw [aset_eq]
  rw [pKeep_o w (by omega) (by omega)]
  rw [cut_in (by omega)]
  omega
def pBend (z : Int) (a : aA) (p : Int) : aA := if (0 ≤ p ∧ p < a 0) ∧ a (12 + 9 * p + 0) < 9 then pPut (pSt z a) p 0 (pSt z a (12 + 9 * p + 0) + 1) else a
def zBend (z : Int) (a : aA) (p : Int) : Int := if (0 ≤ p ∧ p < a 0) ∧ a (12 + 9 * p + 0) < 9 then pRoom (pPut (pSt z a) p 0 (pSt z a (12 + 9 * p + 0) + 1)) p else -1
theorem c_bends {p : Int} (I : CG h 2 a n) (hn : n ≤ 30000) (hz : h 1 3 = z) (h01 : z = 0 ∨ z = 1) (hm : 0 ≤ m) (pk : z = 1 → PK a m) (k : ∀ h1, CG h1 2 (pBend z a p) n → (z = 1 → PK (pBend z a p) m) → frC h h1 → Q (vI (zBend z a p)) h1) : Runs (d + 3) 52 0 [vA 1, vI p] [] h Q := by
  have q0 := I.num.1.2
  have w := I.wf hn
  unfold pBend zBend at k
  have F : ¬ ((0 ≤ p ∧ p < a 0) ∧ a (12 + 9 * p + 0) < 9) → Q (vI (-1)) h := fun c => by
    rw [if_neg c, if_neg c] at k
    exact k h I pk frC.rf
  refine Runs.go 60 [] ?_
  refine c_has I ?_
  refine br.i (fun c => F (fun y => b2i_z c y.1)) (fun c1 => ?_)
  have k1 := b2i_nz c1
  have p6 : 0 ≤ p ∧ p < 6 := by omega
  have e4 : h 4 p = a (12 + 9 * p + 0) := (I.per p p6.1 p6.2).2.1.1
  have r1 := w.dent p6
  refine ⟨⟨p6.1, show p < (6 : Int) by omega⟩, ?_⟩
  refine br.j (fun c => F (fun y => ?_)) (fun c2 => ?_)
  · have c' : ¬ h 4 p < 9 := c
    omega
  have c' : h 4 p < 9 := c2
  have ok : (0 ≤ p ∧ p < a 0) ∧ a (12 + 9 * p + 0) < 9 := ⟨k1, by omega⟩
  rw [if_pos ok, if_pos ok] at k
  have s1 : pSt z a (12 + 9 * p + 0) = a (12 + 9 * p + 0) := pSt_o w (by omega) (by omega)
  refine c_step I hz h01 hm pk (fun h1 I1 P1 f1 => ?_)
  have e5 : h1 4 p = pSt z a (12 + 9 * p + 0) := (I1.per p p6.1 p6.2).2.1.1
  refine ⟨⟨p6.1, show p < (6 : Int) by omega⟩, ⟨show -2147483648 ≤ h1 4 p + 1 ∧ h1 4 p + 1 < 2147483648 by omega, ⟨⟨p6.1, show p < (6 : Int) by omega⟩, ?_⟩⟩⟩
  have J := I1.dnt (v := h1 4 p + 1) P1 p6 (by omega)
  rw [e5] at J
  have e6 : hup h1 4 p (h1 4 p + 1) = hup h1 4 p (pSt z a (12 + 9 * p + 0) + 1) := by rw [e5]
  refine c_room (h := hup h1 4 p (h1 4 p + 1)) (a := pPut (pSt z a) p 0 (pSt z a (12 + 9 * p + 0) + 1)) (by rw [e6]; exact J.1) p6 ?_
  rw [e6]
  exact k _ J.1 (fun _ => J.2) (fun o x y => by rw [hup_o (by omega)]; exact f1 o (by omega) (by omega))
theorem r_canBend {p : Int} (w : Wf (h 85)) (k : Q (vI (b2i ((0 ≤ p ∧ p < h 85 0) ∧ h 85 (12 + 9 * p + 0) < 9))) h) : Runs (d + 2) 248 0 [vA 84, vI p] [] h Q := by
  have q0 := w.p0
  refine Runs.go 60 [] ?_
  refine r_isOne w ?_
  refine br.i (fun c => ⟨by omega, QI k (b2i_f (fun y => b2i_z c y.1)).symm⟩) (fun c1 => ?_)
  have k1 := b2i_nz c1
  refine r_get (by omega) (by omega) ?_
  refine br.i (fun c => ⟨by omega, QI k (b2i_f (fun y => by omega)).symm⟩) (fun c2 => ⟨by omega, QI k (b2i_t ⟨k1, by omega⟩).symm⟩)
theorem r_bend {p : Int} (ws : Ws (h 85)) (k : ∀ h1, h1 85 = pBend 0 (h 85) p → frR h h1 → Q (vI (zBend 0 (h 85) p)) h1) : Runs (d + 3) 249 0 [vA 84, vI p] [] h Q := by
  have w := ws.wf
  have q0 := w.p0
  unfold pBend zBend at k
  refine Runs.go 60 [] ?_
  refine r_canBend w ?_
  refine br.j (fun c => ?_) (fun c => ?_)
  · have K := k h
    rw [if_neg (b2i_z (Decidable.not_not.mp c)), if_neg (b2i_z (Decidable.not_not.mp c))] at K
    exact K rfl frR.rf
  have ok := b2i_nz c
  have p6 : 0 ≤ p ∧ p < 6 := by omega
  have r1 := w.dent p6
  have s1 : pKeep (h 85) (12 + 9 * p + 0) = h 85 (12 + 9 * p + 0) := pKeep_o w (by omega) (by omega)
  refine r_keep w (fun h1 e1 f1 => ?_)
  have w1 := ws.keep
  refine r_get p6 (by omega) ?_
  have b : 0 ≤ h1 85 (12 + 9 * p + 0) + 1 ∧ h1 85 (12 + 9 * p + 0) + 1 ≤ 9 := by rw [e1, s1]; omega
  refine ⟨by omega, ?_⟩
  refine r_put p6 (by omega) ?_
  have e := hup_s (h := h1) (o := 85) (i := 12 + 9 * p + 0) (v := h1 85 (12 + 9 * p + 0) + 1)
  have w2 : Wf (hup h1 85 (12 + 9 * p + 0) (h1 85 (12 + 9 * p + 0) + 1) 85) := by
    rw [e]
    rw [e1] at b
    rw [e1]
    exact (w1.dnt p6 b).wf
  refine r_roomOf w2 p6 ?_
  have K := k (hup h1 85 (12 + 9 * p + 0) (h1 85 (12 + 9 * p + 0) + 1))
  rw [if_pos ok, if_pos ok] at K
  have E : hup h1 85 (12 + 9 * p + 0) (h1 85 (12 + 9 * p + 0) + 1) 85 = pPut (pSt 0 (h 85)) p 0 (pSt 0 (h 85) (12 + 9 * p + 0) + 1) := by rw [e, e1]; rfl
  rw [E]
  exact K E (fun o x y => by rw [hup_o x]; exact f1 o x)
def pShr (a : aA) (v : Int) : aA := if 1 ≤ v ∧ v < a 9 then aset (pSt 0 a) 9 (a 9 - v) else a
def zShr (a : aA) (v : Int) : Int := if 1 ≤ v ∧ v < a 9 then a 9 - v else -1
theorem CG.std {v : Int} (I : CG h 2 a n) (hv : 1 ≤ v ∧ v ≤ 99) : CG (hup h 2 1 v) 2 (aset a 9 v) n := by
  have N := I.num
  refine (I.setNum (m := 0) (fun o _ _ e => hup_o e) (fun j e => aset_ne (by omega)) (hup_nj (by decide)) ?_).1
  have g : ∀ j : Int, j ≠ 1 → hup h 2 1 v 2 j = h 2 j := fun j e => hup_nj e
  have b : ∀ j : Int, j ≠ 9 → aset a 9 v j = a j := fun j e => aset_ne e
  refine ⟨?_, ?_, ?_, ?_, ?_, ?_⟩
  · show hup h 2 1 v 2 0 = aset a 9 v 0 ∧ 0 ≤ aset a 9 v 0 ∧ aset a 9 v 0 ≤ 6
    rw [g 0 (by decide), b 0 (by decide)]; exact N.1
  · show hup h 2 1 v 2 1 = aset a 9 v 9 ∧ 1 ≤ aset a 9 v 9 ∧ aset a 9 v 9 ≤ 99
    rw [hup_eq, aset_eq]; exact ⟨rfl, hv⟩
  · show hup h 2 1 v 2 2 = aset a 9 v 8 ∧ 0 ≤ aset a 9 v 8 ∧ aset a 9 v 8 ≤ 9999
    rw [g 2 (by decide), b 8 (by decide)]; exact N.2.2.1
  · show hup h 2 1 v 2 3 = aset a 9 v 10 ∧ 0 ≤ aset a 9 v 10 ∧ aset a 9 v 10 ≤ 30492
    rw [g 3 (by decide), b 10 (by decide)]; exact N.2.2.2.1
  · show hup h 2 1 v 2 4 = aset a 9 v 1 ∧ 0 ≤ aset a 9 v 1 ∧ aset a 9 v 1 ≤ 4
    rw [g 4 (by decide), b 1 (by decide)]; exact N.2.2.2.2.1
  · show hup h 2 1 v 2 5 = aset a 9 v 2 ∧ -1 ≤ aset a 9 v 2 ∧ aset a 9 v 2 < aset a 9 v 1
    rw [g 5 (by decide), b 1 (by decide), b 2 (by decide)]; exact N.2.2.2.2.2
theorem c_shrinks {v : Int} (hv : v < 2147483648) (I : CG h 2 a n) (hn : n ≤ 30000) (hz : h 1 3 = 0) (k : ∀ h1, CG h1 2 (pShr a v) n → frC h h1 → Q (vI (zShr a v)) h1) : Runs (d + 3) 53 0 [vA 1, vI v] [] h Q := by
  have w := I.wf hn
  have r := w.p9
  have e1 : h 2 1 = a 9 := I.num.2.1.1
  unfold pShr zShr at k
  have F : ¬ (1 ≤ v ∧ v < a 9) → Q (vI (-1)) h := fun c => by
    rw [if_neg c, if_neg c] at k
    exact k h I frC.rf
  refine Runs.go 60 [] ?_
  refine br.i (fun c => F (by omega)) (fun c1 => ?_)
  refine br.j (fun c => F ?_) (fun c2 => ?_)
  · have c' : ¬ v < h 2 1 := c
    omega
  have c' : v < h 2 1 := c2
  have ok : 1 ≤ v ∧ v < a 9 := by omega
  rw [if_pos ok, if_pos ok] at k
  have s1 : pSt 0 a 9 = a 9 := pSt_o w (by omega) (by omega)
  refine c_step I hz (Or.inl rfl) (m := 0) (by decide) (fun e => by omega) (fun h1 I1 P1 f1 => ?_)
  have e5 : h1 2 1 = a 9 := I1.num.2.1.1.trans s1
  refine ⟨show -2147483648 ≤ h1 2 1 - v ∧ h1 2 1 - v < 2147483648 by omega, ?_⟩
  have J := I1.std (v := a 9 - v) (by omega)
  have E : hup h1 2 1 (h1 2 1 - v) = hup h1 2 1 (a 9 - v) := by rw [e5]
  have K := k _ J (fun o x y => by rw [hup_o (by omega)]; exact f1 o (by omega) (by omega))
  have G : ∀ g : Hp, g = hup h1 2 1 (a 9 - v) → Q (vI (g 2 1)) g := fun g e => by rw [e, hup_eq]; exact K
  exact G _ E
theorem r_shrink {v : Int} (hv : v < 2147483648) (ws : Ws (h 85)) (k : ∀ h1, h1 85 = pShr (h 85) v → frR h h1 → Q (vI (zShr (h 85) v)) h1) : Runs (d + 3) 250 0 [vA 84, vI v] [] h Q := by
  have w := ws.wf
  have r := w.p9
  unfold pShr zShr at k
  have F : ¬ (1 ≤ v ∧ v < h 85 9) → Q (vI (-1)) h := fun c => by
    have K := k h
    rw [if_neg c, if_neg c] at K
    exact K rfl frR.rf
  refine Runs.go 60 [] ?_
  refine br.i (fun c => F (by omega)) (fun c1 => ?_)
  refine ⟨by decide, ⟨show -2147483648 ≤ h 85 9 - v ∧ h 85 9 - v < 2147483648 by omega, ?_⟩⟩
  refine br.j (fun c => F ?_) (fun c2 => ?_)
  · have c' : ¬ 1 ≤ h 85 9 - v := c
    omega
  have c' : 1 ≤ h 85 9 - v := c2
  have ok : 1 ≤ v ∧ v < h 85 9 := by omega
  have s1 : pKeep (h 85) 9 = h 85 9 := pKeep_o w (by decide) (by decide)
  refine r_keep w (fun h1 e1 f1 => ?_)
  have e5 : h1 85 9 = h 85 9 := by rw [e1, s1]
  refine ⟨by decide, ⟨show -2147483648 ≤ h1 85 9 - v ∧ h1 85 9 - v < 2147483648 by omega, ⟨by decide, ⟨by decide, ?_⟩⟩⟩⟩
  have K := k (hup h1 85 9 (h1 85 9 - v))
  rw [if_pos ok, if_pos ok] at K
  refine QI (K (by rw [hup_s, e5, e1]; rfl) (fun o x y => by rw [hup_o x]; exact f1 o x)) ?_
  show hup h1 85 9 (h1 85 9 - v) 85 9 = _
  rw [hup_eq, e5]
end WA
theorem o_wash : op_wash Inv := by
  intro x hx
  refine opM (fun a _ => zWash a (x 1) (x 2) (x 3)) (fun a _ => pWash 0 a (x 1) (x 2) (x 3)) (fun h L n Q I hn c0 t k => ?_) (fun h L Q ws t k => ?_) (fun a L w => ?_)
  · refine Runs.go 30 [] ?_
    exact c_washes (hx 3).2 I hn c0 (Or.inl rfl) (m := 0) (by decide) (fun e => by omega) (fun h1 J _ f => k h1 (J.le (by omega)) f)
  · have w := ws.wf
    exact r_wash ws k
  · show pWash 0 a (x 1) (x 2) (x 3) 1 = a 1
    unfold pWash
    split
    · rename_i c
      unfold pWa
      rw [pPut_1 c.1.1 (by omega), pPut_1 c.1.1 (by omega), pSt_o w (by decide) (by omega)]
    · rfl
theorem o_bend : op_bend Inv := by
  intro x hx
  refine opM (fun a _ => zBend 0 a (x 1)) (fun a _ => pBend 0 a (x 1)) (fun h L n Q I hn c0 t k => ?_) (fun h L Q ws t k => ?_) (fun a L w => ?_)
  · refine Runs.go 30 [] ?_
    exact c_bends I hn c0 (Or.inl rfl) (m := 0) (by decide) (fun e => by omega) (fun h1 J _ f => k h1 (J.le (by omega)) f)
  · have w := ws.wf
    exact r_bend ws k
  · show pBend 0 a (x 1) 1 = a 1
    unfold pBend
    split
    · rename_i c
      rw [pPut_1 c.1.1 (by omega), pSt_o w (by decide) (by omega)]
    · rfl
theorem o_shrink : op_shrink Inv := by
  intro x hx
  refine opM (fun a _ => zShr a (x 1)) (fun a _ => pShr a (x 1)) (fun h L n Q I hn c0 t k => ?_) (fun h L Q ws t k => ?_) (fun a L w => ?_)
  · refine Runs.go 30 [] ?_
    exact c_shrinks (hx 1).2 I hn c0 (fun h1 J f => k h1 (J.le (by omega)) f)
  · have w := ws.wf
    exact r_shrink (hx 1).2 ws k
  · show pShr a (x 1) 1 = a 1
    unfold pShr
    split
    · rw [aset_ne (by decide), pSt_o w (by decide) (by omega)]
    · rfl
