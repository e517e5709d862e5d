/-! STEPS: deed, weep, wash, bend, shrink -/
def Wp (a : aA) (m : Int) : Prop := ∃ g n, CG g 2 a n ∧ n ≤ 30000 ∧ PK a m
section WPS
variable {a : aA} {m : Int}
theorem Wp.ws (w : Wp a m) : Ws a := by obtain ⟨g, n, I, hn, p⟩ := w; exact ⟨g, n, I, hn⟩
theorem Wp.wf (w : Wp a m) : Wf a := w.ws.wf
theorem Ws.keep (w : Ws a) : Wp (pKeep a) 0 := by
  obtain ⟨g, n, I, hn⟩ := w
  have s1 : g 23 2 = a 3 ∧ 0 ≤ a 3 ∧ a 3 ≤ 30 := I.steps.1
  have P : ∀ (g : Hp) (b : aA), CG g 2 b n → b 3 ≤ 29 → Wp (pRow b) 0 := by
    intro g b I hb
    have J := I.push hb (h1 := kpH g ((g 23 1 + g 23 2) % 30 * 71)) (fun o x y => kpH_o x y) (by rw [kpH_3, aset_ne (by decide)]) (by rw [kpH_3, aset_eq]) rfl (fun j x y => kpH_i x y) (fun j x => kpH_x x)
    exact ⟨_, n, J.1, hn, J.2⟩
  unfold pKeep pShift
  by_cases c : a 3 = 30
  · rw [if_pos c]
    refine P (hup (hup g 23 1 ((g 23 1 + 1) % 30)) 23 2 29) _ (I.shift c rfl (fun o x => by rw [hup_o x, hup_o x]) (by rw [hup_nj (by decide), hup_eq]) hup_eq) ?_
    show (29 : Int) ≤ 29
    decide
  · rw [if_neg c]
    exact P g a I (by omega)
theorem Wp.amt {p k v : Int} (w : Wp a m) (hp : 0 ≤ p ∧ p < 6) (hk : 0 ≤ k ∧ k < 4) (hv : 0 ≤ v ∧ v ≤ 999) : Wp (pPut a p (2 + k) v) m := by
  obtain ⟨g, n, I, hn, q⟩ := w
  have J := I.amt q hp hk hv
  exact ⟨_, n, J.1, hn, J.2⟩
theorem Wp.dnt {p v : Int} (w : Wp a m) (hp : 0 ≤ p ∧ p < 6) (hv : 0 ≤ v ∧ v ≤ 9) : Wp (pPut a p 0 v) m := by
  obtain ⟨g, n, I, hn, q⟩ := w
  have J := I.dnt q hp hv
  exact ⟨_, n, J.1, hn, J.2⟩
theorem Wp.coi {p v : Int} (w : Wp a m) (hp : 0 ≤ p ∧ p < 6) (hv : 0 ≤ v ∧ v ≤ 9999) : Wp (pPut a p 1 v) m := by
  obtain ⟨g, n, I, hn, q⟩ := w
  have J := I.coi q hp hv
  exact ⟨_, n, J.1, hn, J.2⟩
theorem pSt_o {z j : Int} (w : Wf a) (h3 : j ≠ 3) (h : ¬ (166 ≤ j ∧ j < 1396)) : pSt z a j = a j := by
  have q := w.p3
  unfold pSt
  split
  · unfold pKeep
    have e : 0 ≤ pShift a 3 ∧ pShift a 3 ≤ 29 := by
      unfold pShift
      split
      · show 0 ≤ (29 : Int) ∧ (29 : Int) ≤ 29
        decide
      · omega
    rw [pRow_o h3 h e, pShift_o h3 h]
  · rfl
end WPS
def okDe (a : aA) (p kd v : Int) : Prop := (0 ≤ p ∧ p < a 0) ∧ (0 ≤ kd ∧ kd ≤ 2) ∧ 1 ≤ v ∧ v ≤ 99
def pAdd (a : aA) (p kd v : Int) : aA := pPut a p (2 + kd) (cutI 0 999 (a (12 + 9 * p + (2 + kd)) + v))
theorem pAdd_v {a : aA} {p kd v : Int} : pAdd a p kd v (12 + 9 * p + (2 + kd)) = cutI 0 999 (a (12 + 9 * p + (2 + kd)) + v) := aset_eq
def pDeed (z : Int) (a : aA) (p kd v : Int) : aA := if (0 ≤ p ∧ p < a 0) ∧ (0 ≤ kd ∧ kd ≤ 2) ∧ 1 ≤ v ∧ v ≤ 99 then pAdd (pSt z a) p kd v else a
def zDeed (z : Int) (a : aA) (p kd v : Int) : Int := if (0 ≤ p ∧ p < a 0) ∧ (0 ≤ kd ∧ kd ≤ 2) ∧ 1 ≤ v ∧ v ≤ 99 then pAdd (pSt z a) p kd v (12 + 9 * p + (2 + kd)) else -1
def pWeep (z : Int) (a : aA) (p v : Int) : aA := if (0 ≤ p ∧ p < a 0) ∧ 1 ≤ v ∧ v ≤ 99 then pAdd (pSt z a) p 3 v else a
def zWeep (z : Int) (a : aA) (p v : Int) : Int := if (0 ≤ p ∧ p < a 0) ∧ 1 ≤ v ∧ v ≤ 99 then pAdd (pSt z a) p 3 v (12 + 9 * p + (2 + 3)) else -1
section DE
variable {d : Nat} {h : Hp} {Q : aPO} {a : aA} {n m z : Int}
theorem c_does {p kd v : Int} (I : CG h 2 a n) (hn : n ≤ 30000) (hz : h 1 3 = z) (h01 : z = 0 ∨ z = 1) (hm : 0 ≤ m) (pk : z = 1 → PK a m) (k : ∀ h1, CG h1 2 (pDeed z a p kd v) n → (z = 1 → PK (pDeed z a p kd v) m) → frC h h1 → Q (vI (zDeed z a p kd v)) h1) : Runs (d + 3) 48 0 [vA 1, vI p, vI kd, vI v] [] h Q := by
  have q0 := I.num.1.2
  unfold pDeed zDeed at k
  have F : ¬ ((0 ≤ p ∧ p < a 0) ∧ (0 ≤ kd ∧ kd ≤ 2) ∧ 1 ≤ v ∧ v ≤ 99) → Q (vI (-1)) h := fun c => by
    rw [if_neg c, if_neg c] at k
    exact k h I pk frC.rf
  refine Runs.go 60 [] ?_
  refine c_has I ?_
  refine br.i (fun c => F (fun y => b2i_z c y.1)) (fun c1 => ?_)
  refine sp_isForb ?_
  refine br.i (fun c => F (fun y => b2i_z c y.2.1)) (fun c2 => ?_)
  refine sp_between ?_
  refine br.j (fun c => F (fun y => b2i_z (Decidable.not_not.mp c) y.2.2)) (fun c3 => ?_)
  have k1 := b2i_nz c1
  have k2 := b2i_nz c2
  have k3 := b2i_nz c3
  have ok : (0 ≤ p ∧ p < a 0) ∧ (0 ≤ kd ∧ kd ≤ 2) ∧ 1 ≤ v ∧ v ≤ 99 := ⟨k1, k2, k3⟩
  rw [if_pos ok, if_pos ok] at k
  have p6 : 0 ≤ p ∧ p < 6 := by omega
  have d4 : 0 ≤ kd ∧ kd < 4 := by omega
  refine c_step I hz h01 hm pk (fun h1 I1 P1 f1 => ?_)
  refine c_amount I1 p6 d4 ?_
  have r := (I1.wf hn).drop p6 d4
  refine ⟨by omega, ?_⟩
  refine c_setAmount I1 P1 p6 d4 (fun h2 I2 P2 f2 => ?_)
  refine c_amount I2 p6 d4 ?_
  exact k h2 I2 (fun _ => P2) (fun o x y => (f2 o (by omega)).trans (f1 o (by omega) (by omega)))
theorem c_weeps {p v : Int} (I : CG h 2 a n) (hn : n ≤ 30000) (hz : h 1 3 = z) (h01 : z = 0 ∨ z = 1) (hm : 0 ≤ m) (pk : z = 1 → PK a m) (k : ∀ h1, CG h1 2 (pWeep z a p v) n → (z = 1 → PK (pWeep z a p v) m) → frC h h1 → Q (vI (zWeep z a p v)) h1) : Runs (d + 3) 49 0 [vA 1, vI p, vI v] [] h Q := by
  have q0 := I.num.1.2
  unfold pWeep zWeep at k
  have F : ¬ ((0 ≤ p ∧ p < a 0) ∧ 1 ≤ v ∧ v ≤ 99) → Q (vI (-1)) h := fun c => by
    rw [if_neg c, if_neg c] at k
    exact k h I pk frC.rf
  refine Runs.go 60 [] ?_
  refine c_has I ?_
  refine br.i (fun c => F (fun y => b2i_z c y.1)) (fun c1 => ?_)
  refine sp_between ?_
  refine br.j (fun c => F (fun y => b2i_z (Decidable.not_not.mp c) y.2)) (fun c3 => ?_)
  have k1 := b2i_nz c1
  have k3 := b2i_nz c3
  have ok : (0 ≤ p ∧ p < a 0) ∧ 1 ≤ v ∧ v ≤ 99 := ⟨k1, k3⟩
  rw [if_pos ok, if_pos ok] at k
  have p6 : 0 ≤ p ∧ p < 6 := by omega
  refine c_step I hz h01 hm pk (fun h1 I1 P1 f1 => ?_)
  refine c_amount I1 p6 (j := 3) (by decide) ?_
  have r := (I1.wf hn).drop p6 (k := 3) (by decide)
  refine ⟨by omega, ?_⟩
  refine c_setAmount I1 P1 p6 (kd := 3) (by decide) (fun h2 I2 P2 f2 => ?_)
  refine c_amount I2 p6 (j := 3) (by decide) ?_
  exact k h2 I2 (fun _ => P2) (fun o x y => (f2 o (by omega)).trans (f1 o (by omega) (by omega)))
theorem r_deed {p kd v : Int} (ws : Ws (h 85)) (k : ∀ h1, h1 85 = pDeed 0 (h 85) p kd v → frR h h1 → Q (vI (zDeed 0 (h 85) p kd v)) h1) : Runs (d + 3) 241 0 [vA 84, vI p, vI kd, vI v] [] h Q := by
  have w := ws.wf
  have q0 := w.p0
  unfold pDeed zDeed at k
  have F : ¬ ((0 ≤ p ∧ p < h 85 0) ∧ (0 ≤ kd ∧ kd ≤ 2) ∧ 1 ≤ v ∧ v ≤ 99) → Q (vI (-1)) h := fun c => by
    have K := k h
    rw [if_neg c, if_neg c] at K
    exact K rfl frR.rf
  refine Runs.go 60 [] ?_
  refine r_isOne w ?_
  refine br.i (fun c => F (fun y => b2i_z c y.1)) (fun c1 => ?_)
  refine r_isKind ?_
  refine br.i (fun c => F (fun y => b2i_z c y.2.1)) (fun c2 => ?_)
  refine r_isIn ?_
  refine br.j (fun c => F (fun y => b2i_z (Decidable.not_not.mp c) y.2.2)) (fun c3 => ?_)
  have k1 := b2i_nz c1
  have k2 := b2i_nz c2
  have k3 := b2i_nz c3
  have ok : (0 ≤ p ∧ p < h 85 0) ∧ (0 ≤ kd ∧ kd ≤ 2) ∧ 1 ≤ v ∧ v ≤ 99 := ⟨k1, k2, k3⟩
  have p6 : 0 ≤ p ∧ p < 6 := by omega
  have d4 : 0 ≤ kd ∧ kd < 4 := by omega
  refine r_keep w (fun h1 e1 f1 => ?_)
  have w1 : Wf (h1 85) := by rw [e1]; exact ws.keep.wf
  refine r_more w1 p6 d4 (by omega) ?_
  refine ⟨by omega, ?_⟩
  refine r_get p6 (by omega) ?_
  have K := k (hup h1 85 (12 + 9 * p + (2 + kd)) (cutI 0 999 (h1 85 (12 + 9 * p + (2 + kd)) + v)))
  rw [if_pos ok, if_pos ok, pAdd_v] at K
  refine QI (K ?_ (fun o x y => by rw [hup_o x]; exact f1 o x)) ?_
  · rw [hup_s, e1]; rfl
  · rw [hup_eq, e1]; rfl
theorem r_weep {p v : Int} (ws : Ws (h 85)) (k : ∀ h1, h1 85 = pWeep 0 (h 85) p v → frR h h1 → Q (vI (zWeep 0 (h 85) p v)) h1) : Runs (d + 3) 242 0 [vA 84, vI p, vI v] [] h Q := by
  have w := ws.wf
  have q0 := w.p0
  unfold pWeep zWeep at k
  have F : ¬ ((0 ≤ p ∧ p < h 85 0) ∧ 1 ≤ v ∧ v ≤ 99) → Q (vI (-1)) h := fun c => by
    have K := k h
    rw [if_neg c, if_neg c] at K
    exact K rfl frR.rf
  refine Runs.go 60 [] ?_
  refine r_isOne w ?_
  refine br.i (fun c => F (fun y => b2i_z c y.1)) (fun c1 => ?_)
  refine r_isIn ?_
  refine br.j (fun c => F (fun y => b2i_z (Decidable.not_not.mp c) y.2)) (fun c3 => ?_)
  have k1 := b2i_nz c1
  have k3 := b2i_nz c3
  have ok : (0 ≤ p ∧ p < h 85 0) ∧ 1 ≤ v ∧ v ≤ 99 := ⟨k1, k3⟩
  have p6 : 0 ≤ p ∧ p < 6 := by omega
  refine r_keep w (fun h1 e1 f1 => ?_)
  have w1 : Wf (h1 85) := by rw [e1]; exact ws.keep.wf
  refine r_more w1 p6 (kd := 3) (by decide) (by omega) ?_
  refine r_get p6 (by omega) ?_
  have K := k (hup h1 85 (12 + 9 * p + (2 + 3)) (cutI 0 999 (h1 85 (12 + 9 * p + (2 + 3)) + v)))
  rw [if_pos ok, if_pos ok, pAdd_v] at K
  refine QI (K ?_ (fun o x y => by rw [hup_o x]; exact f1 o x)) ?_
  · rw [hup_s, e1]; rfl
  · show hup h1 85 (12 + 9 * p + (2 + 3)) (cutI 0 999 (h1 85 (12 + 9 * p + (2 + 3)) + v)) 85 (12 + 9 * p + (2 + 3)) = _
    rw [hup_eq, e1]; rfl
end DE
/-- like opM, and how many fines are written -/
theorem opM2 {mc mr : Nat} {av : List AV} (z : aA → aL → Int) (f : aA → aL → aA)
    (hc : ∀ h L n (Q : aPO), CG h 2 (h 85) n → n ≤ 29000 → h 1 3 = 0 → cTx h L (h 85 1) → (∀ h1, CG h1 2 (f (h 85) L) (n + 40) → frC h h1 → Q (vI (z (h 85) L)) h1) → Runs 150 mc 0 (pad (ents (vA 0 :: av)) (mLo mc)) [] h Q)
    (hr : ∀ h L (Q : aPO), Ws (h 85) → h 85 11 ≤ 29000 → cTx h L (h 85 1) → (∀ h1, h1 85 = f (h 85) L → frR h h1 → Q (vI (z (h 85) L)) h1) → Runs 150 mr 0 (pad (ents (vA 84 :: av)) (mLo mr)) [] h Q)
    (h1 : ∀ a L, Wf a → f a L 1 = a 1) : OpI Inv mc mr av := by
  intro n hn h I ok
  have ws := I.ws hn
  have w := ws.wf
  obtain ⟨i1, i2, i3, i4, i5, L, iL⟩ := I
  refine hc h L (40 * n) _ i1 (by omega) i4 iL (fun g1 j1 s => ⟨_, rfl, ?_⟩)
  have e85 : g1 85 = h 85 := s 85 (by omega) (by unfold scr; omega)
  have iL1 : cTx g1 L (g1 85 1) := by rw [e85]; exact iL.frC s
  have ib := i1.book.1.2.2
  refine hr g1 L _ (by rw [e85]; exact ws) (by rw [e85]; omega) iL1 (fun g2 e s2 => ⟨by rw [e85], ?_⟩)
  have S : ∀ o, ¬ (2 ≤ o ∧ o ≤ 24) → o ≠ 85 → ¬ scr o → g2 o = h o := fun o p q r => (s2 o q r).trans (s o p r)
  have T : ∀ o, 2 ≤ o → o ≤ 24 → g2 o = g1 o := fun o p q => s2 o (by omega) (by unfold scr; omega)
  rw [e85] at e
  have e6 : g2 86 = h 86 := S 86 (by omega) (by omega) (by unfold scr; omega)
  refine ⟨?_, ?_, i3.fr (S _ (by omega) (by omega) (by unfold scr; omega)) (S _ (by omega) (by omega) (by unfold scr; omega)) (S _ (by omega) (by omega) (by unfold scr; omega)) (S _ (by omega) (by omega) (by unfold scr; omega)), ?_, ?_, L, ?_⟩
  · rw [e]; exact (j1.fr (fun o p q => T o p (by omega))).le (by omega)
  · rw [e6]; exact (i2.fr (fun o p q => S o (by omega) (by omega) (by unfold scr; omega))).le (by omega)
  · rw [S 1 (by omega) (by omega) (by unfold scr; omega)]; exact i4
  · rw [e, e6, h1 _ _ w]; exact i5
  · rw [e, h1 _ _ w]; exact iL.fr (fun o _ _ => S o (by omega) (by omega) (by unfold scr; omega)) (S 87 (by omega) (by omega) (by unfold scr; omega))
theorem pPut_1 {a : aA} {p w v : Int} (hp : 0 ≤ p) (hw : 0 ≤ w) : pPut a p w v 1 = a 1 := aset_ne (by omega)
theorem o_deed : op_deed Inv := by
  intro x hx
  refine opM (fun a _ => zDeed 0 a (x 1) (x 2) (x 3)) (fun a _ => pDeed 0 a (x 1) (x 2) (x 3)) (fun h L n Q I hn c0 t k => ?_) (fun h L Q ws t k => ?_) (fun a L w => ?_)
  · refine Runs.go 30 [] ?_
    exact c_does I hn c0 (Or.inl rfl) (m := 0) (by decide) (fun e => by omega) (fun h1 J _ f => k h1 (J.le (by omega)) f)
  · have w := ws.wf
    exact r_deed ws k
  · show pDeed 0 a (x 1) (x 2) (x 3) 1 = a 1
    unfold pDeed
    split
    · rename_i c
      unfold pAdd
      rw [pPut_1 c.1.1 (by omega), pSt_o w (by decide) (by omega)]
    · rfl
theorem o_weep : op_weep Inv := by
  intro x hx
  refine opM (fun a _ => zWeep 0 a (x 1) (x 2)) (fun a _ => pWeep 0 a (x 1) (x 2)) (fun h L n Q I hn c0 t k => ?_) (fun h L Q ws t k => ?_) (fun a L w => ?_)
  · refine Runs.go 30 [] ?_
    exact c_weeps I hn c0 (Or.inl rfl) (m := 0) (by decide) (fun e => by omega) (fun h1 J _ f => k h1 (J.le (by omega)) f)
  · have w := ws.wf
    exact r_weep ws k
  · show pWeep 0 a (x 1) (x 2) 1 = a 1
    unfold pWeep
    split
    · rename_i c
      unfold pAdd
      rw [pPut_1 c.1.1 (by omega), pSt_o w (by decide) (by omega)]
    · rfl
