/-! A DAY (the first rows printed by wip/whole/gen/day.py) -/
section W0
variable {h h1 : Hp} {c : Nat} {a a1 : aA} {n : Int}
theorem CG0.wPer (I : CG0 h c a n) (eo : ∀ o, c ≤ o → o ≤ c + 22 → o ≠ c + 2 → o ≠ c + 3 → o ≠ c + 4 → h1 o = h o) (ea : ∀ j, ¬ (12 ≤ j ∧ j < 66) → a1 j = a j) (nPer : cPer h1 c a1) : CG0 h1 c a1 n := by
  obtain ⟨i1, i2, i3, i4, i5, i6, i7, i8, i9, i10⟩ := I
  exact ⟨i1.cg (fun j _ _ => congrFun (eo c (by omega) (by omega) (by omega) (by omega) (by omega)) j) (fun j _ _ _ => ea j (by omega)),
    nPer,
    i3.cg (fun j _ _ => congrFun (eo (c + 5) (by omega) (by omega) (by omega) (by omega) (by omega)) j) (fun j _ _ => ea j (by omega)),
    i4.cg (fun j _ _ => congrFun (eo (c + 6) (by omega) (by omega) (by omega) (by omega) (by omega)) j) (fun j _ _ => ea j (by omega)),
    i5.cg (fun j _ _ => congrFun (eo (c + 7) (by omega) (by omega) (by omega) (by omega) (by omega)) j) (fun j _ _ => ea j (by omega)),
    i6.cg (congrFun (eo (c + 9) (by omega) (by omega) (by omega) (by omega) (by omega)) 3) (fun i _ _ j _ _ => congrFun (eo (c + i) (by omega) (by omega) (by omega) (by omega) (by omega)) j) (ea 4 (by omega)) (fun j _ _ => ea j (by omega)),
    i7.cg (congrFun (eo (c + 13) (by omega) (by omega) (by omega) (by omega) (by omega)) 3) (fun i _ _ j _ _ => congrFun (eo (c + i) (by omega) (by omega) (by omega) (by omega) (by omega)) j) (ea 5 (by omega)) (fun j _ _ => ea j (by omega)),
    i8.cg (congrFun (eo (c + 17) (by omega) (by omega) (by omega) (by omega) (by omega)) 3) (fun i _ _ j _ _ => congrFun (eo (c + i) (by omega) (by omega) (by omega) (by omega) (by omega)) j) (ea 6 (by omega)) (fun j _ _ => ea j (by omega)),
    i9.cg (congrFun (eo c (by omega) (by omega) (by omega) (by omega) (by omega)) 6) (fun j _ _ => congrFun (eo (c + 8) (by omega) (by omega) (by omega) (by omega) (by omega)) j) (ea 11 (by omega)) (fun j _ _ => ea j (by omega)), by rw [ea 3 (by omega)]; exact i10⟩
theorem CG0.wNum (I : CG0 h c a n) (eo : ∀ o, c ≤ o → o ≤ c + 22 → o ≠ c → h1 o = h o) (ea : ∀ j, ¬ (8 ≤ j ∧ j < 11) → a1 j = a j) (e6 : h1 c 6 = h c 6) (nNum : cNum h1 c a1) : CG0 h1 c a1 n := by
  obtain ⟨i1, i2, i3, i4, i5, i6, i7, i8, i9, i10⟩ := I
  exact ⟨nNum,
    i2.cg (fun i _ _ j _ _ => congrFun (eo (c + i) (by omega) (by omega) (by omega)) j) (fun j _ _ => congrFun (eo (c + 4) (by omega) (by omega) (by omega)) j) (fun j _ _ => ea j (by omega)),
    i3.cg (fun j _ _ => congrFun (eo (c + 5) (by omega) (by omega) (by omega)) j) (fun j _ _ => ea j (by omega)),
    i4.cg (fun j _ _ => congrFun (eo (c + 6) (by omega) (by omega) (by omega)) j) (fun j _ _ => ea j (by omega)),
    i5.cg (fun j _ _ => congrFun (eo (c + 7) (by omega) (by omega) (by omega)) j) (fun j _ _ => ea j (by omega)),
    i6.cg (congrFun (eo (c + 9) (by omega) (by omega) (by omega)) 3) (fun i _ _ j _ _ => congrFun (eo (c + i) (by omega) (by omega) (by omega)) j) (ea 4 (by omega)) (fun j _ _ => ea j (by omega)),
    i7.cg (congrFun (eo (c + 13) (by omega) (by omega) (by omega)) 3) (fun i _ _ j _ _ => congrFun (eo (c + i) (by omega) (by omega) (by omega)) j) (ea 5 (by omega)) (fun j _ _ => ea j (by omega)),
    i8.cg (congrFun (eo (c + 17) (by omega) (by omega) (by omega)) 3) (fun i _ _ j _ _ => congrFun (eo (c + i) (by omega) (by omega) (by omega)) j) (ea 6 (by omega)) (fun j _ _ => ea j (by omega)),
    i9.cg e6 (fun j _ _ => congrFun (eo (c + 8) (by omega) (by omega) (by omega)) j) (ea 11 (by omega)) (fun j _ _ => ea j (by omega)), by rw [ea 3 (by omega)]; exact i10⟩
end W0
theorem cNum.day {h : Hp} {a : aA} {v : Int} (N : cNum h 2 a) (hv : 0 ≤ v ∧ v ≤ 9999) : cNum (hup h 2 2 v) 2 (aset a 8 v) := by
  have g : ∀ j : Int, j ≠ 2 → hup h 2 2 v 2 j = h 2 j := fun j e => hup_nj e
  have b : ∀ j : Int, j ≠ 8 → aset a 8 v j = a j := fun j e => aset_ne e
  refine ⟨?_, ?_, ?_, ?_, ?_, ?_⟩
  · show hup h 2 2 v 2 0 = aset a 8 v 0 ∧ 0 ≤ aset a 8 v 0 ∧ aset a 8 v 0 ≤ 6
    rw [g 0 (by decide), b 0 (by decide)]; exact N.1
  · show hup h 2 2 v 2 1 = aset a 8 v 9 ∧ 1 ≤ aset a 8 v 9 ∧ aset a 8 v 9 ≤ 99
    rw [g 1 (by decide), b 9 (by decide)]; exact N.2.1
  · show hup h 2 2 v 2 2 = aset a 8 v 8 ∧ 0 ≤ aset a 8 v 8 ∧ aset a 8 v 8 ≤ 9999
    rw [hup_eq, aset_eq]; exact ⟨rfl, hv⟩
  · show hup h 2 2 v 2 3 = aset a 8 v 10 ∧ 0 ≤ aset a 8 v 10 ∧ aset a 8 v 10 ≤ 30492
    rw [g 3 (by decide), b 10 (by decide)]; exact N.2.2.2.1
  · show hup h 2 2 v 2 4 = aset a 8 v 1 ∧ 0 ≤ aset a 8 v 1 ∧ aset a 8 v 1 ≤ 4
    rw [g 4 (by decide), b 1 (by decide)]; exact N.2.2.2.2.1
  · show hup h 2 2 v 2 5 = aset a 8 v 2 ∧ -1 ≤ aset a 8 v 2 ∧ aset a 8 v 2 < aset a 8 v 1
    rw [g 5 (by decide), b 1 (by decide), b 2 (by decide)]; exact N.2.2.2.2.2
theorem CG.day {h : Hp} {a : aA} {n m v : Int} (I : CG h 2 a n) (hv : 0 ≤ v ∧ v ≤ 9999) : CG (hup h 2 2 v) 2 (aset a 8 v) n ∧ (PK a m → PK (aset a 8 v) m) :=
  I.setNum (fun o _ _ e => hup_o e) (fun j e => aset_ne (by omega)) (hup_nj (by decide)) (I.num.day hv)
theorem Wf.amt {a : aA} {p k v : Int} (w : Wf a) (hp : 0 ≤ p ∧ p < 6) (hk : 0 ≤ k ∧ k < 4) (hv : 0 ≤ v ∧ v ≤ 999) : Wf (pPut a p (2 + k) v) := by
  obtain ⟨g, n, I, hn⟩ := w
  exact ⟨hup g 6 (p * 4 + k) v, n, I.wPer (fun o _ _ _ _ e => hup_o e) (fun j e => aset_ne (by omega)) (cPer.amt I.per hp hk hv), hn⟩
theorem Wf.day {a : aA} {v : Int} (w : Wf a) (hv : 0 ≤ v ∧ v ≤ 9999) : Wf (aset a 8 v) := by
  obtain ⟨g, n, I, hn⟩ := w
  exact ⟨hup g 2 2 v, n, I.wNum (fun o _ _ e => hup_o e) (fun j e => aset_ne (by omega)) (hup_nj (by decide)) (I.num.day hv), hn⟩
def pDry (L : aL) (s : aA) (p k : Int) : aA := pPut s p (2 + k) (cutI 0 999 (s (12 + 9 * p + (2 + k)) - pDries L (s 2) s p k))
def pDk (L : aL) (s : aA) (p : Int) (i : Int) : aA := fI (fun s k => pDry L s p k) s i
def pDp (L : aL) (s : aA) (i : Int) : aA := fI (fun s p => pDk L s p 4) s i
def pPass (L : aL) (s : aA) : aA := aset (pDp L s (s 0)) 8 (s 8 + 1)
theorem pDk_s {L : aL} {s : aA} {p i : Int} (h : 0 ≤ i) : pDk L s p (i + 1) = pDry L (pDk L s p i) p i := fI_s (st := fun s k => pDry L s p k) h
theorem pDp_s {L : aL} {s : aA} {i : Int} (h : 0 ≤ i) : pDp L s (i + 1) = pDk L (pDp L s i) i 4 := fI_s (st := fun s p => pDk L s p 4) h
theorem pDry_o {L : aL} {s : aA} {p k j : Int} (hp : 0 ≤ p ∧ p < 6) (hk : 0 ≤ k ∧ k < 4) (h : ¬ (12 ≤ j ∧ j < 66)) : pDry L s p k j = s j := aset_ne (by omega)
theorem pDk_o {L : aL} {s : aA} {p : Int} (hp : 0 ≤ p ∧ p < 6) : ∀ i, 0 ≤ i → i ≤ 4 → ∀ j, ¬ (12 ≤ j ∧ j < 66) → pDk L s p i j = s j :=
  fI_i (st := fun s k => pDry L s p k) (n := 4) (fun _ y => ∀ j, ¬ (12 ≤ j ∧ j < 66) → y j = s j) (fun _ _ => rfl) (fun i y i0 i4 z j hj => (pDry_o hp ⟨i0, i4⟩ hj).trans (z j hj))
theorem pDp_o {L : aL} {s : aA} : ∀ i, 0 ≤ i → i ≤ 6 → ∀ j, ¬ (12 ≤ j ∧ j < 66) → pDp L s i j = s j :=
  fI_i (st := fun s p => pDk L s p 4) (n := 6) (fun _ y => ∀ j, ¬ (12 ≤ j ∧ j < 66) → y j = s j) (fun _ _ => rfl) (fun i y i0 i6 z j hj => (pDk_o ⟨i0, i6⟩ 4 (by decide) (by decide) j hj).trans (z j hj))
theorem Wf.dry {L : aL} {s : aA} {p k : Int} (w : Wf s) (hp : 0 ≤ p ∧ p < 6) (hk : 0 ≤ k ∧ k < 4) : Wf (pDry L s p k) := w.amt hp hk (cutI_r (by decide))
theorem Wf.dk {L : aL} {s : aA} {p : Int} (w : Wf s) (hp : 0 ≤ p ∧ p < 6) : ∀ i, 0 ≤ i → i ≤ 4 → Wf (pDk L s p i) :=
  fI_i (st := fun s k => pDry L s p k) (n := 4) (fun _ y => Wf y) w (fun i y i0 i4 z => z.dry hp ⟨i0, i4⟩)
theorem Wf.dp {L : aL} {s : aA} (w : Wf s) : ∀ i, 0 ≤ i → i ≤ 6 → Wf (pDp L s i) :=
  fI_i (st := fun s p => pDk L s p 4) (n := 6) (fun _ y => Wf y) w (fun i y i0 i6 z => z.dk ⟨i0, i6⟩ 4 (by decide) (by decide))
theorem Wp.dry {L : aL} {s : aA} {p k m : Int} (w : Wp s m) (hp : 0 ≤ p ∧ p < 6) (hk : 0 ≤ k ∧ k < 4) : Wp (pDry L s p k) m := Wp.amt w hp hk (cutI_r (by decide))
theorem Wp.dk {L : aL} {s : aA} {p m : Int} (w : Wp s m) (hp : 0 ≤ p ∧ p < 6) : ∀ i, 0 ≤ i → i ≤ 4 → Wp (pDk L s p i) m :=
  fI_i (st := fun s k => pDry L s p k) (n := 4) (fun _ y => Wp y m) w (fun i y i0 i4 z => z.dry hp ⟨i0, i4⟩)
theorem Wp.dp {L : aL} {s : aA} {m : Int} (w : Wp s m) : ∀ i, 0 ≤ i → i ≤ 6 → Wp (pDp L s i) m :=
  fI_i (st := fun s p => pDk L s p 4) (n := 6) (fun _ y => Wp y m) w (fun i y i0 i6 z => z.dk ⟨i0, i6⟩ 4 (by decide) (by decide))
theorem Wp.pass {L : aL} {s : aA} {m : Int} (w : Wp s m) (h8 : s 8 < 9999) : Wp (pPass L s) m := by
  have q0 := w.wf.p0
  have q8 := w.wf.p8
  obtain ⟨g, n, I, hn, pk⟩ := Wp.dp (L := L) w (s 0) q0.1 q0.2
  have J := I.day (m := m) (v := s 8 + 1) (by omega)
  exact ⟨_, n, J.1, hn, J.2 pk⟩
theorem Wf.pass {L : aL} {s : aA} (w : Wf s) (h8 : s 8 < 9999) : Wf (pPass L s) := by
  have q0 := w.p0
  have q8 := w.p8
  exact (w.dp (s 0) q0.1 q0.2).day (by omega)
theorem aset_id {a : aA} {i v : Int} (h : a i = v) : aset a i v = a := by
  funext j
  unfold aset
  split
  · rename_i e
    rw [e, h]
  · rfl
section DA
variable {d : Nat} {h : Hp} {Q : aPO} {a : aA} {n m : Int} {L : aL}
theorem r_pass (w : Wf (h 85)) (tx : cTx h L (h 85 1)) (k : ∀ h1, h1 85 = pPass L (h 85) → frR h h1 → Q none h1) : Runs (d + 6) 237 0 [vA 84, none, none] [] h Q := by
  have q0 := w.p0
  have q8 := w.p8
  generalize hs : h 85 = s at *
  have A : ∀ p, 0 ≤ p → p ≤ 6 → ∀ j, ¬ (12 ≤ j ∧ j < 66) → pDp L s p j = s j := pDp_o
  refine Runs.go 20 [2] ?_
  refine downI (R := fun p => ∀ (g : Hp) (u : AV), g 85 = pDp L s p → frR h g → Runs (d + 6) 237 2 [vA 84, vI p, u] [] g Q) (x := 0) (n := s 0) q0.1 ?_ (fun p p0 p6 r => ?_) h none hs frR.rf
  · intro g u e f
    have e0 : g 85 0 = s 0 := by rw [e, A (s 0) q0.1 q0.2 0 (by decide)]
    have e8 : g 85 8 = s 8 := by rw [e, A (s 0) q0.1 q0.2 8 (by decide)]
    refine Runs.go 30 [] ?_
    refine ⟨by decide, br.t (show g 85 0 ≤ s 0 by omega) ?_⟩
    refine ⟨by decide, ⟨show -2147483648 ≤ g 85 8 + 1 ∧ g 85 8 + 1 < 2147483648 by omega, ⟨by decide, ?_⟩⟩⟩
    refine k _ ?_ (f.up (Or.inl rfl))
    rw [hup_s, e8, e]
    rfl
  · intro g u e f
    have e0 : g 85 0 = s 0 := by rw [e, A p p0 (by omega) 0 (by decide)]
    have hp : 0 ≤ p ∧ p < 6 := by omega
    have wp := w.dp (L := L) p p0 (by omega)
    refine Runs.go 20 [14] ?_
    refine ⟨by decide, br.f (show ¬ g 85 0 ≤ p by omega) ?_⟩
    refine downI (R := fun i => ∀ (g : Hp), g 85 = pDk L (pDp L s p) p i → frR h g → Runs (d + 6) 237 14 [vA 84, vI p, vI i] [] g Q) (x := 0) (n := 4) (by decide) ?_ (fun i i0 i4 r2 => ?_) g e f
    · intro g e f
      refine Runs.go 20 [2] ?_
      refine br.t (by omega) ⟨by omega, ?_⟩
      exact r g _ (by rw [pDp_s p0]; exact e) f
    · intro g e f
      have wk := wp.dk (L := L) hp i i0 (by omega)
      have B := pDk_o (L := L) (s := pDp L s p) hp i i0 (by omega)
      have g2 : g 85 2 = s 2 := by rw [e, B 2 (by decide), A p p0 (by omega) 2 (by decide)]
      have g1 : g 85 1 = s 1 := by rw [e, B 1 (by decide), A p p0 (by omega) 1 (by decide)]
      have wg : Wf (g 85) := by rw [e]; exact wk
      have txg : cTx g L (g 85 1) := by rw [g1]; exact tx.frR f
      have dr := wg.drop hp ⟨i0, i4⟩
      refine Runs.go 50 [14] ?_
      refine br.f (by omega) ?_
      refine ⟨by omega, ⟨by omega, ?_⟩⟩
      refine r_get hp (by omega) ?_
      refine ⟨by decide, ?_⟩
      refine (r_now wg txg hp ⟨i0, i4⟩).1 (g 85 2) wg.p2 (fun h1 f1 => ?_)
      have dd : 0 ≤ pDries L (g 85 2) (g 85) p i ∧ pDries L (g 85 2) (g 85) p i ≤ 99 := cutI_r (by decide)
      refine ⟨by omega, ?_⟩
      refine r_cut (by decide) ?_
      refine r_put hp (by omega) ?_
      refine ⟨by omega, ?_⟩
      have e1 : h1 85 = g 85 := f1 85 (by decide)
      refine r2 _ ?_ ((f.tr (fun o x y => f1 o (by unfold scr at y; omega))).up (Or.inl rfl))
      rw [hup_s, e1, pDk_s i0, e]
      rfl
theorem c_dryAll (I : CG h 2 a n) (hn : n ≤ 30000) (pk : PK a m) (tx : cTx h L (a 1)) (k : ∀ h1, CG h1 2 (pDp L a (a 0)) n → PK (pDp L a (a 0)) m → frC h h1 → Q none h1) : Runs (d + 6) 55 0 [vA 1, none, none, none] [] h Q := by
  have w := I.wf hn
  have q0 := w.p0
  have A : ∀ p, 0 ≤ p → p ≤ 6 → ∀ j, ¬ (12 ≤ j ∧ j < 66) → pDp L a p j = a j := pDp_o
  refine Runs.go 20 [2] ?_
  refine downI (R := fun p => ∀ (g : Hp) (u v : AV), CG g 2 (pDp L a p) n → PK (pDp L a p) m → frC h g → Runs (d + 6) 55 2 [vA 1, vI p, u, v] [] g Q) (x := 0) (n := a 0) q0.1 ?_ (fun p p0 p6 r => ?_) h none none I pk frC.rf
  · intro g u v J P f
    have e0 : g 2 0 = a 0 := J.num.1.1.trans (A (a 0) q0.1 q0.2 0 (by decide))
    refine Runs.go 30 [] ?_
    exact br.t (show g 2 0 ≤ a 0 by omega) (k g J P f)
  · intro g u v J P f
    have e0 : g 2 0 = a 0 := J.num.1.1.trans (A p p0 (by omega) 0 (by decide))
    have hp : 0 ≤ p ∧ p < 6 := by omega
    refine Runs.go 20 [15] ?_
    refine br.f (show ¬ g 2 0 ≤ p by omega) ?_
    refine downI (R := fun i => ∀ (g : Hp) (v : AV), CG g 2 (pDk L (pDp L a p) p i) n → PK (pDk L (pDp L a p) p i) m → frC h g → Runs (d + 6) 55 15 [vA 1, vI p, vI i, v] [] g Q) (x := 0) (n := 4) (by decide) ?_ (fun i i0 i4 r2 => ?_) g v J P f
    · intro g v J P f
      refine Runs.go 20 [2] ?_
      refine br.t (by omega) ⟨by omega, ?_⟩
      rw [← pDp_s p0] at J P
      exact r g _ _ J P f
    · intro g v J P f
      have B := pDk_o (L := L) (s := pDp L a p) hp i i0 (by omega)
      have hk : 0 ≤ i ∧ i < 4 := ⟨i0, i4⟩
      have r3 := r2
      rw [pDk_s i0] at r3
      have s1 : pDk L (pDp L a p) p i 1 = a 1 := by rw [B 1 (by decide), A p p0 (by omega) 1 (by decide)]
      generalize pDk L (pDp L a p) p i = s at *
      have ws := J.wf hn
      have txg : cTx g L (s 1) := by rw [s1]; exact tx.frC f
      have dr := ws.drop hp hk
      have q1 := ws.p1
      have q2 := ws.p2
      refine Runs.go 60 [15] ?_
      refine br.f (by omega) ?_
      refine c_amount J hp hk ?_
      refine br.i (fun y => ⟨by omega, ?_⟩) (fun y => ?_)
      · have z : s (12 + 9 * p + (2 + i)) = 0 := by omega
        have E : pDry L s p i = s := by
          have dd : 0 ≤ pDries L (s 2) s p i ∧ pDries L (s 2) s p i ≤ 99 := cutI_r (by decide)
          unfold pDry pPut
          refine aset_id ?_
          rw [z]
          unfold cutI
          split
          · rfl
          · rw [if_neg (by omega)]; omega
        rw [E] at r3
        exact r3 g _ J P f
      · refine c_look J hp hk (fun h1 e1 en => ?_)
        have J1 : CG h1 2 s n := J.fr (fun o _ _ => e1 o (by omega))
        have t1 : cTx h1 L (s 1) := txg.fr (fun o _ _ => e1 o (by omega)) (e1 87 (by omega))
        refine c_ruling J1 hn ?_
        refine c_dries (t := s 2) t1 q2 q1.2 (nOk_9 en (pNm_ok ws hp hk)) (bOk_h J1) (fun h2 e2 => ?_)
        rw [en, r3_h J1, (pNm_2 en).1]
        have dd : 0 ≤ pDries L (s 2) s p i ∧ pDries L (s 2) s p i ≤ 99 := cutI_r (by decide)
        unfold pDries at dd
        refine ⟨by omega, ?_⟩
        have J2 : CG h2 2 s n := J1.fr (fun o _ _ => e2 o (by omega))
        refine c_setAmount J2 P hp hk (fun h3 J3 P3 f3 => ⟨by omega, ?_⟩)
        refine r3 h3 _ J3 P3 (f.tr (fun o x y => ?_))
        rw [f3 o (by omega), e2 o (fun z => y (Or.inr (Or.inl z))), e1 o (fun z => y (Or.inl z))]
end DA
