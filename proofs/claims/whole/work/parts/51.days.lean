/-! DAYS -/
theorem pSt1 {a : aA} : pSt 1 a = a := by unfold pSt; rw [if_neg (by decide)]
def pDn (z : Int) (L : aL) (s : aA) (i : Int) : aA := fI (fun s _ => if s 8 < 9999 then pPass L (pSt z s) else s) s i
theorem pDn_s {z : Int} {L : aL} {s : aA} {i : Int} (h : 0 ≤ i) : pDn z L s (i + 1) = if pDn z L s i 8 < 9999 then pPass L (pSt z (pDn z L s i)) else pDn z L s i := fI_s (st := fun (s : aA) _ => if s 8 < 9999 then pPass L (pSt z s) else s) h
theorem pPass_o {L : aL} {s : aA} {j : Int} (w : Wf s) (h : ¬ (12 ≤ j ∧ j < 66)) (h8 : j ≠ 8) : pPass L s j = s j := by
  unfold pPass
  rw [aset_ne h8, pDp_o (s 0) w.p0.1 w.p0.2 j h]
theorem pPass_8 {L : aL} {s : aA} : pPass L s 8 = s 8 + 1 := aset_eq
/-- once the last day is there it stays -/
theorem pDn_l {z : Int} {L : aL} {s : aA} {i : Int} (h : 0 ≤ i) (h8 : ¬ pDn z L s i 8 < 9999) : ∀ j, i ≤ j → pDn z L s j = pDn z L s i := by
  have q : ∀ (k : Nat), pDn z L s (i + k) = pDn z L s i := by
    intro k
    induction k with
    | zero => rw [show i + ((0 : Nat) : Int) = i by omega]
    | succ k ih => rw [show i + ((k + 1 : Nat) : Int) = i + k + 1 by omega, pDn_s (by omega), ih, if_neg h8]
  intro j ij
  have := q (j - i).toNat
  rw [show i + ((j - i).toNat : Int) = j by omega] at this
  exact this
section PD
variable {d : Nat} {h : Hp} {Q : aPO} {a : aA} {n m z : Int} {L : aL}
theorem c_passDays {nn : Int} (hN : 0 ≤ nn ∧ nn ≤ 9999) (I : CG h 2 a n) (hn : n ≤ 30000) (tx : cTx h L (a 1)) (hz : h 1 3 = z) (h01 : z = 0 ∨ z = 1) (hm : 0 ≤ m) (pk : z = 1 → PK a m) (k : ∀ h1, CG h1 2 (pDn z L a nn) n → (z = 1 → PK (pDn z L a nn) m) → frC h h1 → Q (vI (b2i (a 8 + nn ≤ 9999))) h1) : Runs (d + 7) 54 0 [vA 1, vI nn, none] [] h Q := by
  have q8 := (I.wf hn).p8
  refine Runs.go 20 [2] ?_
  refine downI (R := fun i => ∀ (g : Hp), CG g 2 (pDn z L a i) n → (z = 1 → PK (pDn z L a i) m) → frC h g → pDn z L a i 8 = a 8 + i → pDn z L a i 1 = a 1 → Runs (d + 7) 54 2 [vA 1, vI nn, vI i] [] g Q) (x := 0) (n := nn) hN.1 ?_ (fun i i0 i3 r => ?_) h I pk frC.rf (by rw [Int.add_zero]; rfl) rfl
  · intro g J P f e8 e1
    have r8 := (J.wf hn).p8
    refine Runs.go 20 [] ?_
    refine br.t (by omega) ⟨by omega, ?_⟩
    have K := k g J P f
    rw [b2i_t (by omega)] at K
    exact K
  · intro g J P f e8 e1
    have wj := J.wf hn
    have g8 : g 2 2 = a 8 + i := J.num.2.2.1.1.trans e8
    refine Runs.go 30 [2] ?_
    refine br.f (by omega) ?_
    refine br.j (fun y => ⟨by omega, ?_⟩) (fun y => ?_)
    · have y' : ¬ g 2 2 < 9999 := y
      have E := pDn_l (z := z) (L := L) (s := a) (i := i) i0 (by omega) nn (by omega)
      have K := k g (by rw [E]; exact J) (fun ez => by rw [E]; exact P ez) f
      rw [b2i_f (by omega)] at K
      exact K
    · have y' : g 2 2 < 9999 := y
      have hz' : g 1 3 = z := by rw [f 1 (by omega) (by unfold scr; omega)]; exact hz
      refine c_step J hz' h01 hm P (fun h1 J1 P1 f1 => ?_)
      have s1 : pSt z (pDn z L a i) 1 = a 1 := (pSt_o wj (by decide) (by decide)).trans e1
      have s8 : pSt z (pDn z L a i) 8 = a 8 + i := (pSt_o wj (by decide) (by decide)).trans e8
      have s0 : pSt z (pDn z L a i) 0 = pDn z L a i 0 := pSt_o wj (by decide) (by decide)
      have w1 := J1.wf hn
      have f01 : frC h h1 := f.tr (fun o x _ => f1 o (by omega) (by omega))
      have t1 : cTx h1 L (pSt z (pDn z L a i) 1) := by rw [s1]; exact tx.frC f01
      refine c_dryAll J1 hn P1 t1 (fun h2 J2 P2 f2 => ?_)
      have e2 : pDp L (pSt z (pDn z L a i)) (pSt z (pDn z L a i) 0) 8 = a 8 + i := (pDp_o _ w1.p0.1 w1.p0.2 8 (by decide)).trans s8
      have h8 : h2 2 2 = a 8 + i := J2.num.2.2.1.1.trans e2
      refine ⟨show -2147483648 ≤ h2 2 2 + 1 ∧ h2 2 2 + 1 < 2147483648 by omega, ⟨by omega, ?_⟩⟩
      have J3 := J2.day (m := m) (v := a 8 + i + 1) (by omega)
      have E3 : hup h2 2 2 (h2 2 2 + 1) = hup h2 2 2 (a 8 + i + 1) := by rw [h8]
      have ES : pDn z L a (i + 1) = aset (pDp L (pSt z (pDn z L a i)) (pSt z (pDn z L a i) 0)) 8 (a 8 + i + 1) := by
        rw [pDn_s i0, if_pos (by omega)]
        unfold pPass
        rw [s8]
      have R := r (hup h2 2 2 (h2 2 2 + 1)) (by rw [E3, ES]; exact J3.1) (fun _ => by rw [ES]; exact J3.2 P2) (f01.tr (fun o x y => by rw [hup_o (by omega)]; exact f2 o x y)) (by rw [ES, aset_eq]; omega) (by rw [ES, aset_ne (by decide), pDp_o _ w1.p0.1 w1.p0.2 1 (by decide)]; exact s1)
      exact R
theorem pDn0_ws {i : Int} (ws : Ws a) (hi : 0 ≤ i) : Ws (pDn 0 L a i) := by
  have q : ∀ (k : Nat), Ws (pDn 0 L a k) := by
    intro k
    induction k with
    | zero => exact ws
    | succ k ih =>
      rw [show ((k + 1 : Nat) : Int) = (k : Int) + 1 by omega, pDn_s (by omega)]
      split
      · rename_i y
        have e : pSt 0 (pDn 0 L a k) 8 = pDn 0 L a k 8 := pSt_o ih.wf (by decide) (by decide)
        exact (Wp.pass (m := 0) (s := pSt 0 (pDn 0 L a k)) ih.keep (by rw [e]; exact y)).ws
      · exact ih
  have := q i.toNat
  rw [show ((i.toNat : Nat) : Int) = i by omega] at this
  exact this
theorem r_arePassed {nn : Int} (hN : 0 ≤ nn ∧ nn ≤ 9999) (ws : Ws (h 85)) (tx : cTx h L (h 85 1)) (k : ∀ h1, h1 85 = pDn 0 L (h 85) nn → frR h h1 → Q (vI (b2i (h 85 8 + nn ≤ 9999))) h1) : Runs (d + 7) 251 0 [vA 84, vI nn, none] [] h Q := by
  have q8 := ws.wf.p8
  generalize hs : h 85 = a at *
  refine Runs.go 20 [2] ?_
  refine downI (R := fun i => ∀ (g : Hp), g 85 = pDn 0 L a i → frR h g → pDn 0 L a i 8 = a 8 + i → pDn 0 L a i 1 = a 1 → Runs (d + 7) 251 2 [vA 84, vI nn, vI i] [] g Q) (x := 0) (n := nn) hN.1 ?_ (fun i i0 i3 r => ?_) h hs frR.rf (by rw [Int.add_zero]; rfl) rfl
  · intro g e f e8 e1
    have r8 := (pDn0_ws (L := L) ws hN.1).wf.p8
    refine Runs.go 20 [] ?_
    refine br.t (by omega) ⟨by omega, ?_⟩
    have K := k g e f
    rw [b2i_t (by omega)] at K
    exact K
  · intro g e f e8 e1
    have wi := pDn0_ws (L := L) ws i0
    have r8 := wi.wf.p8
    have g8 : g 85 8 = a 8 + i := by rw [e, e8]
    refine Runs.go 30 [2] ?_
    refine br.f (by omega) ?_
    refine ⟨by decide, ?_⟩
    refine br.j (fun y => ⟨by omega, ?_⟩) (fun y => ?_)
    · have y' : g 85 8 = 9999 := Decidable.not_not.mp y
      have E := pDn_l (z := 0) (L := L) (s := a) (i := i) i0 (by omega) nn (by omega)
      have K := k g (by rw [E]; exact e) f
      rw [b2i_f (by omega)] at K
      exact K
    · have y' : g 85 8 ≠ 9999 := y
      refine r_keep (by rw [e]; exact wi.wf) (fun h1 e2 f1 => ?_)
      rw [e] at e2
      have w1 := wi.keep.wf
      have s1 : pKeep (pDn 0 L a i) 1 = a 1 := (pKeep_o wi.wf (by decide) (by decide)).trans e1
      have s8 : pKeep (pDn 0 L a i) 8 = a 8 + i := (pKeep_o wi.wf (by decide) (by decide)).trans e8
      have f01 : frR h h1 := f.tr (fun o x _ => f1 o x)
      refine r_pass (by rw [e2]; exact w1) (by rw [e2, s1]; exact tx.frR f01) (fun h2 e3 f2 => ⟨by omega, ?_⟩)
      rw [e2] at e3
      have ES : pDn 0 L a (i + 1) = pPass L (pKeep (pDn 0 L a i)) := by
        rw [pDn_s i0, if_pos (by omega)]
        rfl
      refine r h2 (by rw [ES]; exact e3) (f01.tr f2) (by rw [ES, pPass_8, s8]; omega) (by rw [ES, pPass_o w1 (by decide) (by decide)]; exact s1)
end PD
theorem pDn0_1 {a : aA} {L : aL} {i : Int} (ws : Ws a) (hi : 0 ≤ i) : pDn 0 L a i 1 = a 1 := by
  have q : ∀ (k : Nat), pDn 0 L a k 1 = a 1 := by
    intro k
    induction k with
    | zero => rfl
    | succ k ih =>
      have wk := pDn0_ws (L := L) ws (i := (k : Int)) (by omega)
      rw [show ((k + 1 : Nat) : Int) = (k : Int) + 1 by omega, pDn_s (by omega)]
      split
      · have e : pSt 0 (pDn 0 L a k) 1 = pDn 0 L a k 1 := pSt_o wk.wf (by decide) (by decide)
        have w2 : Wf (pSt 0 (pDn 0 L a k)) := wk.keep.wf
        rw [pPass_o w2 (by decide) (by decide), e]
        exact ih
      · exact ih
  have := q i.toNat
  rw [show ((i.toNat : Nat) : Int) = i by omega] at this
  exact this
theorem pDn_8 {z : Int} {a : aA} {L : aL} (F : ∀ i, 0 ≤ i → Wf (pDn z L a i)) : ∀ i, 0 ≤ i → a 8 + i ≤ 9999 → pDn z L a i 8 = a 8 + i := by
  have q : ∀ (k : Nat), a 8 + k ≤ 9999 → pDn z L a k 8 = a 8 + k := by
    intro k
    induction k with
    | zero => intro _; rw [show a 8 + ((0 : Nat) : Int) = a 8 by omega]; rfl
    | succ k ih =>
      intro y
      have e := ih (by omega)
      rw [show ((k + 1 : Nat) : Int) = (k : Int) + 1 by omega, pDn_s (by omega), if_pos (by omega), pPass_8, pSt_o (F k (by omega)) (by decide) (by decide), e]
      omega
  intro i i0 y
  have := q i.toNat (by omega)
  rw [show ((i.toNat : Nat) : Int) = i by omega] at this
  exact this
/-- like opM2, where one text or another rules -/
theorem opM3 {mc mr : Nat} {av : List AV} (z : aA → aL → Int) (f : aA → aL → aA)
    (hc : ∀ h L n (Q : aPO), CG h 2 (h 85) n → n ≤ 29000 → h 1 3 = 0 → cTx h L (h 85 1) → (∀ h1, CG h1 2 (f (h 85) L) (n + 40) → frC h h1 → Q (vI (z (h 85) L)) h1) → Runs 150 mc 0 (pad (ents (vA 0 :: av)) (mLo mc)) [] h Q)
    (hr : ∀ h L (Q : aPO), Ws (h 85) → h 85 11 ≤ 29000 → cTx h L (h 85 1) → (∀ h1, h1 85 = f (h 85) L → frR h h1 → Q (vI (z (h 85) L)) h1) → Runs 150 mr 0 (pad (ents (vA 84 :: av)) (mLo mr)) [] h Q)
    (h1 : ∀ a L, Ws a → a 11 ≤ 29000 → f a L 1 = a 1) : OpI Inv mc mr av := by
  intro n hn h I ok
  have ws := I.ws hn
  obtain ⟨i1, i2, i3, i4, i5, L, iL⟩ := I
  have ib := i1.book.1.2.2
  have t1 := h1 (h 85) L ws (by omega)
  refine hc h L (40 * n) _ i1 (by omega) i4 iL (fun g1 j1 s => ⟨_, rfl, ?_⟩)
  have e85 : g1 85 = h 85 := s 85 (by omega) (by unfold scr; omega)
  have iL1 : cTx g1 L (g1 85 1) := by rw [e85]; exact iL.frC s
  refine hr g1 L _ (by rw [e85]; exact ws) (by rw [e85]; omega) iL1 (fun g2 e s2 => ⟨by rw [e85], ?_⟩)
  have S : ∀ o, ¬ (2 ≤ o ∧ o ≤ 24) → o ≠ 85 → ¬ scr o → g2 o = h o := fun o p q r => (s2 o q r).trans (s o p r)
  have T : ∀ o, 2 ≤ o → o ≤ 24 → g2 o = g1 o := fun o p q => s2 o (by omega) (by unfold scr; omega)
  rw [e85] at e
  have e6 : g2 86 = h 86 := S 86 (by omega) (by omega) (by unfold scr; omega)
  refine ⟨?_, ?_, i3.fr (S _ (by omega) (by omega) (by unfold scr; omega)) (S _ (by omega) (by omega) (by unfold scr; omega)) (S _ (by omega) (by omega) (by unfold scr; omega)) (S _ (by omega) (by omega) (by unfold scr; omega)), ?_, ?_, L, ?_⟩
  · rw [e]; exact (j1.fr (fun o p q => T o p (by omega))).le (by omega)
  · rw [e6]; exact (i2.fr (fun o p q => S o (by omega) (by omega) (by unfold scr; omega))).le (by omega)
  · rw [S 1 (by omega) (by omega) (by unfold scr; omega)]; exact i4
  · rw [e, e6, t1]; exact i5
  · rw [e, t1]; exact iL.fr (fun o _ _ => S o (by omega) (by omega) (by unfold scr; omega)) (S 87 (by omega) (by omega) (by unfold scr; omega))
theorem o_day : op_day Inv := by
  intro x hx
  refine opM3 (fun a _ => if (1 ≤ x 1 ∧ x 1 ≤ 60) ∧ a 8 + x 1 ≤ 9999 then a 8 + x 1 else -1) (fun a L => if (1 ≤ x 1 ∧ x 1 ≤ 60) ∧ a 8 + x 1 ≤ 9999 then pDn 0 L a (x 1) else a) (fun h L n Q I hn z0 t k => ?_) (fun h L Q ws w11 t k => ?_) (fun a L ws w11 => ?_)
  · have w := I.wf (by omega)
    have q8 := w.p8
    have e8 : h 2 2 = h 85 8 := I.num.2.2.1.1
    have F : ¬ ((1 ≤ x 1 ∧ x 1 ≤ 60) ∧ h 85 8 + x 1 ≤ 9999) → Q (vI (-1)) h := fun y => by
      rw [if_neg y, if_neg y] at k
      exact k h (I.le (by omega)) frC.rf
    refine Runs.go 40 [] ?_
    refine sp_between ?_
    refine br.i (fun y => F (fun q => b2i_z y q.1)) (fun y => ?_)
    have k1 := b2i_nz y
    refine ⟨show -2147483648 ≤ h 2 2 + x 1 ∧ h 2 2 + x 1 < 2147483648 by omega, ?_⟩
    refine br.j (fun y => F (fun q => ?_)) (fun y => ?_)
    · have y' : ¬ h 2 2 + x 1 ≤ 9999 := y
      omega
    have y' : h 2 2 + x 1 ≤ 9999 := y
    have ok : (1 ≤ x 1 ∧ x 1 ≤ 60) ∧ h 85 8 + x 1 ≤ 9999 := ⟨k1, by omega⟩
    rw [if_pos ok, if_pos ok] at k
    refine c_passDays (m := 0) (by omega) I (by omega) t z0 (Or.inl rfl) (by decide) (fun e => by omega) (fun h1 J _ f => ?_)
    have ws : Ws (h 85) := I.ws (by omega)
    have e9 : h1 2 2 = h 85 8 + x 1 := J.num.2.2.1.1.trans (pDn_8 (z := 0) (L := L) (fun i i0 => (pDn0_ws (L := L) ws i0).wf) (x 1) (by omega) ok.2)
    exact QI (k h1 (J.le (by omega)) f) e9
  · have w := ws.wf
    have q8 := w.p8
    have F : ¬ ((1 ≤ x 1 ∧ x 1 ≤ 60) ∧ h 85 8 + x 1 ≤ 9999) → Q (vI (-1)) h := fun y => by
      have K := k h
      rw [if_neg y, if_neg y] at K
      exact K rfl frR.rf
    refine Runs.go 40 [] ?_
    refine r_isIn ?_
    refine br.i (fun y => F (fun q => b2i_z y q.1)) (fun y => ?_)
    have k1 := b2i_nz y
    refine ⟨by decide, ⟨show -2147483648 ≤ h 85 8 + x 1 ∧ h 85 8 + x 1 < 2147483648 by omega, ?_⟩⟩
    refine br.i (fun y => F (fun q => ?_)) (fun y => ?_)
    · have y' : 9999 < h 85 8 + x 1 := y
      omega
    have y' : ¬ 9999 < h 85 8 + x 1 := y
    have ok : (1 ≤ x 1 ∧ x 1 ≤ 60) ∧ h 85 8 + x 1 ≤ 9999 := ⟨k1, by omega⟩
    refine r_arePassed (by omega) ws t (fun h1 e1 f1 => ?_)
    rw [b2i_t ok.2]
    refine br.f (by decide) ?_
    refine ⟨by decide, ?_⟩
    have e9 : h1 85 8 = h 85 8 + x 1 := by rw [e1]; exact pDn_8 (z := 0) (L := L) (fun i i0 => (pDn0_ws (L := L) ws i0).wf) (x 1) (by omega) ok.2
    have K := k h1
    rw [if_pos ok, if_pos ok] at K
    exact QI (K e1 f1) e9
  · show (if (1 ≤ x 1 ∧ x 1 ≤ 60) ∧ a 8 + x 1 ≤ 9999 then pDn 0 L a (x 1) else a) 1 = a 1
    split
    · rename_i y
      exact pDn0_1 ws (by omega)
    · rfl
