/-! CENTURIES, the call; by -/
def pCe (L : aL) (s : aA) (i : Int) : aA := fI (fun s _ => pHap L (pDraw s) (s 10)) s i
theorem pCe_s {L : aL} {s : aA} {i : Int} (h : 0 ≤ i) : pCe L s (i + 1) = pHap L (pDraw (pCe L s i)) (pCe L s i 10) := fI_s (st := fun (s : aA) _ => pHap L (pDraw s) (s 10)) h
def pCn (a : aA) (v : Int) : aA := aset (pKeep a) 10 (v * 2 + 157)
theorem Wp.setX {s : aA} {m v : Int} (w : Wp s m) (hv : 0 ≤ v ∧ v ≤ 30492) : Wp (aset s 10 v) m := by
  obtain ⟨g, n, I, hn, pk⟩ := w
  have J := I.setX (m := m) hv
  exact ⟨_, n, J.1, hn, J.2 pk⟩
theorem pDraw_o {s : aA} {j : Int} (h : j ≠ 10) : pDraw s j = s j := aset_ne h
theorem Wp.ce {L : aL} {s : aA} (w : Wp s 0) (hW : s 11 ≤ 29000) : ∀ i, 0 ≤ i → i ≤ 40 → Wp (pCe L s i) i ∧ pCe L s i 11 ≤ s 11 + i ∧ pCe L s i 1 = s 1 := by
  refine fI_i (st := fun (s : aA) _ => pHap L (pDraw s) (s 10)) (n := 40) (fun i y => Wp y i ∧ y 11 ≤ s 11 + i ∧ y 1 = s 1) ⟨w, by omega, rfl⟩ (fun i y i0 i4 z => ?_)
  have wd := z.1.draw
  have e11 : pDraw y 11 = y 11 := pDraw_o (by decide)
  have q := pHap_11 (L := L) (x := y 10) wd.wf
  exact ⟨wd.hap (by omega) (by omega), by show pHap L (pDraw y) (y 10) 11 ≤ _; omega, by show pHap L (pDraw y) (y 10) 1 = _; rw [pHap_o wd.wf (by decide) (by decide), pDraw_o (by decide)]; exact z.2.2⟩
theorem o_centuries : op_centuries Inv := by
  intro x hx
  refine opM3 (fun a L => if (0 ≤ x 1 ∧ x 1 ≤ 9999) ∧ 1 ≤ x 2 ∧ x 2 ≤ 40 then pCe L (pCn a (x 1)) (x 2) 8 else -1) (fun a L => if (0 ≤ x 1 ∧ x 1 ≤ 9999) ∧ 1 ≤ x 2 ∧ x 2 ≤ 40 then pCe L (pCn a (x 1)) (x 2) else a) (fun h L n Q I hn z0 t k => ?_) (fun h L Q ws w11 t k => ?_) (fun a L ws w11 => ?_)
  · have F : ¬ ((0 ≤ x 1 ∧ x 1 ≤ 9999) ∧ 1 ≤ x 2 ∧ x 2 ≤ 40) → Q (vI (-1)) h := fun y => by
      rw [if_neg y, if_neg y] at k
      exact k h (I.le (by omega)) frC.rf
    refine Runs.go 40 [] ?_
    refine sp_between ?_
    refine br.i (fun y => F (fun q => b2i_z y q.1)) (fun y1 => ?_)
    refine sp_between ?_
    refine br.j (fun y => F (fun q => b2i_z (Decidable.not_not.mp y) q.2)) (fun y2 => ?_)
    have k1 := b2i_nz y1
    have k2 := b2i_nz y2
    rw [if_pos ⟨k1, k2⟩, if_pos ⟨k1, k2⟩] at k
    have w := I.wf (by omega)
    have w8 := w.p8
    have C : ∀ (Q2 : aPO), (∀ h1, CG h1 2 (pCe L (pCn (h 85) (x 1)) (x 2)) (n + 40) → frC h h1 → Q2 none h1) → Runs 149 58 0 [vA 1, vI (x 1), vI (x 2), none] [] h Q2 := by
      intro Q2 k2'
      refine Runs.go 40 [25] ?_
      refine c_step I z0 (Or.inl rfl) (m := 0) (by decide) (fun e => by omega) (fun h1 I1 P1 f1 => ?_)
      refine ⟨by omega, ?_⟩
      refine ⟨by omega, ⟨by omega, ?_⟩⟩
      have J0 : CG (hup h1 1 3 1) 2 (pKeep (h 85)) n := I1.fr (fun o _ _ => hup_o (by omega))
      have J := J0.setX (m := 0) (v := x 1 * 2 + 157) (by omega)
      have hb : frC (hup h1 1 3 1) (hup (hup h1 1 3 1) 2 3 (x 1 * 2 + 157)) := frC.rf.up (Or.inl (by decide))
      have s1 : pCn (h 85) (x 1) 1 = h 85 1 := by unfold pCn; rw [aset_ne (by decide), pKeep_o w (by decide) (by decide)]
      have s11 : pCn (h 85) (x 1) 11 = h 85 11 := by unfold pCn; rw [aset_ne (by decide), pKeep_o w (by decide) (by decide)]
      have ib := I.book.1.2.2
      have wpA : Wp (pCn (h 85) (x 1)) 0 := ((I.ws (by omega)).keep).setX (by omega)
      have txb : cTx (hup h1 1 3 1) L (h 85 1) := t.fr (fun o _ _ => by rw [hup_o (by omega)]; exact f1 o (by omega) (by omega)) (by rw [hup_o (by decide)]; exact f1 87 (by decide) (by decide))
      refine downI (R := fun i => ∀ (g : Hp), CG g 2 (pCe L (pCn (h 85) (x 1)) i) (n + i) → PK (pCe L (pCn (h 85) (x 1)) i) i → frC (hup h1 1 3 1) g → Runs 149 58 25 [vA 1, vI (x 1), vI (x 2), vI i] [] g Q2) (x := 0) (n := x 2) (by omega) ?_ (fun i i0 i3 r => ?_) _ (by rw [Int.add_zero]; exact J.1) (J.2 P1) hb
      · intro g J P f
        refine Runs.go 20 [] ?_
        refine br.t (by omega) ⟨by omega, ?_⟩
        refine k2' _ ((J.fr (fun o _ _ => hup_o (by omega))).le (by omega)) (fun o y q => ?_)
        by_cases e : o = 1
        · subst e
          rw [hup_s, f 1 (by decide) (by unfold scr; omega), hup_s, f1 1 (by decide) (by decide)]
          funext j
          unfold aset
          split
          · rename_i ej
            rw [ej]; exact z0.symm
          · rfl
        · rw [hup_o e, f o y q, hup_o e]
          exact f1 o (by omega) (by omega)
      · intro g J P f
        have ce := wpA.ce (L := L) (by omega) i i0 (by omega)
        have r10 := ce.1.wf.p10
        have hz1 : g 1 3 = 1 := by rw [f 1 (by decide) (by unfold scr; omega), hup_eq]
        have rr := r
        rw [pCe_s i0] at rr
        generalize pCe L (pCn (h 85) (x 1)) i = s at *
        refine Runs.go 20 [25] ?_
        refine br.f (by omega) ?_
        refine c_draw (m := i) J (by omega) (fun h2 J2 P2 f2 => ?_)
        have fr2 : frC (hup h1 1 3 1) h2 := f.tr (fun o y _ => f2 o (by omega))
        have tx2 : cTx h2 L (pDraw s 1) := by rw [pDraw_o (by decide), ce.2.2, s1]; exact txb.frC fr2
        refine c_happen (m := i) r10 J2 (by omega) tx2 (by rw [f2 1 (by decide)]; exact hz1) (by omega) (P2 P) (fun h3 J3 P3 f3 => ⟨by omega, ?_⟩)
        exact rr h3 (by rw [← Int.add_assoc]; exact J3) P3 (fr2.tr f3)
    refine C _ (fun h1 J f => ?_)
    exact QI (k h1 J f) J.num.2.2.1.1
  · have F : ¬ ((0 ≤ x 1 ∧ x 1 ≤ 9999) ∧ 1 ≤ x 2 ∧ x 2 ≤ 40) → Q (vI (-1)) h := fun y => by
      have K := k h
      rw [if_neg y, if_neg y] at K
      exact K rfl frR.rf
    have w := ws.wf
    refine Runs.go 60 [43] ?_
    refine r_isIn ?_
    refine br.i (fun y => F (fun q => b2i_z y q.1)) (fun y1 => ?_)
    refine r_isIn ?_
    refine br.j (fun y => F (fun q => b2i_z (Decidable.not_not.mp y) q.2)) (fun y2 => ?_)
    have k1 := b2i_nz y1
    have k2 := b2i_nz y2
    rw [if_pos ⟨k1, k2⟩, if_pos ⟨k1, k2⟩] at k
    refine r_keep w (fun h1 e1 f1 => ?_)
    refine ⟨by omega, ⟨by omega, ⟨by decide, ?_⟩⟩⟩
    have wpA : Wp (pCn (h 85) (x 1)) 0 := ws.keep.setX (by omega)
    have s1 : pCn (h 85) (x 1) 1 = h 85 1 := by unfold pCn; rw [aset_ne (by decide), pKeep_o w (by decide) (by decide)]
    have s11 : pCn (h 85) (x 1) 11 = h 85 11 := by unfold pCn; rw [aset_ne (by decide), pKeep_o w (by decide) (by decide)]
    have e2 : hup h1 85 10 (x 1 * 2 + 157) 85 = pCn (h 85) (x 1) := by rw [hup_s, e1]; rfl
    have fr2 : frR h (hup h1 85 10 (x 1 * 2 + 157)) := fun o y _ => by rw [hup_o y]; exact f1 o y
    refine downI (R := fun i => ∀ (g : Hp) (u : AV), g 85 = pCe L (pCn (h 85) (x 1)) i → frR h g → Runs 150 256 43 [vA 84, vI (x 1), vI (x 2), vI i, u] [] g Q) (x := 0) (n := x 2) (by omega) ?_ (fun i i0 i3 r => ?_) _ none e2 fr2
    · intro g u e f
      refine Runs.go 20 [] ?_
      refine br.t (by omega) ⟨by decide, ?_⟩
      exact QI (k g e f) (by rw [← e])
    · intro g u e f
      have ce := wpA.ce (L := L) (by omega) i i0 (by omega)
      have wi := ce.1.wf
      have r10 := wi.p10
      have rr := r
      rw [pCe_s i0] at rr
      generalize pCe L (pCn (h 85) (x 1)) i = s at *
      have G : ∀ v : Int, v = s 10 → Runs 150 256 57 [vA 84, vI (x 1), vI (x 2), vI i, vI v] [] g Q := by
        intro v ev
        refine Runs.go 20 [43] ?_
        refine r_anew (by rw [e]; exact wi) ?_
        have e3 : hup g 85 10 ((g 85 10 * 389 + 269) % 30493) 85 = pDraw s := by rw [hup_s, e]; rfl
        have f3 : frR h (hup g 85 10 ((g 85 10 * 389 + 269) % 30493)) := f.up (Or.inl rfl)
        generalize hup g 85 10 ((g 85 10 * 389 + 269) % 30493) = g2 at *
        refine r_happens (m := i) (by omega) (by rw [e3]; exact ce.1.draw) (by rw [e3, pDraw_o (by decide), ce.2.2, s1]; exact t.frR f3) (fun h3 e4 f4 => ⟨by omega, ?_⟩)
        exact rr h3 _ (by rw [e4, e3, ev]) (f3.tr f4)
      refine Runs.go 20 [57] ?_
      refine br.f (by omega) ⟨by decide, ?_⟩
      exact G (g 85 10) (by rw [e])
  · show (if (0 ≤ x 1 ∧ x 1 ≤ 9999) ∧ 1 ≤ x 2 ∧ x 2 ≤ 40 then pCe L (pCn a (x 1)) (x 2) else a) 1 = a 1
    split
    · rename_i y
      have wpA : Wp (pCn a (x 1)) 0 := ws.keep.setX (by omega)
      have s1 : pCn a (x 1) 1 = a 1 := by unfold pCn; rw [aset_ne (by decide), pKeep_o ws.wf (by decide) (by decide)]
      have s11 : pCn a (x 1) 11 = a 11 := by unfold pCn; rw [aset_ne (by decide), pKeep_o ws.wf (by decide) (by decide)]
      rw [(wpA.ce (L := L) (by omega) (x 2) (by omega) (by omega)).2.2, s1]
    · rfl
theorem o_by : op_by Inv := by
  intro x hx
  refine opM (fun a _ => b2i (-1 ≤ x 1 ∧ x 1 < a 1)) (fun a _ => if -1 ≤ x 1 ∧ x 1 < a 1 then aset a 2 (x 1) else a) (fun h L n Q I hn z0 t k => ?_) (fun h L Q ws t k => ?_) (fun a L w => ?_)
  · have e4 : h 2 4 = h 85 1 := I.num.2.2.2.2.1.1
    have F : ¬ (-1 ≤ x 1 ∧ x 1 < h 85 1) → Q (vI 0) h := fun y => by
      rw [if_neg y, b2i_f y] at k
      exact k h (I.le (by omega)) frC.rf
    refine Runs.go 40 [] ?_
    refine br.i (fun y => ⟨by omega, F (by omega)⟩) (fun y1 => ?_)
    refine br.j (fun y => ⟨by omega, F ?_⟩) (fun y2 => ?_)
    · have y' : ¬ x 1 < h 2 4 := y
      omega
    have y' : x 1 < h 2 4 := y2
    have ok : -1 ≤ x 1 ∧ x 1 < h 85 1 := by omega
    rw [if_pos ok, b2i_t ok] at k
    refine ⟨by omega, ?_⟩
    have N := I.num
    have g : ∀ j : Int, j ≠ 5 → hup h 2 5 (x 1) 2 j = h 2 j := fun j e => hup_nj e
    have b : ∀ j : Int, j ≠ 2 → aset (h 85) 2 (x 1) j = h 85 j := fun j e => aset_ne e
    refine k _ ((I.wLaw (fun o _ _ e => hup_o e) (fun j e => aset_ne e) (hup_nj (by decide)) ?_).le (by omega)) (frC.rf.up (Or.inl (by decide)))
    refine ⟨?_, ?_, ?_, ?_, ?_, ?_⟩
    · show hup h 2 5 (x 1) 2 0 = aset (h 85) 2 (x 1) 0 ∧ 0 ≤ aset (h 85) 2 (x 1) 0 ∧ aset (h 85) 2 (x 1) 0 ≤ 6
      rw [g 0 (by decide), b 0 (by decide)]; exact N.1
    · show hup h 2 5 (x 1) 2 1 = aset (h 85) 2 (x 1) 9 ∧ 1 ≤ aset (h 85) 2 (x 1) 9 ∧ aset (h 85) 2 (x 1) 9 ≤ 99
      rw [g 1 (by decide), b 9 (by decide)]; exact N.2.1
    · show hup h 2 5 (x 1) 2 2 = aset (h 85) 2 (x 1) 8 ∧ 0 ≤ aset (h 85) 2 (x 1) 8 ∧ aset (h 85) 2 (x 1) 8 ≤ 9999
      rw [g 2 (by decide), b 8 (by decide)]; exact N.2.2.1
    · show hup h 2 5 (x 1) 2 3 = aset (h 85) 2 (x 1) 10 ∧ 0 ≤ aset (h 85) 2 (x 1) 10 ∧ aset (h 85) 2 (x 1) 10 ≤ 30492
      rw [g 3 (by decide), b 10 (by decide)]; exact N.2.2.2.1
    · show hup h 2 5 (x 1) 2 4 = aset (h 85) 2 (x 1) 1 ∧ 0 ≤ aset (h 85) 2 (x 1) 1 ∧ aset (h 85) 2 (x 1) 1 ≤ 4
      rw [g 4 (by decide), b 1 (by decide)]; exact N.2.2.2.2.1
    · show hup h 2 5 (x 1) 2 5 = aset (h 85) 2 (x 1) 2 ∧ -1 ≤ aset (h 85) 2 (x 1) 2 ∧ aset (h 85) 2 (x 1) 2 < aset (h 85) 2 (x 1) 1
      rw [hup_eq, aset_eq, b 1 (by decide)]; exact ⟨rfl, ok⟩
  · have w := ws.wf
    have q1 := w.p1
    refine Runs.go 40 [] ?_
    refine ⟨by decide, ⟨show -2147483648 ≤ h 85 1 - 1 ∧ h 85 1 - 1 < 2147483648 by omega, ?_⟩⟩
    refine r_isIn (y := h 85 1 - 1) ?_
    refine br.j (fun y => ?_) (fun y => ?_)
    · have y' := b2i_z (Decidable.not_not.mp y)
      have K := k h
      rw [if_neg (by omega), b2i_f (by omega)] at K
      exact ⟨by omega, K rfl frR.rf⟩
    · have y' := b2i_nz y
      have K := k (hup h 85 2 (x 1))
      rw [if_pos (by omega), b2i_t (by omega)] at K
      exact ⟨by decide, ⟨by omega, K hup_s (frR.rf.up (Or.inl rfl))⟩⟩
  · show (if -1 ≤ x 1 ∧ x 1 < a 1 then aset a 2 (x 1) else a) 1 = a 1
    split
    · exact aset_ne (by decide)
    · rfl
