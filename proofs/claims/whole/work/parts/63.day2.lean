/-! A DAY of the reference, and what it leaves aside -/
def frQ (h h1 : Hp) : Prop := ∀ o, o ≠ 85 → o ≠ 90 → o ≠ 91 → o ≠ 92 → h1 o = h o
theorem frQ.rf {h : Hp} : frQ h h := fun _ _ _ _ _ => rfl
theorem frQ.tr {h h1 h2 : Hp} (x : frQ h h1) (y : frQ h1 h2) : frQ h h2 := fun o a b c d => (y o a b c d).trans (x o a b c d)
theorem frQ.up {h h1 : Hp} {i v : Int} (x : frQ h h1) : frQ h (hup h1 85 i v) := fun o a b c d => by rw [hup_o a]; exact x o a b c d
theorem frQ.r {h h1 : Hp} (x : frQ h h1) : frR h h1 := fun o a b => x o a (by unfold scr at b; omega) (by unfold scr at b; omega) (by unfold scr at b; omega)
section RQ
variable {d : Nat} {h : Hp} {Q : aPO} {L : aL} {p kd : Int}
theorem r_dries2 (w : Wf (h 85)) (tx : cTx h L (h 85 1)) (hp : 0 ≤ p ∧ p < 6) (hk : 0 ≤ kd ∧ kd < 4) (t : Int) (ht : -1 ≤ t ∧ t < h 85 1) (k : ∀ h1, (∀ o, o ≠ 90 → o ≠ 91 → o ≠ 92 → h1 o = h o) → Q (vI (pDries L t (h 85) p kd)) h1) : Runs (d + 5) 233 0 [vA 84, vI t, vI p, vI kd] [] h Q := by
  have q2 := w.p2
  have rm := w.room hp
  refine Runs.go 60 [24] ?_
  refine r_name w hp hk (fun h1 e1 en => ?_)
  have e5 := e1 85 (by decide)
  have t1 : cTx h1 L (h1 85 1) := by rw [e5]; exact tx.fr (fun o _ _ => e1 o (by omega)) (e1 87 (by omega))
  have w1 : Wf (h1 85) := by rw [e5]; exact w
  have ok1 := nOk_9 en (pNm_ok w hp hk)
  have K : ∀ wo, wo = (if h1 90 2 = 1 then (3 : Int) else 1) → Runs (d + 5) 233 24 [vA 84, vI t, vI p, vI kd] [vI wo, vI 0, vI t, vA 84] h1 Q := by
    intro wo ew
    refine Runs.go 20 [] ?_
    refine r_says w1 t1 (by rw [e5]; exact ht) (by decide) ok1 (by decide) (by rw [ew]; split <;> decide) (fun h2 e2 => ?_)
    have K := k h2 (fun o x y z => (e2 o y z).trans (e1 o x))
    unfold pDries at K
    rw [en, e5, ew, (pNm_2 en).1]
    exact K
  refine ⟨by decide, ?_⟩
  exact br.i (fun c => K 1 (by rw [if_neg c])) (fun c => K 3 (by rw [if_pos (Decidable.not_not.mp c)]))
theorem r_pass2 (w : Wf (h 85)) (tx : cTx h L (h 85 1)) (k : ∀ h1, h1 85 = pPass L (h 85) → frQ h h1 → Q none h1) : Runs (d + 6) 237 0 [vA 84, none, none] [] h Q := by
  have q0 := w.p0
  have q8 := w.p8
  generalize hs : h 85 = s at *
  have A : ∀ p, 0 ≤ p → p ≤ 6 → ∀ j, ¬ (12 ≤ j ∧ j < 66) → pDp L s p j = s j := pDp_o
  refine Runs.go 20 [2] ?_
  refine downI (R := fun p => ∀ (g : Hp) (u : AV), g 85 = pDp L s p → frQ h g → Runs (d + 6) 237 2 [vA 84, vI p, u] [] g Q) (x := 0) (n := s 0) q0.1 ?_ (fun p p0 p6 r => ?_) h none hs frQ.rf
  · intro g u e f
    have e0 : g 85 0 = s 0 := by rw [e, A (s 0) q0.1 q0.2 0 (by decide)]
    have e8 : g 85 8 = s 8 := by rw [e, A (s 0) q0.1 q0.2 8 (by decide)]
    refine Runs.go 30 [] ?_
    refine ⟨by decide, br.t (show g 85 0 ≤ s 0 by omega) ?_⟩
    refine ⟨by decide, ⟨show -2147483648 ≤ g 85 8 + 1 ∧ g 85 8 + 1 < 2147483648 by omega, ⟨by decide, ?_⟩⟩⟩
    refine k _ ?_ f.up
    rw [hup_s, e8, e]
    rfl
  · intro g u e f
    have e0 : g 85 0 = s 0 := by rw [e, A p p0 (by omega) 0 (by decide)]
    have hp : 0 ≤ p ∧ p < 6 := by omega
    have wp := w.dp (L := L) p p0 (by omega)
    refine Runs.go 20 [14] ?_
    refine ⟨by decide, br.f (show ¬ g 85 0 ≤ p by omega) ?_⟩
    refine downI (R := fun i => ∀ (g : Hp), g 85 = pDk L (pDp L s p) p i → frQ h g → Runs (d + 6) 237 14 [vA 84, vI p, vI i] [] g Q) (x := 0) (n := 4) (by decide) ?_ (fun i i0 i4 r2 => ?_) g e f
    · intro g e f
      refine Runs.go 20 [2] ?_
      refine br.t (by omega) ⟨by omega, ?_⟩
      exact r g _ (by rw [pDp_s p0]; exact e) f
    · intro g e f
      have wk := wp.dk (L := L) hp i i0 (by omega)
      have B := pDk_o (L := L) (s := pDp L s p) hp i i0 (by omega)
      have g2 : g 85 2 = s 2 := by rw [e, B 2 (by decide), A p p0 (by omega) 2 (by decide)]
      have g1 : g 85 1 = s 1 := by rw [e, B 1 (by decide), A p p0 (by omega) 1 (by decide)]
      have wg : Wf (g 85) := by rw [e]; exact wk
      have txg : cTx g L (g 85 1) := by rw [g1]; exact tx.frR f.r
      have dr := wg.drop hp ⟨i0, i4⟩
      refine Runs.go 50 [14] ?_
      refine br.f (by omega) ?_
      refine ⟨by omega, ⟨by omega, ?_⟩⟩
      refine r_get hp (by omega) ?_
      refine ⟨by decide, ?_⟩
      refine r_dries2 wg txg hp ⟨i0, i4⟩ (g 85 2) wg.p2 (fun h1 f1 => ?_)
      have dd : 0 ≤ pDries L (g 85 2) (g 85) p i ∧ pDries L (g 85 2) (g 85) p i ≤ 99 := cutI_r (by decide)
      refine ⟨by omega, ?_⟩
      refine r_cut (by decide) ?_
      refine r_put hp (by omega) ?_
      refine ⟨by omega, ?_⟩
      have e1 : h1 85 = g 85 := f1 85 (by decide) (by decide) (by decide)
      refine r2 _ ?_ (f.tr (fun o _ y z t => f1 o y z t)).up
      rw [hup_s, e1, pDk_s i0, e]
      rfl
end RQ
