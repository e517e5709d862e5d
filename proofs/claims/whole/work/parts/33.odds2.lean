/-! CALLS: wrongly, howOften -/
def pWr (a : aA) (L : aL) (p k n low : Int) : Int := if ((0 ≤ p ∧ p < a 0) ∧ (0 ≤ k ∧ k ≤ 2)) ∧ (1 ≤ n ∧ n ≤ 9) ∧ n % 2 = 1 then (if low = 0 then pW (pErrs L a p k) n else pwr 10 n).tdiv (gI (pW (pErrs L a p k) n) (pwr 10 n)) else -1
theorem pErrs_r {a : aA} {L : aL} {p k : Int} : 0 ≤ pErrs L a p k ∧ pErrs L a p k ≤ 10 := cutI_r (by decide)
theorem opRL {mc mr : Nat} {av : List AV} (z : aA → aL → Int)
    (hc : ∀ h L n (Q : aPO), CG h 2 (h 85) n → n ≤ 30000 → cTx h L (h 85 1) → (∀ h1, Same h h1 → Q (vL (z (h 85) L)) h1) → Runs 150 mc 0 (pad (ents (vA 0 :: av)) (mLo mc)) [] h Q)
    (hr : ∀ h L (Q : aPO), Wf (h 85) → cTx h L (h 85 1) → (∀ h1, Same h h1 → Q (vL (z (h 85) L)) h1) → Runs 150 mr 0 (pad (ents (vA 84 :: av)) (mLo mr)) [] h Q) : OpL Inv mc mr av := by
  intro n hn h I ok
  obtain ⟨L, iL⟩ := I.2.2.2.2.2
  refine hc h L (40 * n) _ I.1 (by omega) iL (fun h1 s => ⟨_, rfl, ?_⟩)
  have I1 := I.sc s
  have e85 : h1 85 = h 85 := s 85 (by unfold scr; omega)
  have iL1 : cTx h1 L (h1 85 1) := by
    rw [e85]
    exact iL.fr (fun o _ _ => s o (by unfold scr; omega)) (s 87 (by unfold scr; omega))
  refine hr h1 L _ (I1.wf hn) iL1 (fun h2 s2 => ⟨?_, (I1.sc s2).le (by omega)⟩)
  rw [e85]
theorem c_isCase {d : Nat} {p kd : Int} {h : Hp} {Q : aPO} {a : aA} {n : Int} (I : CG h 2 a n) (k : Q (vI (b2i ((0 ≤ p ∧ p < a 0) ∧ 0 ≤ kd ∧ kd ≤ 2))) h) : Runs (d + 2) 160 0 [vA 0, vI p, vI kd] [] h Q := by
  have q := I.num.1.1
  exact sp_isCase (QI k (b2i_c (by omega)))
theorem o_wrongly : op_wrongly Inv := by
  intro x hx
  refine opRL (fun a L => pWr a L (x 1) (x 2) (x 3) (nzI (x 4))) (fun h L n Q I hn t k => ?_) (fun h L Q w t k => ?_)
  · have q0 := I.num.1.2
    have K0 := k h Same.rf
    have F : ¬ (((0 ≤ x 1 ∧ x 1 < h 85 0) ∧ (0 ≤ x 2 ∧ x 2 ≤ 2)) ∧ (1 ≤ x 3 ∧ x 3 ≤ 9) ∧ x 3 % 2 = 1) → Q (vL (-1)) h := fun c => QL K0 (by unfold pWr; rw [if_neg c])
    refine Runs.go 60 [] ?_
    refine c_isCase I ?_
    refine br.i (fun c => F (fun z => b2i_z c z.1)) (fun c1 => ?_)
    refine sp_between ?_
    refine br.i (fun c => F (fun z => b2i_z c z.2.1)) (fun c2 => ?_)
    have k1 := b2i_nz c1
    have k2 := b2i_nz c2
    have tm := Int.tmod_eq_emod_of_nonneg (b := 2) (show 0 ≤ x 3 by omega)
    refine ⟨by omega, ?_⟩
    rw [tm]
    refine br.j (fun c => F (fun z => by omega)) (fun c3 => ?_)
    unfold pWr at k
    rw [if_pos ⟨k1, k2, by omega⟩] at k
    have er := pErrs_r (a := h 85) (L := L) (p := x 1) (k := x 2)
    have wr := pW_r er (n := x 3) (by omega)
    have pr := pwr_r (b := 10) (i := x 3) (by decide) (by omega)
    have p1 := pwr10' (n := x 3) (by omega)
    have gp := gI_p (p := pW (pErrs L (h 85) (x 1) (x 2)) (x 3)) (q := pwr 10 (x 3)) (Or.inr (by omega))
    refine (c_now I hn t (by omega) (by omega)).2.1 (fun h1 e1 => ?_)
    have K := k h1 (fun o s => e1 o (fun z => s (Or.inl z)) (fun z => s (Or.inr (Or.inl z))))
    refine c_mostWrong er (by omega) ?_
    refine c_power (by decide) (by omega) ?_
    refine c_gcd wr.1 pr.1 ?_ ?_
    · have := (mul_b0 wr pr).2
      have : (2 : Int) ^ 62 = 4611686018427387904 := by decide
      omega
    refine br.t (fun z => by have := lc0.mp z; omega) ?_
    refine br.i (fun c => ?_) (fun c => ?_)
    · rw [if_pos c] at K
      exact ⟨⟨by omega, by omega⟩, K⟩
    · rw [if_neg c] at K
      exact ⟨⟨by omega, by omega⟩, K⟩
  · have q0 := w.p0
    have K0 := k h Same.rf
    have F : ¬ (((0 ≤ x 1 ∧ x 1 < h 85 0) ∧ (0 ≤ x 2 ∧ x 2 ≤ 2)) ∧ (1 ≤ x 3 ∧ x 3 ≤ 9) ∧ x 3 % 2 = 1) → Q (vL (-1)) h := fun c => QL K0 (by unfold pWr; rw [if_neg c])
    refine Runs.go 60 [] ?_
    refine r_isOne w ?_
    refine br.i (fun c => F (fun z => b2i_z c z.1.1)) (fun c1 => ?_)
    refine r_isKind ?_
    refine br.i (fun c => F (fun z => b2i_z c z.1.2)) (fun c1' => ?_)
    refine r_isIn ?_
    refine br.i (fun c => F (fun z => b2i_z c z.2.1)) (fun c2 => ?_)
    have k1 := b2i_nz c1
    have k1' := b2i_nz c1'
    have k2 := b2i_nz c2
    have tm := Int.tmod_eq_emod_of_nonneg (b := 2) (show 0 ≤ x 3 by omega)
    refine ⟨by omega, ?_⟩
    rw [tm]
    refine br.j (fun c => F (fun z => by omega)) (fun c3 => ?_)
    unfold pWr at k
    rw [if_pos ⟨⟨k1, k1'⟩, k2, by omega⟩] at k
    have er := pErrs_r (a := h 85) (L := L) (p := x 1) (k := x 2)
    have wr := pW_r er (n := x 3) (by omega)
    have pr := pwr_r (b := 10) (i := x 3) (by decide) (by omega)
    have p1 := pwr10' (n := x 3) (by omega)
    have gp := gI_p (p := pW (pErrs L (h 85) (x 1) (x 2)) (x 3)) (q := pwr 10 (x 3)) (Or.inr (by omega))
    refine (r_now w t (by omega) (by omega)).2.1 (fun h1 e1 => ?_)
    have K := k h1 (fun o s => e1 o (by unfold scr at s; omega))
    refine r_wrong er (by omega) ?_
    refine r_power (by decide) (by omega) ?_
    refine br.i (fun c => ?_) (fun c => ?_)
    · rw [if_pos c] at K
      refine r_common wr.1 pr.1 ?_
      exact ⟨⟨by omega, by omega⟩, K⟩
    · rw [if_neg c] at K
      refine r_common wr.1 pr.1 ?_
      exact ⟨⟨by omega, by omega⟩, K⟩
def hOf (o p : Int) : Nat → Int → Int
  | 0, _ => -1
  | f + 1, n => if pW o n * 100 ≤ pwr 10 n * p then n else hOf o p f (n + 2)
theorem lcg {x y : Int} : 0 < lcI x y ↔ y < x := by
  unfold lcI
  split
  · omega
  · split <;> omega
theorem o_howOften : op_howOften Inv := by
  intro x hx
  refine opR (fun a L => if ((0 ≤ x 1 ∧ x 1 < a 0) ∧ (0 ≤ x 2 ∧ x 2 ≤ 2)) ∧ (0 ≤ x 3 ∧ x 3 ≤ 100) then hOf (pErrs L a (x 1) (x 2)) (x 3) 5 1 else -1) (fun h L n Q I hn t k => ?_) (fun h L Q w t k => ?_)
  · have q0 := I.num.1.2
    have K0 := k h Same.rf
    refine Runs.go 60 [35] ?_
    refine c_isCase I ?_
    refine br.i (fun c => QI K0 (by rw [if_neg (fun z => b2i_z c z.1)])) (fun c1 => ?_)
    refine sp_between ?_
    refine br.j (fun c => QI K0 (by rw [if_neg (fun z => b2i_z (Decidable.not_not.mp c) z.2)])) (fun c2 => ?_)
    have k1 := b2i_nz c1
    have k2 := b2i_nz c2
    rw [if_pos ⟨k1, k2⟩] at k
    have er := pErrs_r (a := h 85) (L := L) (p := x 1) (k := x 2)
    refine (c_now I hn t (by omega) (by omega)).2.1 (fun h1 e1 => ?_)
    have K := k h1 (fun o s => e1 o (fun z => s (Or.inl z)) (fun z => s (Or.inr (Or.inl z))))
    have M : ∀ (f : Nat) (n : Int), 1 ≤ n → n + 2 * f = 11 → Q (vI (hOf (pErrs L (h 85) (x 1) (x 2)) (x 3) f n)) h1 → Runs 150 138 35 [vA 0, vI (x 1), vI (x 2), vI (x 3), vI (pErrs L (h 85) (x 1) (x 2)), vI n] [] h1 Q := by
      intro f
      induction f with
      | zero =>
        intro n n1 nf k
        refine Runs.go 20 [] ?_
        exact br.t (by omega) k
      | succ f ih =>
        intro n n1 nf k
        have wr := pW_r er (n := n) (by omega)
        have pr := pwr_r (b := 10) (i := n) (by decide) (by omega)
        have m2 := mul_b0 pr k2
        unfold hOf at k
        refine Runs.go 40 [35] ?_
        refine br.f (by omega) ?_
        refine c_mostWrong er (by omega) ?_
        refine ⟨by omega, ?_⟩
        refine c_power (by decide) (by omega) ?_
        refine ⟨by omega, ?_⟩
        refine br.i (fun c => ?_) (fun c => ?_)
        · have c3 := lcg.mp c
          rw [if_neg (by omega)] at k
          exact ⟨by omega, ih (n + 2) (by omega) (by omega) k⟩
        · have c3 : ¬ pwr 10 n * x 3 < pW (pErrs L (h 85) (x 1) (x 2)) n * 100 := fun z => c (lcg.mpr z)
          rw [if_pos (by omega)] at k
          exact k
    exact M 5 1 (by decide) (by decide) K
  · have q0 := w.p0
    have K0 := k h Same.rf
    refine Runs.go 60 [38] ?_
    refine r_isOne w ?_
    refine br.i (fun c => QI K0 (by rw [if_neg (fun z => b2i_z c z.1.1)])) (fun c1 => ?_)
    refine r_isKind ?_
    refine br.i (fun c => QI K0 (by rw [if_neg (fun z => b2i_z c z.1.2)])) (fun c1' => ?_)
    refine r_isIn ?_
    refine br.j (fun c => QI K0 (by rw [if_neg (fun z => b2i_z (Decidable.not_not.mp c) z.2)])) (fun c2 => ?_)
    have k1 := b2i_nz c1
    have k1' := b2i_nz c1'
    have k2 := b2i_nz c2
    rw [if_pos ⟨⟨k1, k1'⟩, k2⟩] at k
    have er := pErrs_r (a := h 85) (L := L) (p := x 1) (k := x 2)
    refine (r_now w t (by omega) (by omega)).2.1 (fun h1 e1 => ?_)
    have K := k h1 (fun o s => e1 o (by unfold scr at s; omega))
    have M : ∀ (f : Nat) (n : Int), 1 ≤ n → n + 2 * f = 11 → Q (vI (hOf (pErrs L (h 85) (x 1) (x 2)) (x 3) f n)) h1 → Runs 150 284 38 [vA 84, vI (x 1), vI (x 2), vI (x 3), vI (pErrs L (h 85) (x 1) (x 2)), vI n] [] h1 Q := by
      intro f
      induction f with
      | zero =>
        intro n n1 nf k
        refine Runs.go 20 [] ?_
        exact br.t (by omega) k
      | succ f ih =>
        intro n n1 nf k
        have wr := pW_r er (n := n) (by omega)
        have pr := pwr_r (b := 10) (i := n) (by decide) (by omega)
        have m2 := mul_b0 k2 pr
        have mc := Int.mul_comm (pwr 10 n) (x 3)
        unfold hOf at k
        refine Runs.go 40 [38] ?_
        refine br.f (by omega) ?_
        refine r_wrong er (by omega) ?_
        refine ⟨by omega, ?_⟩
        refine r_power (by decide) (by omega) ?_
        refine ⟨by omega, ?_⟩
        refine br.i (fun c => ?_) (fun c => ?_)
        · have c3 := lcg.mp c
          rw [if_neg (by omega)] at k
          exact ⟨by omega, ih (n + 2) (by omega) (by omega) k⟩
        · have c3 : ¬ x 3 * pwr 10 n < 100 * pW (pErrs L (h 85) (x 1) (x 2)) n := fun z => c (lcg.mpr z)
          rw [if_pos (by omega)] at k
          exact k
    exact M 5 1 (by decide) (by decide) K
