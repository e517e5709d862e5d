/-! CALLS: played, whose -/
def plS (L : aL) (c : Int → Int → Int) : Nat → Int → aA → aA × Int
  | 0, _, s => (s, -1)
  | f + 1, i, s => if kA L s (c i 0) (c i 1) (c i 2) (c i 3) = 0 then (pA L s (c i 0) (c i 1) (c i 2) (c i 3), i) else plS L c f (i + 1) (pA L s (c i 0) (c i 1) (c i 2) (c i 3))
def cl (X : Int → Int) (t : Int) : Int → Int → Int := fun i k => X (705 * t + 1 + 4 * i + k)
theorem u4 {u : Nat} (h : u < 4) : u = 0 ∨ u = 1 ∨ u = 2 ∨ u = 3 := by omega
section PL
variable {d : Nat} {h : Hp} {Q : aPO} {s : aA} {n : Int} {L : aL}
theorem c_plHead {u : Nat} {i : Int} (hu : u < 4) (k0 : h (52 + 6 * u) 5 ≤ i → Q (vI (-1)) h) (k1 : i < h (52 + 6 * u) 5 → 24 ≤ i → Q (vI (-1)) h) (k : i < h (52 + 6 * u) 5 → i < 24 → Runs d 56 16 [vA 1, vA (52 + 6 * u), vI i] [] h Q) : Runs d 56 2 [vA 1, vA (52 + 6 * u), vI i] [] h Q := by
  rcases u4 hu with e | e | e | e <;> subst e <;> (refine Runs.go 20 [16] ?_; refine br.i (fun y => k0 y) (fun y => ?_); refine br.i (fun z => k1 (Int.not_le.mp y) z) (fun z => ?_); exact k (Int.not_le.mp y) (Int.not_le.mp z))
theorem c_plStep {u : Nat} {i : Int} (hu : u < 4) (hi : 0 ≤ i ∧ i < 24) (k : Runs (d + 9) 57 0 [vA 1, vI (h (52 + 6 * u + 1) (i * 4 + 0)), vI (h (52 + 6 * u + 1) (i * 4 + 1)), vI (h (52 + 6 * u + 1) (i * 4 + 2)), vI (h (52 + 6 * u + 1) (i * 4 + 3))] [] h (fun r h2 => ∃ z : Int, r = vI z ∧ (z = 0 → Q (vI i) h2) ∧ (z ≠ 0 → Runs (d + 10) 56 2 [vA 1, vA (52 + 6 * u), vI (i + 1)] [] h2 Q))) : Runs (d + 10) 56 16 [vA 1, vA (52 + 6 * u), vI i] [] h Q := by
  rcases u4 hu with e | e | e | e <;> subst e <;> (refine Runs.go 40 [2] ?_; refine Runs.go 20 [] ?_; refine ⟨by omega, ⟨by omega, ⟨⟨by omega, show i * 4 + 0 < (96 : Int) by omega⟩, ?_⟩⟩⟩; refine Runs.go 20 [] ?_; refine ⟨by omega, ⟨by omega, ⟨⟨by omega, show i * 4 + 1 < (96 : Int) by omega⟩, ?_⟩⟩⟩; refine Runs.go 20 [] ?_; refine ⟨by omega, ⟨by omega, ⟨⟨by omega, show i * 4 + 2 < (96 : Int) by omega⟩, ?_⟩⟩⟩; refine Runs.go 20 [] ?_; refine ⟨by omega, ⟨by omega, ⟨⟨by omega, show i * 4 + 3 < (96 : Int) by omega⟩, ?_⟩⟩⟩; refine Runs.mono (fun r h2 q => ?_) k; obtain ⟨z, e, q0, q1⟩ := q; subst e; exact br.i (fun y => ⟨by omega, q1 y⟩) (fun y => q0 (Decidable.not_not.mp y)))
theorem c_plays {u : Nat} (hu : u < 4) (T : TxtOK h (52 + 6 * u) u (L u)) : ∀ (f : Nat) (i : Int) (g : Hp) (s : aA) (n : Int), 0 ≤ i → i + f = h 87 (705 * u) → CG g 2 s n → n + f ≤ 30000 → Ws s → s 11 + f ≤ 29999 → cTx h L (s 1) → frC h g → g 1 3 = 0 →
    (∀ h1, CG h1 2 (plS L (cl (h 87) u) f i s).1 (n + f) → frC h h1 → Q (vI (plS L (cl (h 87) u) f i s).2) h1) → Runs (d + 10) 56 2 [vA 1, vA (52 + 6 * u), vI i] [] g Q := by
  intro f
  induction f with
  | zero =>
    intro i g s n i0 ie I hn ws h11 tx fr hz k
    have e5 : g (52 + 6 * u) 5 = h 87 (705 * u) := by rw [fr _ (by omega) (by unfold scr; omega)]; exact T.1.1
    refine c_plHead hu (fun _ => ?_) (fun y => ?_) (fun y => ?_)
    · exact k g (I.le (by omega)) fr
    · omega
    · omega
  | succ f ih =>
    intro i g s n i0 ie I hn ws h11 tx fr hz k
    have e5 : g (52 + 6 * u) 5 = h 87 (705 * u) := by rw [fr _ (by omega) (by unfold scr; omega)]; exact T.1.1
    have c24 := T.1.2
    obtain ⟨w0, w12, wp⟩ := T.2.1 i i0 (by omega)
    have eg : g (52 + 6 * u + 1) = h (52 + 6 * u + 1) := fr _ (by omega) (by unfold scr; omega)
    refine c_plHead hu (fun y => by omega) (fun y z => by omega) (fun _ _ => ?_)
    refine c_plStep hu (by omega) ?_
    have z0 : cl (h 87) u i 0 = h 87 (705 * u + 1 + 4 * i) := by unfold cl; rw [Int.add_zero]
    have P := pA_c (L := L) (s := s) (w := h 87 (705 * u + 1 + 4 * i)) (v := h (52 + 6 * u + 1) (i * 4 + 1)) (u := h (52 + 6 * u + 1) (i * 4 + 2)) (t := h (52 + 6 * u + 1) (i * 4 + 3)) (v' := cl (h 87) u i 1) (u' := cl (h 87) u i 2) (t' := cl (h 87) u i 3) w12 (fun y => (wp 1 (by decide) y).1) (fun y => (wp 2 (by decide) y).1) (fun y => (wp 3 (by decide) y).1)
    rw [eg, w0]
    have v1 : h 87 (705 * u + 1 + 4 * i) = 12 ∨ h 87 (705 * u + 1 + 4 * i) = 8 ∨ h 87 (705 * u + 1 + 4 * i) = 11 → 0 ≤ h (52 + 6 * u + 1) (i * 4 + 1) ∧ h (52 + 6 * u + 1) (i * 4 + 1) ≤ 9999 := by
      intro y
      have q : 1 ≤ parts (h 87 (705 * u + 1 + 4 * i)) := by rcases y with y | y | y <;> rw [y] <;> decide
      obtain ⟨a1, a2, a3⟩ := wp 1 (by decide) q
      rw [a1]
      exact ⟨a2, a3⟩
    refine c_act I (by omega) (tx.frC fr) hz (fun y => v1 (Or.inl y)) (fun y => by have z := v1 (Or.inr y); omega) (fun h1 J f1 => ⟨_, rfl, fun y => ?_, fun y => ?_⟩)
    · rw [P.1] at J
      rw [P.2, ← z0] at y
      rw [← z0] at J
      have K := k h1
      unfold plS at K
      rw [if_pos y] at K
      exact K (J.le (by omega)) (fr.tr f1)
    · rw [P.1] at J
      rw [P.2, ← z0] at y
      rw [← z0] at J
      have V := pA_ws (L := L) (w := cl (h 87) u i 0) (v := cl (h 87) u i 1) (u := cl (h 87) u i 2) (t := cl (h 87) u i 3) ws (by omega) (fun y => by
        rw [z0] at y
        have q := v1 (Or.inl y)
        have q2 := (wp 1 (by decide) (by rw [y]; decide)).1
        unfold cl
        omega)
      refine ih (i + 1) h1 _ (n + 1) (by omega) (by omega) J (by omega) V.1 (by omega) (by rw [V.2.2]; exact tx) (fr.tr f1) (by rw [f1 1 (by omega) (by unfold scr; omega)]; exact hz) (fun h2 J2 f2 => ?_)
      have K := k h2
      unfold plS at K
      rw [if_neg y] at K
      exact K (J2.le (by omega)) f2
theorem r_plays {u : Nat} (hu : u < 4) (T : TxtOK h (52 + 6 * u) u (L u)) : ∀ (f : Nat) (i : Int) (g : Hp) (s : aA), 0 ≤ i → i + f = h 87 (705 * u) → g 85 = s → Ws s → s 11 + f ≤ 29999 → cTx h L (s 1) → frR h g →
    (∀ h1, h1 85 = (plS L (cl (h 87) u) f i s).1 → frR h h1 → Q (vI (plS L (cl (h 87) u) f i s).2) h1) → Runs (d + 10) 254 21 [vA 84, vI u, vI i] [] g Q := by
  intro f
  have c24 := T.1.2
  induction f with
  | zero =>
    intro i g s i0 ie es ws h11 tx fr k
    have e7 : g 87 = h 87 := fr _ (by decide) (by unfold scr; omega)
    have e7' : g 87 (705 * u) = h 87 (705 * u) := by rw [e7]
    refine Runs.go 20 [] ?_
    refine ⟨by omega, ⟨⟨by omega, show 705 * (u : Int) < (2820 : Int) by omega⟩, br.t (show g 87 (705 * u) ≤ i by omega) ?_⟩⟩
    exact k g es fr
  | succ f ih =>
    intro i g s i0 ie es ws h11 tx fr k
    have e7 : g 87 = h 87 := fr _ (by decide) (by unfold scr; omega)
    have e7' : g 87 (705 * u) = h 87 (705 * u) := by rw [e7]
    obtain ⟨w0, w12, wp⟩ := T.2.1 i i0 (by omega)
    have z0 : cl (h 87) u i 0 = h 87 (705 * u + 1 + 4 * i) := by unfold cl; rw [Int.add_zero]
    have v1 : cl (h 87) u i 0 = 12 ∨ cl (h 87) u i 0 = 8 ∨ cl (h 87) u i 0 = 11 → 0 ≤ cl (h 87) u i 1 ∧ cl (h 87) u i 1 ≤ 9999 := by
      intro y
      rw [z0] at y
      have q : 1 ≤ parts (h 87 (705 * u + 1 + 4 * i)) := by rcases y with y | y | y <;> rw [y] <;> decide
      exact (wp 1 (by decide) q).2
    have V := pA_ws (L := L) (w := cl (h 87) u i 0) (v := cl (h 87) u i 1) (u := cl (h 87) u i 2) (t := cl (h 87) u i 3) ws (by omega) (fun y => (v1 (Or.inl y)).1)
    subst es
    refine Runs.go 40 [21] ?_
    refine ⟨by omega, ⟨⟨by omega, show 705 * (u : Int) < (2820 : Int) by omega⟩, br.f (show ¬ g 87 (705 * u) ≤ i by omega) ?_⟩⟩
    refine ⟨by omega, ⟨by omega, ⟨by omega, ⟨by omega, ?_⟩⟩⟩⟩
    refine r_isPlayed (w := cl (h 87) u i 0) (v := cl (h 87) u i 1) (u := cl (h 87) u i 2) (t := cl (h 87) u i 3) (by omega) (by rw [e7]; exact z0.symm) (by rw [e7]; rfl) (by rw [e7]; rfl) (by rw [e7]; rfl) ws (tx.frR fr) (fun y => v1 (Or.inl y)) (fun y => by have z := v1 (Or.inr y); omega) (fun h1 J f1 => ?_)
    refine br.i (fun y => ⟨by omega, ?_⟩) (fun y => ?_)
    · refine ih (i + 1) h1 _ (by omega) (by omega) J V.1 (by omega) (by rw [V.2.2]; exact tx) (fr.tr f1) (fun h2 J2 f2 => ?_)
      have K := k h2
      unfold plS at K
      rw [if_neg y] at K
      exact K J2 f2
    · have K := k h1
      unfold plS at K
      rw [if_pos (Decidable.not_not.mp y)] at K
      exact K J (fr.tr f1)
end PL
theorem plS_1 {L : aL} {c : Int → Int → Int} {N : Int} (hc : ∀ i, 0 ≤ i → i < N → c i 0 = 12 → 0 ≤ c i 1) : ∀ (f : Nat) (i : Int) (s : aA), 0 ≤ i → i + f = N → Ws s → s 11 + f ≤ 29999 → (plS L c f i s).1 1 = s 1 := by
  intro f
  induction f with
  | zero => intro i s i0 iN ws h; rfl
  | succ f ih =>
    intro i s i0 iN ws h
    have V := pA_ws (L := L) (w := c i 0) (v := c i 1) (u := c i 2) (t := c i 3) ws (by omega) (hc i i0 (by omega))
    unfold plS
    split
    · exact V.2.2
    · rw [ih _ _ (by omega) (by omega) V.1 (by omega)]; exact V.2.2
/-- like opM3, with the reference's texts -/
theorem opM4 {mc mr : Nat} {av : List AV} (z : aA → aL → (Int → Int) → Int) (f : aA → aL → (Int → Int) → aA)
    (hc : ∀ h L n (Q : aPO), CG h 2 (h 85) n → n ≤ 29000 → h 85 11 ≤ 29000 → Ws (h 85) → h 1 3 = 0 → cTx h L (h 85 1) → (∀ h1, CG h1 2 (f (h 85) L (h 87)) (n + 40) → frC h h1 → Q (vI (z (h 85) L (h 87))) h1) → Runs 150 mc 0 (pad (ents (vA 0 :: av)) (mLo mc)) [] h Q)
    (hr : ∀ h L (Q : aPO), Ws (h 85) → h 85 11 ≤ 29000 → cTx h L (h 85 1) → (∀ h1, h1 85 = f (h 85) L (h 87) → frR h h1 → Q (vI (z (h 85) L (h 87))) h1) → Runs 150 mr 0 (pad (ents (vA 84 :: av)) (mLo mr)) [] h Q)
    (h1 : ∀ h L, Ws (h 85) → h 85 11 ≤ 29000 → cTx h L (h 85 1) → f (h 85) L (h 87) 1 = h 85 1) : OpI Inv mc mr av := by
  intro n hn h I ok
  have ws := I.ws hn
  obtain ⟨i1, i2, i3, i4, i5, L, iL⟩ := I
  have ib := i1.book.1.2.2
  have t1 := h1 h L ws (by omega) iL
  refine hc h L (40 * n) _ i1 (by omega) (by omega) ws i4 iL (fun g1 j1 s => ⟨_, rfl, ?_⟩)
  have e85 : g1 85 = h 85 := s 85 (by omega) (by unfold scr; omega)
  have e87 : g1 87 = h 87 := s 87 (by omega) (by unfold scr; omega)
  have iL1 : cTx g1 L (g1 85 1) := by rw [e85]; exact iL.frC s
  refine hr g1 L _ (by rw [e85]; exact ws) (by rw [e85]; omega) iL1 (fun g2 e s2 => ⟨by rw [e85, e87], ?_⟩)
  have S : ∀ o, ¬ (2 ≤ o ∧ o ≤ 24) → o ≠ 85 → ¬ scr o → g2 o = h o := fun o p q r => (s2 o q r).trans (s o p r)
  have T : ∀ o, 2 ≤ o → o ≤ 24 → g2 o = g1 o := fun o p q => s2 o (by omega) (by unfold scr; omega)
  rw [e85, e87] at e
  have e6 : g2 86 = h 86 := S 86 (by omega) (by omega) (by unfold scr; omega)
  refine ⟨?_, ?_, i3.fr (S _ (by omega) (by omega) (by unfold scr; omega)) (S _ (by omega) (by omega) (by unfold scr; omega)) (S _ (by omega) (by omega) (by unfold scr; omega)) (S _ (by omega) (by omega) (by unfold scr; omega)), ?_, ?_, L, ?_⟩
  · rw [e]; exact (j1.fr (fun o p q => T o p (by omega))).le (by omega)
  · rw [e6]; exact (i2.fr (fun o p q => S o (by omega) (by omega) (by unfold scr; omega))).le (by omega)
  · rw [S 1 (by omega) (by omega) (by unfold scr; omega)]; exact i4
  · rw [e, e6, t1]; exact i5
  · rw [e, t1]; exact iL.fr (fun o _ _ => S o (by omega) (by omega) (by unfold scr; omega)) (S 87 (by omega) (by omega) (by unfold scr; omega))
theorem o_played : op_played Inv := by
  intro x hx
  refine opM4 (fun a L X => if 0 ≤ x 1 ∧ x 1 < a 1 then (plS L (cl X (x 1)) (X (705 * x 1)).toNat 0 a).2 else -2) (fun a L X => if 0 ≤ x 1 ∧ x 1 < a 1 then (plS L (cl X (x 1)) (X (705 * x 1)).toNat 0 a).1 else a) (fun h L n Q I hn h11 ws z0 t k => ?_) (fun h L Q ws h11 t k => ?_) (fun h L ws h11 t => ?_)
  · have q1 := ws.wf.p1
    have e4 : h 2 4 = h 85 1 := I.num.2.2.2.2.1.1
    have F : ¬ (0 ≤ x 1 ∧ x 1 < h 85 1) → Q (vI (-2)) h := fun y => by
      rw [if_neg y, if_neg y] at k
      exact k h (I.le (by omega)) frC.rf
    refine Runs.go 30 [30] ?_
    refine br.i (fun y => F (by omega)) (fun y => ?_)
    refine br.j (fun y2 => F (fun q => ?_)) (fun y2 => ?_)
    · have y' : ¬ x 1 < h 2 4 := y2
      omega
    have y' : x 1 < h 2 4 := y2
    rw [if_pos ⟨by omega, by omega⟩, if_pos ⟨by omega, by omega⟩] at k
    obtain ⟨u, hu, um, eu⟩ := nat4 (t := x 1) (m := h 85 1) (by omega) q1.2
    have T := t u hu um
    have c24 := T.1.2
    rw [eu] at k ⊢
    have C : ∀ (Q2 : aPO), Runs 149 56 0 [vA 1, vA (52 + 6 * u), none] [] h (fun r h2 => ∃ z, r = vI z ∧ Q2 (vI z) h2) → Runs 150 126 30 [vA 0, vI u] [vI u, vA 51, vA 1] h Q2 := by
      intro Q2 k
      rcases u4 hu with e | e | e | e <;> subst e <;> (refine Runs.go 20 [] ?_; refine ⟨by decide, ?_⟩; refine Runs.mono (fun r h2 q => ?_) k; obtain ⟨z, e, q⟩ := q; subst e; exact q)
    refine C _ ?_
    refine Runs.go 10 [2] ?_
    refine c_plays (d := 139) hu T (h 87 (705 * u)).toNat 0 h (h 85) n (by decide) (by omega) I (by omega) ws (by omega) t frC.rf z0 (fun h1 J f => ⟨_, rfl, ?_⟩)
    exact k h1 (J.le (by omega)) f
  · have q1 := ws.wf.p1
    refine Runs.go 20 [21] ?_
    refine ⟨by decide, ⟨show -2147483648 ≤ h 85 1 - 1 ∧ h 85 1 - 1 < 2147483648 by omega, ?_⟩⟩
    refine r_isIn (y := h 85 1 - 1) ?_
    refine br.j (fun y => ?_) (fun y => ?_)
    · have y' := b2i_z (Decidable.not_not.mp y)
      have K := k h
      rw [if_neg (by omega), if_neg (by omega)] at K
      exact K rfl frR.rf
    have y' := b2i_nz y
    rw [if_pos ⟨by omega, by omega⟩, if_pos ⟨by omega, by omega⟩] at k
    obtain ⟨u, hu, um, eu⟩ := nat4 (t := x 1) (m := h 85 1) (by omega) q1.2
    have T := t u hu um
    have c24 := T.1.2
    rw [eu] at k ⊢
    exact r_plays (d := 140) hu T (h 87 (705 * u)).toNat 0 h (h 85) (by decide) (by omega) rfl ws (by omega) t frR.rf k
  · show (if 0 ≤ x 1 ∧ x 1 < h 85 1 then (plS L (cl (h 87) (x 1)) (h 87 (705 * x 1)).toNat 0 (h 85)).1 else h 85) 1 = h 85 1
    split
    · rename_i y
      obtain ⟨u, hu, um, eu⟩ := nat4 (t := x 1) (m := h 85 1) y ws.wf.p1.2
      have T := t u hu um
      have c24 := T.1.2
      rw [eu]
      refine plS_1 (N := h 87 (705 * u)) (fun i i0 iN e12 => ?_) _ 0 _ (by decide) (by omega) ws (by omega)
      obtain ⟨w0, w12, wp⟩ := T.2.1 i i0 iN
      unfold cl at e12
      rw [Int.add_zero] at e12
      exact (wp 1 (by decide) (by rw [e12]; decide)).2.1
    · rfl
