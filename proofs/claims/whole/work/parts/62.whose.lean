/-! CALLS: whose -/
def wB (L : aL) (a : aA) (t : Int) (i : Int) : Bool := fI (fun b i => b && decide (pDries L t a (a (138 + 3 * i)) (a (138 + 3 * i + 1)) = a (138 + 3 * i + 2))) true i
theorem wB_s {L : aL} {a : aA} {t i : Int} (h : 0 ≤ i) : wB L a t (i + 1) = (wB L a t i && decide (pDries L t a (a (138 + 3 * i)) (a (138 + 3 * i + 1)) = a (138 + 3 * i + 2))) := fI_s (st := fun b i => b && decide (pDries L t a (a (138 + 3 * i)) (a (138 + 3 * i + 1)) = a (138 + 3 * i + 2))) h
theorem wB_f {L : aL} {a : aA} {t i : Int} (h : 0 ≤ i) (hf : wB L a t i = false) : ∀ j, i ≤ j → wB L a t j = false := by
  have q : ∀ (k : Nat), wB L a t (i + k) = false := by
    intro k
    induction k with
    | zero => rw [show i + ((0 : Nat) : Int) = i by omega]; exact hf
    | succ k ih => rw [show i + ((k + 1 : Nat) : Int) = i + k + 1 by omega, wB_s (by omega), ih]; rfl
  intro j ij
  have := q (j - i).toNat
  rw [show i + ((j - i).toNat : Int) = j by omega] at this
  exact this
theorem Wf.dr {a : aA} (w : Wf a) {i : Int} (h : 0 ≤ i ∧ i < 8) : (0 ≤ a (138 + 3 * i) ∧ a (138 + 3 * i) ≤ 5) ∧ (0 ≤ a (138 + 3 * i + 1) ∧ a (138 + 3 * i + 1) ≤ 3) ∧ 0 ≤ a (138 + 3 * i + 2) ∧ a (138 + 3 * i + 2) ≤ 99 := by
  obtain ⟨g, n, I, hn⟩ := w
  have z := I.dried.2 i h.1 h.2
  exact ⟨z.1.2, z.2.1.2, z.2.2.2⟩
theorem c_allSo {d : Nat} {u : Nat} {h : Hp} {Q : aPO} {a : aA} {n : Int} {L : aL} (I : CG h 2 a n) (hn : n ≤ 30000) (tx : cTx h L (a 1)) (hu : (u : Int) < a 1) (k : ∀ h1, Same h h1 → Q (vI (b2i (wB L a u (a 6) = true))) h1) : Runs (d + 5) 3 0 [vA 1, vA (52 + 6 * u), none, none] [] h Q := by
  have w := I.wf hn
  have q1 := w.p1
  have q6 := w.p6
  have e6 : h 19 3 = a 6 := I.dried.1.1
  have er : rul u = vA (52 + 6 * u) := by unfold rul rulO; rw [if_neg (by omega)]; rfl
  refine Runs.go 20 [10] ?_
  refine downI (R := fun i => wB L a u i = true → ∀ g : Hp, Same h g → Runs (d + 5) 3 10 [vA 1, vA (52 + 6 * u), vA 19, vI i] [] g Q) (x := 0) (n := a 6) q6.1 ?_ (fun i i0 i3 r => ?_) rfl h Same.rf
  · intro wt g s
    have g6 : g 19 3 = a 6 := by rw [s 19 (by unfold scr; omega)]; exact e6
    refine Runs.go 20 [] ?_
    refine br.t (show g 19 3 ≤ a 6 by omega) ⟨by omega, ?_⟩
    have K := k g s
    rw [b2i_t wt] at K
    exact K
  · intro wt g s
    have g6 : g 19 3 = a 6 := by rw [s 19 (by unfold scr; omega)]; exact e6
    have J : CG g 2 a n := I.fr (fun o _ _ => s o (by unfold scr; omega))
    have tg : cTx g L (a 1) := tx.fr (fun o _ _ => s o (by unfold scr; omega)) (s 87 (by unfold scr; omega))
    obtain ⟨d1, d2, d3⟩ := J.dried.2 i i0 (by omega)
    have f1 : g 20 i = a (138 + 3 * i) := d1.1
    have f2 : g 21 i = a (138 + 3 * i + 1) := d2.1
    have f3 : g 22 i = a (138 + 3 * i + 2) := d3.1
    have b8 : 0 ≤ i ∧ i < (8 : Int) := by omega
    have hp : 0 ≤ g 20 i ∧ g 20 i < 6 := by omega
    have hk : 0 ≤ g 21 i ∧ g 21 i < 4 := by omega
    refine Runs.go 60 [10] ?_
    refine br.f (show ¬ g 19 3 ≤ i by omega) ?_
    refine ⟨b8, ⟨b8, ?_⟩⟩
    refine c_look J hp hk (fun h1 e1 en => ?_)
    have J1 : CG h1 2 a n := J.fr (fun o _ _ => e1 o (by omega))
    have t1 : cTx h1 L (a 1) := tg.fr (fun o _ _ => e1 o (by omega)) (e1 87 (by omega))
    have D := c_dries (d := d) (Q := fun r h2 => Q r h2) (t := u) t1 (by omega) q1.2 (nOk_9 en (pNm_ok w hp hk)) (bOk_h J1)
    rw [er] at D
    have C : ∀ (Q2 : aPO), (∀ h2, (∀ o, o ≠ 50 → h2 o = h1 o) → Q2 (vI (pDries L u a (g 20 i) (g 21 i))) h2) → Runs (d + 4) 61 0 [vA 48, vA (52 + 6 * u), vA 7] [] h1 Q2 := by
      intro Q2 k2
      have D := c_dries (d := d) (Q := Q2) (t := u) t1 (by omega) q1.2 (nOk_9 en (pNm_ok w hp hk)) (bOk_h J1)
      rw [er] at D
      refine D (fun h2 e2 => ?_)
      rw [en, r3_h J1, (pNm_2 en).1]
      exact k2 h2 e2
    refine C _ (fun h2 e2 => ?_)
    have f3' : h2 22 i = a (138 + 3 * i + 2) := by rw [e2 22 (by decide), e1 22 (by decide)]; exact f3
    have s2 : Same h h2 := fun o y => by rw [e2 o (fun z => y (Or.inr (Or.inl z))), e1 o (fun z => y (Or.inl z))]; exact s o y
    refine ⟨b8, ?_⟩
    refine br.j (fun y => ⟨by omega, ?_⟩) (fun y => ⟨by omega, r ?_ h2 s2⟩)
    · have y' : ¬ pDries L u a (g 20 i) (g 21 i) = h2 22 i := y
      rw [f3', f1, f2] at y'
      have Z : wB L a u (i + 1) = false := by rw [wB_s i0, decide_eq_false y', Bool.and_false]
      have K := k h2 s2
      rw [wB_f (by omega) Z (a 6) (by omega), b2i_f (by decide)] at K
      exact K
    · have y' : pDries L u a (g 20 i) (g 21 i) = h2 22 i := y
      rw [f3', f1, f2] at y'
      rw [wB_s i0, wt, decide_eq_true y']
      rfl
theorem o_whose : op_whose Inv := by
  intro x hx
  refine opR (fun a L => bS (fun t => wB L a t (a 6) = true) (a 1)) (fun h L n Q I hn t k => ?_) (fun h L Q w t k => ?_)
  · have q1 := (I.wf hn).p1
    have e4 : h 2 4 = h 85 1 := I.num.2.2.2.2.1.1
    refine Runs.go 20 [4] ?_
    refine downI (R := fun i => ∀ g : Hp, Same h g → Runs 150 150 4 [vA 0, vI (bS (fun t => wB L (h 85) t (h 85 6) = true) i), vI i] [] g Q) (x := 0) (n := h 85 1) q1.1 ?_ (fun i i0 i3 r => ?_) h Same.rf
    · intro g s
      have g4 : g 2 4 = h 85 1 := by rw [s 2 (by unfold scr; omega)]; exact e4
      refine Runs.go 20 [] ?_
      exact br.t (show g 2 4 ≤ h 85 1 by omega) (k g s)
    · intro g s
      have g4 : g 2 4 = h 85 1 := by rw [s 2 (by unfold scr; omega)]; exact e4
      obtain ⟨u, hu, um, eu⟩ := nat4 (t := i) (m := h 85 1) ⟨i0, i3⟩ q1.2
      have J : CG g 2 (h 85) n := I.fr (fun o _ _ => s o (by unfold scr; omega))
      have tg : cTx g L (h 85 1) := t.fr (fun o _ _ => s o (by unfold scr; omega)) (s 87 (by unfold scr; omega))
      subst eu
      have C : ∀ v : Int, Runs 149 3 0 [vA 1, vA (52 + 6 * u), none, none] [] g (fun q h2 => ∃ z, q = vI z ∧ Runs 150 150 36 [vA 0, vI v, vI u] [vI z] h2 Q) → Runs 150 150 32 [vA 0, vI v, vI u] [vI u, vA 51, vA 1] g Q := by
        intro v kk
        rcases u4 hu with e | e | e | e <;> subst e <;> (refine Runs.go 20 [36] ?_; refine ⟨by decide, ?_⟩; refine Runs.mono (fun q h2 y => ?_) kk; obtain ⟨z, e, y⟩ := y; subst e; exact y)
      refine Runs.go 20 [32] ?_
      refine br.f (show ¬ g 2 4 ≤ (u : Int) by omega) (br.f (by omega) ?_)
      refine C _ ?_
      refine c_allSo (d := 144) J hn tg um (fun h1 s1 => ⟨_, rfl, ?_⟩)
      refine Runs.go 20 [4] ?_
      refine br.i (fun y => ⟨by omega, ?_⟩) (fun y => ⟨by omega, ?_⟩)
      · have R := r h1 (s.tr s1)
        rw [← bS_n (f := fun t => wB L (h 85) t (h 85 6) = true) (i := (u : Int)) (by omega) (b2i_z y)] at R
        exact R
      · have R := r h1 (s.tr s1)
        rw [← bS_or (f := fun t => wB L (h 85) t (h 85 6) = true) (i := (u : Int)) (by omega) (b2i_nz y)] at R
        exact R
  · have q1 := w.p1
    have q6 := w.p6
    generalize ha : h 85 = a at *
    refine Runs.go 20 [4] ?_
    refine downI (R := fun i => ∀ (g : Hp) (u v : AV), Same h g → Runs 150 301 4 [vA 84, vI (bS (fun t => wB L a t (a 6) = true) i), vI i, u, v] [] g Q) (x := 0) (n := a 1) q1.1 ?_ (fun i i0 i3 r => ?_) h none none Same.rf
    · intro g u v s
      have g5 : g 85 = a := by rw [s 85 (by unfold scr; omega)]; exact ha
      have g1 : g 85 1 = a 1 := by rw [g5]
      refine Runs.go 20 [] ?_
      exact ⟨by decide, br.t (show g 85 1 ≤ a 1 by omega) (k g s)⟩
    · intro g u v s
      have g5 : g 85 = a := by rw [s 85 (by unfold scr; omega)]; exact ha
      have g1 : g 85 1 = a 1 := by rw [g5]
      refine Runs.go 20 [21] ?_
      refine ⟨by decide, br.f (show ¬ g 85 1 ≤ i by omega) ?_⟩
      have L2 : Runs 150 301 21 [vA 84, vI (bS (fun t => wB L a t (a 6) = true) i), vI i, vI (b2i (wB L a i 0 = true)), vI (138 + 3 * 0)] [] g Q := by
        refine downI (R := fun j => ∀ (g : Hp), Same h g → Runs 150 301 21 [vA 84, vI (bS (fun t => wB L a t (a 6) = true) i), vI i, vI (b2i (wB L a i j = true)), vI (138 + 3 * j)] [] g Q) (x := 0) (n := a 6) q6.1 ?_ (fun j j0 j3 r2 => ?_) g s
        · intro g s
          have g5 : g 85 = a := by rw [s 85 (by unfold scr; omega)]; exact ha
          have g6 : g 85 6 = a 6 := by rw [g5]
          refine Runs.go 40 [4] ?_
          refine ⟨by decide, ⟨show -2147483648 ≤ 3 * g 85 6 ∧ 3 * g 85 6 < 2147483648 by omega, ⟨show -2147483648 ≤ 138 + 3 * g 85 6 ∧ 138 + 3 * g 85 6 < 2147483648 by omega, br.t (show 138 + 3 * g 85 6 ≤ 138 + 3 * a 6 by omega) ?_⟩⟩⟩
          refine br.i (fun y => ⟨by omega, ?_⟩) (fun y => ⟨by omega, ?_⟩)
          · have R := r g (vI (b2i (wB L a i (a 6) = true))) (vI (138 + 3 * a 6)) s
            rw [← bS_or0 (f := fun t => wB L a t (a 6) = true) (i := i) (by omega) (b2i_z y)] at R
            exact R
          · have R := r g (vI (b2i (wB L a i (a 6) = true))) (vI (138 + 3 * a 6)) s
            rw [← bS_or (f := fun t => wB L a t (a 6) = true) (i := i) (by omega) (b2i_nz y)] at R
            exact R
        · intro g s
          have g5 : g 85 = a := by rw [s 85 (by unfold scr; omega)]; exact ha
          have g6 : g 85 6 = a 6 := by rw [g5]
          have W := w.dr (i := j) (by omega)
          have c0 : g 85 (138 + 3 * j) = a (138 + 3 * j) := by rw [g5]
          have c1 : g 85 (138 + 3 * j + 1) = a (138 + 3 * j + 1) := by rw [g5]
          have G : ∀ (b : Int) (g : Hp), (b = 0 ∨ b = 1) → (b = 1 ↔ wB L a i (j + 1) = true) → Same h g → Runs 150 301 81 [vA 84, vI (bS (fun t => wB L a t (a 6) = true) i), vI i, vI (b2i (wB L a i j = true)), vI (138 + 3 * j)] [vI b] g Q := by
            intro b g b01 eb s
            have E : b = b2i (wB L a i (j + 1) = true) := by
              rcases b01 with e | e
              · rw [e, b2i_f (fun z => by have := eb.mpr z; omega)]
              · rw [e, b2i_t (eb.mp e)]
            subst E
            refine Runs.go 20 [21] ?_
            refine ⟨by omega, ?_⟩
            have R := r2 g s
            rw [show 138 + 3 * (j + 1) = 138 + 3 * j + 3 by omega] at R
            exact R
          refine Runs.go 60 [81] ?_
          refine ⟨by decide, ⟨show -2147483648 ≤ 3 * g 85 6 ∧ 3 * g 85 6 < 2147483648 by omega, ⟨show -2147483648 ≤ 138 + 3 * g 85 6 ∧ 138 + 3 * g 85 6 < 2147483648 by omega, br.f (show ¬ 138 + 3 * g 85 6 ≤ 138 + 3 * j by omega) ?_⟩⟩⟩
          refine br.i (fun y => G 0 g (by omega) ?_ s) (fun y => ?_)
          · have y' := b2i_z y
            refine ⟨fun z => by omega, fun z => ?_⟩
            rw [wB_s j0] at z
            exact absurd (Bool.and_eq_true _ _ ▸ z).1 y'
          have y' := b2i_nz y
          refine ⟨⟨by omega, show 138 + 3 * j < (3856 : Int) by omega⟩, ⟨by omega, ⟨⟨by omega, show 138 + 3 * j + 1 < (3856 : Int) by omega⟩, ?_⟩⟩⟩
          have tg : cTx g L (g 85 1) := by rw [g5]; exact t.fr (fun o _ _ => s o (by unfold scr; omega)) (s 87 (by unfold scr; omega))
          refine (r_now (d := 144) (by rw [g5]; exact w) tg (p := g 85 (138 + 3 * j)) (kd := g 85 (138 + 3 * j + 1)) (by omega) (by omega)).1 i (by rw [g5]; omega) (fun h1 f1 => ?_)
          rw [g5]
          have s1 : Same h h1 := s.tr (fun o y => f1 o (by unfold scr at y; omega))
          have h15 : h1 85 = a := by rw [f1 85 (by decide)]; exact g5
          have c2 : h1 85 (138 + 3 * j + 2) = a (138 + 3 * j + 2) := by rw [h15]
          refine ⟨by omega, ⟨⟨by omega, show 138 + 3 * j + 2 < (3856 : Int) by omega⟩, ?_⟩⟩
          refine br.i (fun z => G 0 h1 (by omega) ?_ s1) (fun z => G 1 h1 (by omega) ?_ s1)
          · have z' : ¬ pDries L i a (a (138 + 3 * j)) (a (138 + 3 * j + 1)) = h1 85 (138 + 3 * j + 2) := z
            rw [c2] at z'
            rw [wB_s j0, decide_eq_false z', Bool.and_false]
            exact ⟨fun q => by omega, fun q => by cases q⟩
          · have z' : pDries L i a (a (138 + 3 * j)) (a (138 + 3 * j + 1)) = h1 85 (138 + 3 * j + 2) := Decidable.not_not.mp z
            rw [c2] at z'
            rw [wB_s j0, decide_eq_true z', y']
            exact ⟨fun _ => rfl, fun _ => rfl⟩
      exact L2
