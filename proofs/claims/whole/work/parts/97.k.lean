/-! CALLS: text -/
theorem onc_0 : onc 0 (srt []) := by
  refine ⟨by decide, fun s s0 s3 => ?_⟩
  have c : s = 0 ∨ s = 1 ∨ s = 2 := by omega
  constructor
  · intro z
    rcases c with c | c | c <;> subst c <;> exact absurd z (by decide +kernel)
  · rintro ⟨e, e1, -⟩
    exact absurd e1 (by simp)
section TX
variable {Q : aPO} {D : Nat}
theorem r_readText {g : Hp} {N t : Int} {en : Int → Int} (S : tS g N en) (t4 : 0 ≤ t ∧ t < 4) (e1 : g 85 1 = t) {f kf : Int} {E' : List cE} (T : Tr (g 80) (g 82) 0 [] f kf E') (kl : kf < N)
    (q1 : f = 0 → ∀ h1, tR t g en h1 kf E' → Q (vI 0) h1) (q2 : f ≠ 0 → ∀ h1, rBd t g en h1 kf → Q (vI f) h1) : Runs (D + 15) 220 0 [vA 84, none] [] g Q := by
  have l1 := S.1
  have M : ∀ g1 : Hp, g1 = hup (hup (hup (hup (hup g 84 12 (705 * t)) 87 (705 * t) 0) 84 13 0) 84 19 0) 84 7 0 → Runs (D + 14) 188 0 [vA 84, none] [] g1 (fun r h2 => Runs (D + 15) 220 43 [vA 84, none] (pushR r []) h2 Q) := by
    intro g1 eg
    have o1 : ∀ q, q ≠ 84 → q ≠ 87 → g1 q = g q := fun q x y => by subst eg; rw [hup_o x, hup_o x, hup_o x, hup_o y, hup_o x]
    have o4 : ∀ j, j ≠ 7 → j ≠ 12 → j ≠ 13 → j ≠ 19 → g1 84 j = g 84 j := fun j a b c d => by subst eg; rw [hup_nj a, hup_nj d, hup_nj c, hup_o (by decide), hup_nj b]
    have o7 : ∀ j, j ≠ 705 * t → g1 87 j = g 87 j := fun j a => by subst eg; rw [hup_o (by decide), hup_o (by decide), hup_o (by decide), hup_nj a, hup_o (by decide)]
    refine r_nextT S (k := 0) (by omega) (p := 0) (by decide) S.2.2.2.2.1 (o1 88 (by decide) (by decide)) (o4 4 (by decide) (by decide) (by decide) (by decide)) (by subst eg; rw [hup_eq]) (fun h1 u a2 a3 a4 => ?_)
    have u87 : h1 87 = g1 87 := u.1 87 (by decide)
    refine r_clauses (D := D) S t4 T (by decide) kl q1 q2 h1 none ⟨⟨fun q x y z => ?_, fun j e => ?_, fun j e => ?_, a2, a3, a4⟩, ?_, ⟨?_, trivial⟩, ?_, trivial, ?_, Int.le_refl _, by decide⟩
    · rw [u.1 q x]; exact o1 q x y
    · rw [u87]; exact o7 j (by omega)
    · rw [u.2 j (by omega)]; exact o4 j (by omega) (by omega) (by omega) (by omega)
    · rw [u.2 12 (by omega)]
      subst eg
      rw [hup_nj (by decide), hup_nj (by decide), hup_nj (by decide), hup_o (by decide), hup_eq]
    · rw [u.2 13 (by omega)]
      subst eg
      rw [hup_nj (by decide), hup_nj (by decide), hup_eq]
      rfl
    · rw [u87]
      subst eg
      rw [hup_o (by decide), hup_o (by decide), hup_o (by decide), hup_eq]
      rfl
    · rw [u.2 19 (by omega)]
      have : g1 84 19 = 0 := by
        subst eg
        rw [hup_nj (by decide), hup_eq]
      rw [this]
      exact onc_0
  have M2 : ∀ (v y : Int), v = 705 * t → y = 705 * t → Runs (D + 14) 188 0 [vA 84, none] [] (hup (hup (hup (hup (hup g 84 12 v) 87 y 0) 84 13 0) 84 19 0) 84 7 0) (fun r h2 => Runs (D + 15) 220 43 [vA 84, none] (pushR r []) h2 Q) := by
    intro v y ev ey
    rw [ev, ey]
    exact M _ rfl
  have ey : (hup g 84 12 (705 * g 85 1)) 84 12 = 705 * t := by rw [hup_eq, e1]
  refine Runs.go 60 [43] ?_
  refine ⟨by decide, ⟨show -2147483648 ≤ 705 * g 85 1 ∧ 705 * g 85 1 < 2147483648 by omega, ⟨show 0 ≤ (hup g 84 12 (705 * g 85 1)) 84 12 ∧ (hup g 84 12 (705 * g 85 1)) 84 12 < (2820 : Int) by omega, ?_⟩⟩⟩
  exact M2 _ _ (by rw [e1]) ey
theorem r_text {g : Hp} {N t : Int} {en : Int → Int} (S : tS g N en) (t4 : 0 ≤ t ∧ t < 4) (e1 : g 85 1 = t) {f kf : Int} {E' : List cE} (T : Tr (g 80) (g 82) 0 [] f kf E') (kl : kf < N)
    (q1 : f = 0 → ∀ h1, tR t g en h1 kf E' → Q (vI t) (hup (hup (hup (hup h1 84 5 0) 84 6 (-1)) 84 4 0) 85 1 (t + 1))) (q2 : f ≠ 0 → ∀ h1, rBd t g en h1 kf → Q (vI (-1)) (hup (hup (hup h1 84 5 f) 84 6 (g 81 kf)) 84 4 0)) : Runs (D + 16) 221 0 [vA 84] [] g Q := by
  refine Runs.go 60 [17] ?_
  refine ⟨by decide, br.t (show g 85 1 ≠ 4 by omega) ?_⟩
  refine r_readText (D := D) S t4 e1 T kl (fun f0 h1 B => ?_) (fun f0 h1 B => ?_)
  · have q := q1 f0 h1 B
    have p85 : h1 85 1 = t := by rw [B.1.1 85 (by decide) (by decide) (by decide)]; exact e1
    have x5 : (hup h1 84 5 0) 84 5 = 0 := hup_eq
    have y5 : (hup (hup (hup h1 84 5 0) 84 6 (-1)) 84 4 0) 84 5 = 0 := by rw [hup_nj (by decide), hup_nj (by decide), hup_eq]
    have y85 : (hup (hup (hup h1 84 5 0) 84 6 (-1)) 84 4 0) 85 1 = t := by rw [hup_o (by decide), hup_o (by decide), hup_o (by decide)]; exact p85
    generalize eg : hup (hup (hup h1 84 5 0) 84 6 (-1)) 84 4 0 = g3 at *
    have R : Runs (D + 16) 221 44 [vA 84] [] g3 Q := by
      rw [← y85] at q
      refine Runs.go 40 [] ?_
      refine br.t y5 ?_
      refine ⟨by decide, ⟨show -2147483648 ≤ g3 85 1 + 1 ∧ g3 85 1 + 1 < 2147483648 by omega, ⟨by decide, ⟨by decide, ⟨?_, QI q ?_⟩⟩⟩⟩⟩
      · show -2147483648 ≤ (hup g3 85 1 (g3 85 1 + 1)) 85 1 - 1 ∧ (hup g3 85 1 (g3 85 1 + 1)) 85 1 - 1 < 2147483648
        rw [hup_eq]
        omega
      · show (hup g3 85 1 (g3 85 1 + 1)) 85 1 - 1 = g3 85 1
        rw [hup_eq]
        omega
    rw [← eg] at R
    refine Runs.go 40 [44] ?_
    refine br.f (fun z => z x5) ?_
    exact R
  · have q := q2 f0 h1 B
    have k8 : h1 84 8 = g 81 kf := B.2.2.2.2.1
    rw [← k8] at q
    have x5 : (hup h1 84 5 f) 84 5 = f := hup_eq
    have x8 : (hup h1 84 5 f) 84 8 = h1 84 8 := by rw [hup_nj (by decide)]
    rw [← x8] at q
    have y5 : (hup (hup (hup h1 84 5 f) 84 6 ((hup h1 84 5 f) 84 8)) 84 4 0) 84 5 = f := by rw [hup_nj (by decide), hup_nj (by decide), hup_eq]
    refine Runs.go 60 [] ?_
    refine br.t (fun z => f0 ?_) ?_
    · have z' : (hup h1 84 5 f) 84 5 = 0 := z
      omega
    · refine br.f (fun z => f0 ?_) q
      have z' : (hup (hup (hup h1 84 5 f) 84 6 ((hup h1 84 5 f) 84 8)) 84 4 0) 84 5 = 0 := z
      omega
end TX
theorem o_text : op_text Inv := by
  intro x hx n hn h I ok
  obtain ⟨i1, i2, i3, i4, i5, L, iL⟩ := id I
  have w := I.wf hn
  have q1 := w.p1
  have q2 := w.p2
  have e24 : h 2 4 = h 85 1 := i1.num.2.2.2.2.1.1
  have tp := i3
  obtain ⟨tp1, tp2, tp3, tp4⟩ := tp
  by_cases c4 : h 85 1 = 4
  · -- four texts are there
    have R : Runs 150 221 0 [vA 84] [] h (fun r2 h2 => r2 = vI (-1) ∧ Inv (n + 1) h2) := by
      refine Runs.go 20 [] ?_
      refine ⟨by decide, br.f (fun z => z c4) ?_⟩
      exact ⟨rfl, I.le (by omega)⟩
    refine Runs.go 20 [] ?_
    refine sp_between ?_
    refine br.f (fun z => ?_) ⟨-1, rfl, R⟩
    have z' := b2i_nz z
    have z2 : 0 ≤ h 2 4 ∧ h 2 4 ≤ 3 := z'
    omega
  obtain ⟨u, hu⟩ : ∃ u : Nat, (u : Int) = h 85 1 := ⟨(h 85 1).toNat, by omega⟩
  have u4 : u < 4 := by omega
  have hT : tT (52 + 6 * u) := by unfold tT; omega
  have C : tpC h (h 88) (h 84 4) := by
    refine ⟨tp1.2, fun j j0 j1 => ?_⟩
    have := tp4 j j0 j1
    exact ⟨this.1, this.2⟩
  -- behind the class's reading
  have Q0 : ∀ (z : Int) (h3 : Hp), Runs 150 221 0 [vA 84] [] h3 (fun r2 h2 => r2 = vI z ∧ Inv (n + 1) h2) → ∃ z', vI z = vI z' ∧ Runs 150 221 0 [vA 84] [] h3 (fun r2 h2 => r2 = vI z' ∧ Inv (n + 1) h2) := fun z h3 R => ⟨z, rfl, R⟩
  -- what is as it was: all but the reader, the text, tape lengths, faults and counts
  have K : ∀ i : Int, i = h 85 1 → Runs 149 69 0 [vA 79, vA 83, vI (h 84 4), vA (52 + 6 * u), none] [] h (fun r h2 => Runs 150 116 43 [vA 0, vI i] (pushR r []) h2 (fun r h1 => ∃ z, r = vI z ∧ Runs 150 221 0 [vA 84] [] h1 (fun r2 h2 => r2 = vI z ∧ Inv (n + 1) h2))) := by
    intro i ei
    refine c_read (D := 56) hT C (fun G h1 N en kf E' gG S T kk B e48 => ?_) (fun G h1 N en f kf E' gG S f0 T kk bd => ?_)
    · -- no fault
      obtain ⟨b1, b2, b3, b4, b5, b6, b7⟩ := B
      have ga := b1.a hT
      have h1o : ∀ o, ¬ (79 ≤ o ∧ o ≤ 82) → ¬ (52 + 6 * u ≤ o ∧ o ≤ 52 + 6 * u + 5) → h1 o = h o := fun o a b => (b1 o (by omega) b).trans (gG o a b)
      have R : ∀ h3 : Hp, h3 = hup (hup (hup (hup h1 0 6 0) 0 7 0) 0 8 (-1)) 2 4 (i + 1) → Runs 150 221 0 [vA 84] [] h3 (fun r2 h2 => r2 = vI i ∧ Inv (n + 1) h2) := by
        intro h3 e3
        have o3 : ∀ o, o ≠ 0 → o ≠ 2 → h3 o = h1 o := fun o a b => by subst e3; rw [hup_o b, hup_o a, hup_o a, hup_o a]
        have c80 : h3 80 = G 80 := by rw [o3 80 (by decide) (by decide)]; exact ga.1
        have c81 : h3 81 = G 81 := by rw [o3 81 (by decide) (by decide)]; exact ga.2.1
        have c82 : h3 82 = G 82 := by rw [o3 82 (by decide) (by decide)]; exact ga.2.2
        have c84 : h3 84 = G 84 := by rw [o3 84 (by decide) (by decide)]; exact b1 84 (by decide) (by omega)
        have c88 : h3 88 = G 88 := by rw [o3 88 (by decide) (by decide)]; exact b1 88 (by decide) (by omega)
        have S3 : tS h3 N en := by
          unfold tS at *
          rw [c80, c81, c82, c84, c88]
          exact S
        have T3 : Tr (h3 80) (h3 82) 0 [] 0 kf E' := by rw [c80, c82]; exact T
        have h3o : ∀ o, o ≠ 0 → o ≠ 2 → ¬ (79 ≤ o ∧ o ≤ 82) → ¬ (52 + 6 * u ≤ o ∧ o ≤ 52 + 6 * u + 5) → h3 o = h o := fun o a b c d => (o3 o a b).trans (h1o o c d)
        have e851 : h3 85 1 = i := by rw [h3o 85 (by decide) (by decide) (by decide) (by omega)]; exact ei.symm
        refine r_text (D := 134) S3 (by omega) e851 T3 kk.2 (fun _ h4 B4 => ⟨rfl, ?_⟩) (fun z => absurd rfl z)
        obtain ⟨d1, d2, d3, d4, d5, d6, d7, d8⟩ := B4
        have eu : i = (u : Int) := by omega
        -- the last heap
        have F : ∀ o, o ≠ 84 → o ≠ 85 → o ≠ 87 → o ≠ 89 → (hup (hup (hup (hup h4 84 5 0) 84 6 (-1)) 84 4 0) 85 1 (i + 1)) o = h3 o := fun o a b c d => by
          rw [hup_o b, hup_o a, hup_o a, hup_o a]
          exact d1.1 o a c d
        have F85 : (hup (hup (hup (hup h4 84 5 0) 84 6 (-1)) 84 4 0) 85 1 (i + 1)) 85 = aset (h 85) 1 (i + 1) := by
          rw [hup_s, hup_o (by decide), hup_o (by decide), hup_o (by decide), d1.1 85 (by decide) (by decide) (by decide), h3o 85 (by decide) (by decide) (by decide) (by omega)]
        have F87 : (hup (hup (hup (hup h4 84 5 0) 84 6 (-1)) 84 4 0) 85 1 (i + 1)) 87 = h4 87 := by
          rw [hup_o (by decide), hup_o (by decide), hup_o (by decide), hup_o (by decide)]
        have F844 : (hup (hup (hup (hup h4 84 5 0) 84 6 (-1)) 84 4 0) 85 1 (i + 1)) 84 4 = 0 := by rw [hup_o (by decide), hup_eq]
        have F845 : (hup (hup (hup (hup h4 84 5 0) 84 6 (-1)) 84 4 0) 85 1 (i + 1)) 84 5 = 0 := by rw [hup_o (by decide), hup_nj (by decide), hup_nj (by decide), hup_eq]
        have F846 : (hup (hup (hup (hup h4 84 5 0) 84 6 (-1)) 84 4 0) 85 1 (i + 1)) 84 6 = -1 := by rw [hup_o (by decide), hup_nj (by decide), hup_eq]
        generalize hup (hup (hup (hup h4 84 5 0) 84 6 (-1)) 84 4 0) 85 1 (i + 1) = h6 at *
        have g06 : h3 0 6 = 0 ∧ h3 0 7 = 0 ∧ h3 0 8 = -1 := by
          subst e3
          rw [hup_o (by decide), hup_nj (by decide), hup_nj (by decide), hup_eq, hup_nj (by decide), hup_eq, hup_eq]
          exact ⟨rfl, rfl, rfl⟩
        have g2 : ∀ j, j ≠ 4 → h3 2 j = h 2 j := fun j a => by
          subst e3
          rw [hup_nj a, hup_o (by decide), hup_o (by decide), hup_o (by decide), h1o 2 (by decide) (by omega)]
        have g24 : h3 2 4 = i + 1 := by subst e3; rw [hup_eq]
        refine ⟨?_, ?_, ⟨⟨?_, ?_⟩, ?_, ?_, ?_⟩, ?_, ?_, fun v s => if v = i then lwO E' s else L v s, ?_⟩
        · rw [F85]
          refine (i1.tx (fun o a b => ?_) (fun j a => ?_) ?_ (fun j a => aset_ne a) aset_eq ⟨by omega, by omega⟩).le (by omega)
          · rw [F o (by omega) (by omega) (by omega) (by omega)]; exact h3o o (by omega) (by omega) (by omega) (by omega)
          · rw [F 2 (by decide) (by decide) (by decide) (by decide)]; exact g2 j a
          · rw [F 2 (by decide) (by decide) (by decide) (by decide)]; exact g24
        · have f86 : h6 86 = h 86 := by rw [F 86 (by decide) (by decide) (by decide) (by decide)]; exact h3o 86 (by decide) (by decide) (by decide) (by omega)
          rw [f86]
          exact (i2.fr (fun o a b => by rw [F o (by omega) (by omega) (by omega) (by omega)]; exact h3o o (by omega) (by omega) (by omega) (by omega))).le (by omega)
        · rw [F 0 (by decide) (by decide) (by decide) (by decide), F844]; exact g06.1
        · rw [F844]; decide
        · rw [F 0 (by decide) (by decide) (by decide) (by decide), F845]; exact g06.2.1
        · rw [F 0 (by decide) (by decide) (by decide) (by decide), F846]; exact g06.2.2
        · intro j a b
          rw [F844] at b
          omega
        · rw [F 1 (by decide) (by decide) (by decide) (by decide), h3o 1 (by decide) (by decide) (by decide) (by omega)]; exact i4
        · rw [F85, aset_eq, F 86 (by decide) (by decide) (by decide) (by decide), h3o 86 (by decide) (by decide) (by decide) (by omega)]
          omega
        · rw [F85, aset_eq]
          intro v v4 vm
          show TxtOK h6 (52 + 6 * v) v (fun s => if (v : Int) = i then lwO E' s else L v s)
          by_cases z : (v : Int) = i
          · have ev : v = u := by omega
            have el : (fun s => if (v : Int) = i then lwO E' s else L v s) = lwO E' := by
              funext s
              rw [if_pos z]
            rw [el, ev]
            have hO : ∀ o, 52 + 6 * u ≤ o → o ≤ 52 + 6 * u + 5 → h6 o = h1 o := fun o a b => by
              rw [F o (by omega) (by omega) (by omega) (by omega)]
              exact o3 o (by omega) (by omega)
            have l1 := S.1
            refine txt_new (cd := G 80) (vl := G 82) hT (by omega) ?_ ?_ b7 (by omega) (by omega) ?_ ?_ (T.eg (fun e he => absurd he (by simp))) (fun s s0 s3 nn => ?_)
            · rw [hO (52 + 6 * u) (by omega) (by omega)]; exact b3.1
            · rw [F87, ← eu]; exact d4
            · exact rwC_fr (h := h1) (by decide) (by decide) (fun j _ _ => by rw [hO (52 + 6 * u + 1) (by omega) (by omega)]) (fun s _ _ => by rw [hO (52 + 6 * u + 4) (by omega) (by omega), hO (52 + 6 * u + 5) (by omega) (by omega)]; exact ⟨rfl, rfl⟩) (fun j _ _ => by rw [hO (52 + 6 * u + 2) (by omega) (by omega), hO (52 + 6 * u + 3) (by omega) (by omega)]; exact ⟨rfl, rfl⟩) b4
            · rw [← eu]
              exact rwR_fr (h := h4) (by decide) (by decide) (fun j _ _ => by rw [F87]) (fun j _ _ => by rw [F87]) d5
            · rw [hO (52 + 6 * u + 4) (by omega) (by omega)]
              exact b5 s s0 s3 nn
          · have el : (fun s => if (v : Int) = i then lwO E' s else L v s) = L v := by
              funext s
              rw [if_neg z]
            rw [el]
            refine (iL v v4 (by omega)).fr2 (fun o a b => ?_) (fun j a b => ?_)
            · rw [F o (by omega) (by omega) (by omega) (by omega)]
              exact h3o o (by omega) (by omega) (by omega) (by omega)
            · rw [F87, d1.2.1 j (by omega), h3o 87 (by decide) (by decide) (by decide) (by omega)]
      have x6 : (hup h1 0 6 0) 79 6 = 0 := by rw [hup_o (by decide)]; exact b2.2.2.1
      have x7 : (hup (hup h1 0 6 0) 0 7 0) 79 7 = -1 := by rw [hup_o (by decide), hup_o (by decide)]; exact b2.2.2.2
      have N2 : ∀ f p : Int, f = 0 → p = -1 → Runs 150 116 70 [vA 0, vI i] [] (hup (hup (hup h1 0 6 0) 0 7 f) 0 8 p) (fun r h1 => ∃ z, r = vI z ∧ Runs 150 221 0 [vA 84] [] h1 (fun r2 h2 => r2 = vI z ∧ Inv (n + 1) h2)) := by
        intro f p ef ep
        rw [ef, ep]
        refine Runs.go 30 [] ?_
        refine br.t ?_ ⟨by omega, ⟨i, rfl, R _ rfl⟩⟩
        show (hup (hup (hup h1 0 6 0) 0 7 0) 0 8 (-1)) 0 7 = 0
        rw [hup_nj (by decide), hup_eq]
      refine Runs.go 40 [70] ?_
      refine N2 _ _ x6 ?_
      show (hup (hup h1 0 6 0) 0 7 ((hup h1 0 6 0) 79 6)) 79 7 = -1
      rw [x6]
      exact x7
    · -- a fault
      obtain ⟨b1, b2, b3⟩ := bd
      have ga : h1 80 = G 80 ∧ h1 81 = G 81 ∧ h1 82 = G 82 := ⟨b1 80 (by decide) (by omega), b1 81 (by decide) (by omega), b1 82 (by decide) (by omega)⟩
      have h1o : ∀ o, ¬ (79 ≤ o ∧ o ≤ 82) → ¬ (52 + 6 * u ≤ o ∧ o ≤ 52 + 6 * u + 5) → h1 o = h o := fun o a b => (b1 o (by omega) b).trans (gG o a b)
      have R : ∀ h3 : Hp, h3 = hup (hup (hup h1 0 6 0) 0 7 f) 0 8 (G 81 kf) → Runs 150 221 0 [vA 84] [] h3 (fun r2 h2 => r2 = vI (-1) ∧ Inv (n + 1) h2) := by
        intro h3 e3
        have o3 : ∀ o, o ≠ 0 → h3 o = h1 o := fun o a => by subst e3; rw [hup_o a, hup_o a, hup_o a]
        have c80 : h3 80 = G 80 := by rw [o3 80 (by decide)]; exact ga.1
        have c81 : h3 81 = G 81 := by rw [o3 81 (by decide)]; exact ga.2.1
        have c82 : h3 82 = G 82 := by rw [o3 82 (by decide)]; exact ga.2.2
        have c84 : h3 84 = G 84 := by rw [o3 84 (by decide)]; exact b1 84 (by decide) (by omega)
        have c88 : h3 88 = G 88 := by rw [o3 88 (by decide)]; exact b1 88 (by decide) (by omega)
        have S3 : tS h3 N en := by
          unfold tS at *
          rw [c80, c81, c82, c84, c88]
          exact S
        have T3 : Tr (h3 80) (h3 82) 0 [] f kf E' := by rw [c80, c82]; exact T
        have h3o : ∀ o, o ≠ 0 → ¬ (79 ≤ o ∧ o ≤ 82) → ¬ (52 + 6 * u ≤ o ∧ o ≤ 52 + 6 * u + 5) → h3 o = h o := fun o a c d => (o3 o a).trans (h1o o c d)
        have e851 : h3 85 1 = i := by rw [h3o 85 (by decide) (by decide) (by omega)]; exact ei.symm
        refine r_text (D := 134) S3 (by omega) e851 T3 kk.2 (fun z => absurd z f0) (fun _ h4 d1 => ⟨rfl, ?_⟩)
        have eu : i = (u : Int) := by omega
        rw [c81]
        have F : ∀ o, o ≠ 84 → o ≠ 87 → o ≠ 89 → (hup (hup (hup h4 84 5 f) 84 6 (G 81 kf)) 84 4 0) o = h3 o := fun o a c d => by
          rw [hup_o a, hup_o a, hup_o a]
          exact d1.1 o a c d
        have F87 : (hup (hup (hup h4 84 5 f) 84 6 (G 81 kf)) 84 4 0) 87 = h4 87 := by
          rw [hup_o (by decide), hup_o (by decide), hup_o (by decide)]
        have F844 : (hup (hup (hup h4 84 5 f) 84 6 (G 81 kf)) 84 4 0) 84 4 = 0 := hup_eq
        have F845 : (hup (hup (hup h4 84 5 f) 84 6 (G 81 kf)) 84 4 0) 84 5 = f := by rw [hup_nj (by decide), hup_nj (by decide), hup_eq]
        have F846 : (hup (hup (hup h4 84 5 f) 84 6 (G 81 kf)) 84 4 0) 84 6 = G 81 kf := by rw [hup_nj (by decide), hup_eq]
        generalize hup (hup (hup h4 84 5 f) 84 6 (G 81 kf)) 84 4 0 = h6 at *
        have g06 : h3 0 6 = 0 ∧ h3 0 7 = f ∧ h3 0 8 = G 81 kf := by
          subst e3
          rw [hup_nj (by decide), hup_nj (by decide), hup_eq, hup_nj (by decide), hup_eq, hup_eq]
          exact ⟨rfl, rfl, rfl⟩
        have f85 : h6 85 = h 85 := by rw [F 85 (by decide) (by decide) (by decide)]; exact h3o 85 (by decide) (by decide) (by omega)
        have f86 : h6 86 = h 86 := by rw [F 86 (by decide) (by decide) (by decide)]; exact h3o 86 (by decide) (by decide) (by omega)
        refine ⟨?_, ?_, ⟨⟨?_, ?_⟩, ?_, ?_, ?_⟩, ?_, ?_, L, ?_⟩
        · rw [f85]
          exact (i1.fr (fun o a b => by rw [F o (by omega) (by omega) (by omega)]; exact h3o o (by omega) (by omega) (by omega))).le (by omega)
        · rw [f86]
          exact (i2.fr (fun o a b => by rw [F o (by omega) (by omega) (by omega)]; exact h3o o (by omega) (by omega) (by omega))).le (by omega)
        · rw [F 0 (by decide) (by decide) (by decide), F844]; exact g06.1
        · rw [F844]; decide
        · rw [F 0 (by decide) (by decide) (by decide), F845]; exact g06.2.1
        · rw [F 0 (by decide) (by decide) (by decide), F846]; exact g06.2.2
        · intro j a b
          rw [F844] at b
          omega
        · rw [F 1 (by decide) (by decide) (by decide), h3o 1 (by decide) (by decide) (by omega)]; exact i4
        · rw [f85, f86]; exact i5
        · rw [f85]
          intro v v4 vm
          refine (iL v v4 vm).fr2 (fun o a b => ?_) (fun j a b => ?_)
          · rw [F o (by omega) (by omega) (by omega)]
            exact h3o o (by omega) (by omega) (by omega)
          · rw [F87, d1.2.1 j (by omega), h3o 87 (by decide) (by decide) (by omega)]
      have x6 : (hup h1 0 6 0) 79 6 = f := by rw [hup_o (by decide)]; exact b2
      have x7 : (hup (hup h1 0 6 0) 0 7 f) 79 7 = G 81 kf := by rw [hup_o (by decide), hup_o (by decide)]; exact b3
      have N2 : ∀ f' p : Int, f' = f → p = G 81 kf → Runs 150 116 70 [vA 0, vI i] [] (hup (hup (hup h1 0 6 0) 0 7 f') 0 8 p) (fun r h1 => ∃ z, r = vI z ∧ Runs 150 221 0 [vA 84] [] h1 (fun r2 h2 => r2 = vI z ∧ Inv (n + 1) h2)) := by
        intro f' p ef ep
        rw [ef, ep]
        refine Runs.go 30 [] ?_
        refine br.f (fun z => f0 ?_) ⟨-1, rfl, R _ rfl⟩
        have z' : (hup (hup (hup h1 0 6 0) 0 7 f) 0 8 (G 81 kf)) 0 7 = 0 := z
        rw [hup_nj (by decide), hup_eq] at z'
        exact z'
      refine Runs.go 40 [70] ?_
      refine N2 _ _ x6 ?_
      show (hup (hup h1 0 6 0) 0 7 ((hup h1 0 6 0) 79 6)) 79 7 = G 81 kf
      rw [x6]
      exact x7
  -- up to the reading
  have K2 : ∀ (i l : Int), i = h 85 1 → l = h 84 4 → Runs 150 116 39 [vA 0, vI i] [vI i, vA 51, vI l, vA 83, vA 79] h (fun r h1 => ∃ z, r = vI z ∧ Runs 150 221 0 [vA 84] [] h1 (fun r2 h2 => r2 = vI z ∧ Inv (n + 1) h2)) := by
    intro i l ei el
    have Ki := K i ei
    rw [el]
    have ci : (u = 0 ∧ i = 0) ∨ (u = 1 ∧ i = 1) ∨ (u = 2 ∧ i = 2) ∨ (u = 3 ∧ i = 3) := by omega
    clear K
    rcases ci with ⟨a, b⟩ | ⟨a, b⟩ | ⟨a, b⟩ | ⟨a, b⟩ <;> subst a b
    all_goals (
      refine Runs.go 10 [43] ?_
      exact ⟨by decide, Ki⟩)
  refine Runs.go 40 [39] ?_
  refine sp_between ?_
  refine br.t (fun z => ?_) ?_
  · have z' := b2i_z z
    have z2 : ¬ (0 ≤ h 2 4 ∧ h 2 4 ≤ 3) := z'
    omega
  · exact K2 _ _ e24 tp1.1
