/-! TEXTS: the reference reads a text, clause by clause -/
section RI
variable {h : Hp} {Q : aPO} {D : Nat} {G : Hp} {N k t : Int} {en : Int → Int} {E : List cE}
theorem r_clause (S : tS G N en) (t4 : 0 ≤ t ∧ t < 4) (B : tR t G en h k E) (hk : 0 ≤ k ∧ k < N) (n48 : G 80 k ≠ 48)
    (q : (∃ e k1, ClS (G 80) (G 82) k E e k1 ∧ k1 < N ∧ ∀ h1, tR t G en h1 k1 (E ++ [e]) → Q (vI 0) h1) ∨ (∃ f kf, ClF (G 80) (G 82) k E f kf ∧ kf < N ∧ ∀ h1, rBd t G en h1 kf → Q (vI f) h1)) : Runs (D + 14) 219 0 [vA 84, none, none, none, none] [] h Q := by
  obtain ⟨b, e12, w, eN, r, on, ll, l24⟩ := B
  have l1 := S.1
  have lr := lR_0 (E := E)
  have c0 := S.cd0 k hk.1 hk.2
  have e88 : h 88 = G 88 := b.1 88 (by decide) (by decide) (by decide)
  have e4 : h 84 4 = G 84 4 := b.2.2.1 4 (by decide)
  have K48 : G 80 k ≤ 12 → (G 80 k ≤ 2 → ¬ srt E (G 80 k)) → E.length < 24 → Runs (D + 14) 219 48 [vA 84, vI (G 80 k), vI E.length, none, none] [] h Q := by
    intro c12 ns n24
    have q' : (∃ e k1, ClS (G 80) (G 82) k E e k1 ∧ k1 < N ∧ ∀ h1, tR t G en h1 k1 (E ++ [e]) → Q (vI 0) h1) ∨ (∃ f kf, ClF (G 80) (G 82) k E f kf ∧ (G 80 k ≤ 2 → ¬ srt E (G 80 k)) ∧ kf < N ∧ ∀ h1, rBd t G en h1 kf → Q (vI f) h1) := by
      rcases q with q | ⟨f, kf, cf, kl, q⟩
      · exact Or.inl q
      · exact Or.inr ⟨f, kf, cf, ns, kl, q⟩
    refine Runs.go 30 [65] ?_
    refine br.i (fun z => ?_) (fun z => ?_)
    · have z' : 2 < G 80 k := z
      refine r_c65 S t4 hk n24 ⟨c0, c12⟩ b e12 w eN r ⟨on.1, fun s s0 s3 => ?_⟩ ll q'
      rw [on.2 s s0 s3]
      constructor
      · exact fun y => Or.inl y
      · rintro (y | y)
        · exact y
        · omega
    · have z' : ¬ 2 < G 80 k := z
      refine r_c65 S t4 hk n24 ⟨c0, c12⟩ ⟨fun q x y z => by rw [hup_o x]; exact b.1 q x y z, fun j e => by rw [hup_o (by decide)]; exact b.2.1 j e, fun j e => by rw [hup_nj (by omega)]; exact b.2.2.1 j e, b.2.2.2.cg (fun j x y => by rw [hup_nj (by omega)])⟩ ?_ ⟨?_, ?_⟩ ?_ ?_ ?_ ll q'
      · rw [hup_nj (by decide)]; exact e12
      · rw [hup_nj (by decide)]; exact w.1
      · exact plR_fr _ 0 (fun j _ _ => by rw [hup_o (by decide)]) w.2
      · rw [hup_o (by decide)]; exact eN
      · exact rwR_fr (h := h) (by decide) (by decide) (fun j _ _ => by rw [hup_o (by decide)]) (fun j _ _ => by rw [hup_o (by decide)]) r
      · rw [hup_eq]
        exact on.add ⟨c0, by omega⟩ (fun s => Iff.rfl)
  have K29 : G 80 k ≤ 12 → (G 80 k ≤ 2 → ¬ srt E (G 80 k)) → Runs (D + 14) 219 29 [vA 84, vI (G 80 k), none, none, none] [] h Q := by
    intro c12 ns
    have M : ∀ n : Int, n = E.length → Runs (D + 14) 219 39 [vA 84, vI (G 80 k), vI n, none, none] [] h Q := by
      intro n en'
      rw [en']
      refine Runs.go 20 [48] ?_
      refine br.j (fun z => ?_) (fun z => ?_)
      · have z' : (E.length : Int) = 24 := Decidable.not_not.mp z
        rcases q with ⟨e, k1, cs, -⟩ | ⟨f, kf, cf, kl, q⟩
        · have := cs.1
          omega
        · rcases cf with y | y | ⟨-, -, -, -, y1, y2⟩ | y | y | y | y
          · omega
          · exact absurd y.2.2.1 (ns y.2.1)
          · subst y1 y2
            exact q h b
          · have := y.1
            omega
          · have := y.1
            omega
          · have := y.1
            omega
          · have := y.1
            omega
      · have z' : (E.length : Int) ≠ 24 := z
        exact K48 c12 ns (by omega)
    refine Runs.go 20 [39] ?_
    refine ⟨show 0 ≤ h 84 12 ∧ h 84 12 < (2820 : Int) by omega, ?_⟩
    exact M _ (by rw [e12]; exact eN)
  refine Runs.go 40 [29] ?_
  refine r_sortOf (D := D + 8) S hk e88 e4 b.2.2.2 ?_
  by_cases c12 : G 80 k ≤ 12
  · rw [if_pos ⟨c0, c12⟩]
    refine br.t (by omega) ?_
    refine br.i (fun z => K29 c12 (fun y => by have z' : 2 < G 80 k := z; omega)) (fun z => ?_)
    have z' : ¬ 2 < G 80 k := z
    refine r_has ?_
    have o := on.2 (G 80 k) c0 (by omega)
    refine br.i (fun y => K29 c12 (fun _ v => b2i_z y (o.mpr v))) (fun y => ?_)
    have sr : srt E (G 80 k) := o.mp (b2i_nz y)
    rcases q with ⟨e, k1, cs, -⟩ | ⟨f, kf, cf, kl, q⟩
    · exfalso
      rcases cs.2 with ⟨-, -, v, -⟩ | ⟨v, -⟩
      · exact v sr
      · omega
    · rcases cf with v | ⟨-, -, -, v1, v2⟩ | v | v | v | v | v
      · omega
      · subst v1 v2
        exact q h b
      · exact absurd sr (v.2.2.1 (by omega))
      · exact absurd sr v.2.2.2.1
      · exact absurd sr v.2.2.2.1
      · omega
      · omega
  · rw [if_neg (by omega)]
    refine br.f (by decide) ?_
    rcases q with ⟨e, k1, cs, -⟩ | ⟨f, kf, cf, kl, q⟩
    · exfalso
      rcases cs.2 with v | v <;> omega
    · rcases cf with ⟨-, -, v1, v2⟩ | v | v | v | v | v | v
      · subst v1 v2
        exact q h b
      · omega
      · omega
      · omega
      · omega
      · omega
      · omega
theorem oRun_le {cd vl : Int → Int} : ∀ {l : List (Int × Int × Int)} {k f kf : Int}, oRun cd vl l k = (f, kf) → k ≤ kf
  | [], k, f, kf, e => by
    have e' : (0, k) = (f, kf) := e
    have := (Prod.mk.inj e').2
    omega
  | a :: l, k, f, kf, e => by
    unfold oRun at e
    have hk : k ≤ (if 0 ≤ a.1 then k + 1 else k) := by split <;> omega
    generalize (if 0 ≤ a.1 then k + 1 else k) = k' at e hk
    by_cases z1 : 0 ≤ a.1 ∧ cd k ≠ a.1
    · rw [if_pos z1] at e
      have := (Prod.mk.inj e).2
      omega
    · rw [if_neg z1] at e
      by_cases z2 : cd k' ≠ 46
      · rw [if_pos z2] at e
        have := (Prod.mk.inj e).2
        omega
      · rw [if_neg z2] at e
        by_cases z3 : vl k' < a.2.1 ∨ a.2.2 < vl k'
        · rw [if_pos z3] at e
          have := (Prod.mk.inj e).2
          omega
        · rw [if_neg z3] at e
          have := oRun_le e
          omega
/-- all the clauses -/
theorem Tr_le {cd vl : Int → Int} {f kf : Int} {E' : List cE} (T : Tr cd vl k E f kf E') : k ≤ kf := by
  refine T (fun k E f kf E' => k ≤ kf) ⟨fun k E e => Int.le_refl _, fun k E f kf cf => ?_, fun k E e k1 f kf E' s kl t => by omega⟩
  rcases cf with z | z | z | z | z | z | z
  · omega
  · omega
  · omega
  · have := z.2.2.2.2 (fun _ _ k _ kf => k ≤ kf) ?_
    · omega
    · refine ⟨fun o k f h => Int.le_refl _, fun o k f kf _ _ y => by omega, fun o k k1 x _ _ d _ _ => by have := Der_len d; omega, fun o k k1 x f kf _ _ d _ y => by have := Der_len d; omega, fun o k k1 x f kf _ _ d _ y => by have := Der_len d; omega, fun o k k1 k2 b x _ _ d _ d2 _ _ => by have := Der_len d; have := Der_len d2; omega, fun o k k1 k2 b x f kf _ _ d _ d2 _ y => by have := Der_len d; have := Der_len d2; omega, fun o k k1 k2 k3 b x y _ _ d _ d2 _ d3 _ _ => by have := Der_len d; have := Der_len d2; have := Der_len d3; omega, fun y o k f kf _ z => z, fun y o k k1 x f kf _ d z => by have := Der_len d; omega, fun o k _ _ => Int.le_refl _, fun o k f kf _ _ z => by omega, fun o k f kf _ z => z, fun o k k1 x _ d _ _ => by have := Der_len d; omega, fun o k k1 x f kf _ d _ _ z => by have := Der_len d; omega⟩
  · obtain ⟨-, -, -, -, x, d, -⟩ := z
    have := Der_len d
    omega
  · have := oRun_le z.2.2.2.2
    omega
  · have := oRun_le z.2.2.2.1
    omega
theorem r_clauses (S : tS G N en) (t4 : 0 ≤ t ∧ t < 4) {f kf : Int} {E' : List cE} (T : Tr (G 80) (G 82) k E f kf E') : 0 ≤ k → kf < N → (f = 0 → ∀ h1, tR t G en h1 kf E' → Q (vI 0) h1) → (f ≠ 0 → ∀ h1, rBd t G en h1 kf → Q (vI f) h1) → ∀ (h : Hp) (u : AV), tR t G en h k E → Runs (D + 15) 220 43 [vA 84, u] [] h Q := by
  have T' := T (fun k E f kf E' => k ≤ kf ∧ (0 ≤ k → kf < N → (f = 0 → ∀ h1, tR t G en h1 kf E' → Q (vI 0) h1) → (f ≠ 0 → ∀ h1, rBd t G en h1 kf → Q (vI f) h1) → ∀ (h : Hp) (u : AV), tR t G en h k E → Runs (D + 15) 220 43 [vA 84, u] [] h Q)) ⟨?_, ?_, ?_⟩
  · exact T'.2
  · intro k E e
    refine ⟨Int.le_refl _, fun k0 kn q1 q2 h u B => ?_⟩
    have rt := B.1.2.2.2.2.2.1
    refine Runs.go 20 [] ?_
    exact br.t (show h 84 9 = 0 by omega) (q1 rfl h B)
  · intro k E f kf cf
    have kk := Tr_le (Tr.bad cf)
    refine ⟨kk, fun k0 kn q1 q2 h u B => ?_⟩
    have rt := B.1.2.2.2.2.2.1
    have n48 : G 80 k ≠ 48 := by
      rcases cf with z | z | z | z | z | z | z <;> omega
    have f0 : f ≠ 0 := by
      rcases cf with x | x | x | x | x | x | x
      · omega
      · omega
      · omega
      · intro e0
        have := x.2.2.2.2 (fun _ _ _ f _ => f ≠ 0) ⟨fun o k f h => by rcases h with h | h | h | h <;> omega, fun o k f kf _ _ y => y, fun _ _ _ _ _ _ _ _ _ => (show (1 : Int) ≠ 0 by decide), fun _ _ _ _ _ _ _ _ _ _ y => y, fun _ _ _ _ _ _ _ _ _ _ y => y, fun _ _ _ _ _ _ _ _ _ _ _ _ _ => (show (1 : Int) ≠ 0 by decide), fun _ _ _ _ _ _ _ _ _ _ _ _ _ _ y => y, fun _ _ _ _ _ _ _ _ _ _ _ _ _ _ _ _ _ => (show (1 : Int) ≠ 0 by decide), fun _ _ _ _ _ _ y => y, fun _ _ _ _ _ _ _ _ _ y => y, fun _ _ _ _ => (show (3 : Int) ≠ 0 by decide), fun _ _ _ _ _ _ y => y, fun _ _ _ _ _ y => y, fun _ _ _ _ _ _ _ _ => (show (1 : Int) ≠ 0 by decide), fun _ _ _ _ _ _ _ _ _ _ y => y⟩
        exact this e0
      · obtain ⟨-, -, -, -, -, -, -, -, e1⟩ := x
        omega
      · exact x.2.2.2.1
      · omega
    refine Runs.go 30 [] ?_
    refine br.f (show ¬ h 84 9 = 0 by omega) ?_
    refine r_clause (D := D) S t4 B (by omega) n48 (Or.inr ⟨f, kf, cf, kn, fun h1 b1 => ?_⟩)
    exact br.f f0 (q2 f0 h1 b1)
  · intro k E e k1 f kf E' cs kl X
    refine ⟨by omega, fun k0 kn q1 q2 h u B => ?_⟩
    have rt := B.1.2.2.2.2.2.1
    have n48 : G 80 k ≠ 48 := by
      rcases cs.2 with z | z <;> omega
    refine Runs.go 30 [43] ?_
    refine br.f (show ¬ h 84 9 = 0 by omega) ?_
    refine r_clause (D := D) S t4 B (by omega) n48 (Or.inl ⟨e, k1, cs, by omega, fun h1 b1 => ?_⟩)
    exact br.t rfl (X.2 (by omega) kn q1 q2 h1 _ b1)
end RI
