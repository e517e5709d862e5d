/-! TEXTS: the reference reads a text -/
section RH
variable {h : Hp} {Q : aPO} {D : Nat} {G : Hp} {N k t : Int} {en : Int → Int} {E : List cE}
theorem r_c65 {g : Hp} (S : tS G N en) (t4 : 0 ≤ t ∧ t < 4) (hk : 0 ≤ k ∧ k < N) (n24 : E.length < 24) (c12 : 0 ≤ G 80 k ∧ G 80 k ≤ 12) (b : rBd t G en g k) (e12 : g 84 12 = 705 * t) (w : rW t g (cRl E)) (eN : g 87 (705 * t) = E.length) (r : rwR g t 0 0 E) (on : onc (g 84 19) (fun s => srt E s ∨ s = G 80 k)) (ll : lR E ≤ k)
    (q : (∃ e k1, ClS (G 80) (G 82) k E e k1 ∧ k1 < N ∧ ∀ h1, tR t G en h1 k1 (E ++ [e]) → Q (vI 0) h1) ∨ (∃ f kf, ClF (G 80) (G 82) k E f kf ∧ (G 80 k ≤ 2 → ¬ srt E (G 80 k)) ∧ kf < N ∧ ∀ h1, rBd t G en h1 kf → Q (vI f) h1)) : Runs (D + 14) 219 65 [vA 84, vI (G 80 k), vI E.length, none, none] [] g Q := by
  have l1 := S.1
  have lr := lR_0 (E := E)
  have kn := S.tkn.nxt hk (by omega)
  -- sort0
  have b0 : rBd t G en (hup g 84 14 (G 80 k)) k := by
    refine ⟨fun q x y z => by rw [hup_o x]; exact b.1 q x y z, fun j e => by rw [hup_o (by decide)]; exact b.2.1 j e, fun j e => by rw [hup_nj (by omega)]; exact b.2.2.1 j e, b.2.2.2.cg (fun j x y => by rw [hup_nj (by omega)])⟩
  have T : ∀ (f : Int) (k2 : Int) (g1 : Hp), f ≠ 0 → rBd t G en g1 k2 → (∀ h1, rBd t G en h1 k2 → Q (vI f) h1) → Runs (D + 14) 219 98 [vA 84, vI (G 80 k), vI E.length, vI (705 * t + 1 + 4 * E.length), none] [vI f] g1 Q := by
    intro f k2 g1 f0 b1 hq
    refine Runs.go 20 [] ?_
    exact br.f f0 (hq g1 b1)
  have M : ∀ g3 : Hp, rBd t G en g3 (k + 1) → g3 84 12 = 705 * t → g3 84 14 = G 80 k → g3 84 19 = g 84 19 → rW t g3 (cRl E) → g3 87 (705 * t) = E.length → rwR g3 t 0 0 E → g3 87 (705 * t + 1 + 4 * E.length) = G 80 k → Runs (D + 13) 216 0 [vA 84, vI (G 80 k), vI (705 * t + 1 + 4 * E.length)] [] g3 (fun r h2 => Runs (D + 14) 219 98 [vA 84, vI (G 80 k), vI E.length, vI (705 * t + 1 + 4 * E.length), none] (pushR r []) h2 Q) := by
    intro g3 b3 p12 p14 p19 w3 n3 r3 x3
    have e88 : g3 88 = G 88 := b3.1 88 (by decide) (by decide) (by decide)
    have e4 : g3 84 4 = G 84 4 := b3.2.2.1 4 (by decide)
    by_cases c3 : 3 ≤ G 80 k
    · -- an order
      refine r_order (D := D + 8) ⟨c3, c12.2⟩ S (by omega) e88 e4 b3.2.2.2 (by omega) (fun k2 rr kl kh g1 o1 => ?_) (fun f kf g1 f0 rr kl mm => ?_)
      · obtain ⟨⟨u1, u2, u3⟩, kk, o4⟩ := o1
        have bb : rBd t G en g1 k2 := ⟨fun q x y z => (u1 q x y).trans (b3.1 q x y z), fun j e => (u3 j (by omega)).trans (b3.2.1 j e), fun j e => (u2 j (by omega)).trans (b3.2.2.1 j e), kk⟩
        have ce : ∀ e : cE, e = (G 80 k, oPar (G 82) (k + 1), eX) → ∀ Q' : Prop, ((rW t g1 (cRl E ++ e.2.2.2.1) ∧ rwR g1 t 0 0 E ∧ rwR g1 t E.length (lR E) [e] ∧ onc (g1 84 19) (srt (E ++ [e])) ∧ lR E + e.2.2.2.1.length ≤ k2) → Q') → Q' := by
          intro e ee Q' hq
          subst ee
          refine hq ⟨?_, ?_, ⟨⟨⟨?_, fun j j1 j2 => ?_⟩, fun z => by have z' : G 80 k ≤ 2 := z; omega, trivial⟩, trivial⟩, ?_, ?_⟩
          · show rW t g1 (cRl E ++ [])
            rw [List.append_nil]
            exact ⟨by rw [u2 13 (by omega)]; exact w3.1, plR_fr _ 0 (fun j x y => u3 j (by omega)) w3.2⟩
          · exact rwR_fr (h := g3) (by decide) (by decide) (fun j x y => u3 j (by omega)) (fun j x y => u3 j (by omega)) r3
          · rw [u3 _ (by omega)]; exact x3
          · exact o4 j j1 j2
          · rw [u2 19 (by omega), p19]
            refine ⟨on.1, fun s s0 s3 => ?_⟩
            rw [srt_app]
            exact on.2 s s0 s3
          · show lR E + ((0 : Nat) : Int) ≤ k2
            omega
        refine ce _ rfl _ (fun F => ?_)
        refine Runs.go 20 [108] ?_
        refine br.t rfl ?_
        refine r_ctail (D := D + 12) (e := (G 80 k, oPar (G 82) (k + 1), eX)) S t4 (by omega) n24 bb ((u2 12 (by omega)).trans p12) F.1 ((u3 _ (by omega)).trans n3) F.2.1 F.2.2.1 F.2.2.2.1 F.2.2.2.2 (fun e45 kq h1 B1 => ?_) (fun e45 h1 B1 => ?_)
        · rcases q with ⟨e, k1, cs, kl1, q⟩ | ⟨f, kf, cf, ns, kl1, q⟩
          · rcases cs.2 with ⟨-, z, -⟩ | ⟨-, -, k3, r3, -, e3, ek, ee⟩
            · omega
            · rw [rr] at r3
              have e3' : k2 = k3 := (Prod.mk.inj r3).2
              subst ee ek e3'
              exact q h1 B1
          · exfalso
            rcases cf with z | z | z | z | z | ⟨-, -, -, f0, z⟩ | ⟨-, -, -, z, z2, -⟩
            · omega
            · exact ns z.2.1 z.2.2.1
            · omega
            · omega
            · omega
            · rw [rr] at z
              exact f0 (Prod.mk.inj z).1.symm
            · rw [rr] at z
              exact z2 ((Prod.mk.inj z).2 ▸ e45)
        · rcases q with ⟨e, k1, cs, kl1, q⟩ | ⟨f, kf, cf, ns, kl1, q⟩
          · exfalso
            rcases cs.2 with ⟨-, z, -⟩ | ⟨-, -, k3, r3, -, e3, ek, ee⟩
            · omega
            · rw [rr] at r3
              have e3' : k2 = k3 := (Prod.mk.inj r3).2
              subst e3'
              exact e45 e3
          · rcases cf with z | z | z | z | z | ⟨-, -, -, f0, z⟩ | ⟨-, -, -, z, z2, z3⟩
            · omega
            · exact absurd z.2.2.1 (ns z.2.1)
            · omega
            · omega
            · omega
            · rw [rr] at z
              exact absurd (Prod.mk.inj z).1.symm f0
            · rw [rr] at z
              have e3' : k2 = kf := (Prod.mk.inj z).2
              subst e3' z3
              exact q h1 B1
      · obtain ⟨m, ⟨u1, u2, u3⟩, kk, o4⟩ := mm
        have bb : rBd t G en g1 kf := ⟨fun q x y z => (u1 q x y).trans (b3.1 q x y z), fun j e => (u3 j (by omega)).trans (b3.2.1 j e), fun j e => (u2 j (by omega)).trans (b3.2.2.1 j e), kk⟩
        refine T f kf g1 f0 bb ?_
        rcases q with ⟨e, k1, cs, kl1, q⟩ | ⟨f', kf', cf, ns, kl1, q⟩
        · exfalso
          rcases cs.2 with ⟨-, z, -⟩ | ⟨-, -, k3, r3, -, e3, ek, ee⟩
          · omega
          · rw [rr] at r3
            exact f0 (Prod.mk.inj r3).1
        · rcases cf with z | z | z | z | z | ⟨-, -, -, f0', z⟩ | ⟨-, -, -, z, z2, z3⟩
          · omega
          · exact absurd z.2.2.1 (ns z.2.1)
          · omega
          · omega
          · omega
          · rw [rr] at z
            have e1 : f = f' := (Prod.mk.inj z).1
            have e2 : kf = kf' := (Prod.mk.inj z).2
            subst e1 e2
            exact q
          · rw [rr] at z
            exact absurd (Prod.mk.inj z).1 f0
    · -- a law
      have c2 : G 80 k ≤ 2 := by omega
      refine Runs.go 40 [] ?_
      refine br.f (by omega) (br.f (by omega) (br.f (by omega) (br.f (by omega) (br.f (by omega) (br.f (by omega) (br.f (by omega) (br.f (by omega) (br.f (by omega) (br.f (by omega) ?_)))))))))
      refine r_lawClause (D := D + 2) S t4 (by omega) n24 b3 p12 p14 w3 (by omega) ?_
      -- behind the sum
      have OK : ∀ (k2 : Int) (x : dX) (g1 : Hp), Der (G 80) (G 82) (G 80 k) 2 0 (k + 1) k2 x → k2 < N → rBd t G en g1 k2 → (∀ j, (j = 12 ∨ j = 14 ∨ j = 19) → g1 84 j = g3 84 j) → rW t g1 (cRl E ++ x.2.1) → (∀ j, 705 * t ≤ j → j < 705 * t + 97 → j ≠ 705 * t + 1 + 4 * E.length + 1 → j ≠ 705 * t + 1 + 4 * E.length + 2 → g1 87 j = g3 87 j) → g1 87 (705 * t + 1 + 4 * E.length + 1) = lR E → g1 87 (705 * t + 1 + 4 * E.length + 2) = lR E + x.2.1.length → (G 80 k2 = 45 → k2 + 1 < N → ∀ h1, tR t G en h1 (k2 + 1) (E ++ [(G 80 k, fun _ => 0, x)]) → Q (vI 0) h1) → (G 80 k2 ≠ 45 → ∀ h1, rBd t G en h1 k2 → Q (vI 1) h1) → Runs (D + 14) 219 98 [vA 84, vI (G 80 k), vI E.length, vI (705 * t + 1 + 4 * E.length), none] [vI 0] g1 Q := by
        intro k2 x g1 d kl bb v1 ww v2 v3 v4 p1 p2
        have dl := Der_len d
        obtain ⟨wa, wb⟩ := (plR_app (cRl E) x.2.1 0).mp ww.2
        refine Runs.go 20 [108] ?_
        refine br.t rfl ?_
        refine r_ctail (D := D + 12) (e := (G 80 k, fun _ => 0, x)) S t4 (by omega) n24 bb ((v1 12 (by omega)).trans p12) ww ((v2 _ (by omega) (by omega) (by omega) (by omega)).trans n3) ?_ ⟨⟨⟨?_, fun j j1 j2 => ?_⟩, fun _ => ⟨v3, v4⟩, ?_⟩, trivial⟩ ?_ ?_ p1 p2
        · -- rows before
          have R : ∀ (F : List cE) (i bb : Int), 0 ≤ i → 0 ≤ bb → i + F.length ≤ E.length → plR g1 (705 * t + 97) bb (cRl F) → rwR g3 t i bb F → rwR g1 t i bb F := by
            intro F
            induction F with
            | nil => intro i bb _ _ _ _ _; trivial
            | cons a F ih =>
              intro i bb i0 b0 hl hp p
              have l : ((a :: F).length : Int) = F.length + 1 := by simp
              have pr := parts_r (s := a.1)
              obtain ⟨hp1, hp2⟩ := (plR_app a.2.2.2.1 (cRl F) bb).mp hp
              obtain ⟨⟨⟨q1, q2⟩, q3, q4⟩, q5⟩ := p
              refine ⟨⟨⟨by rw [v2 _ (by omega) (by omega) (by omega) (by omega)]; exact q1, fun j j1 j2 => by rw [v2 _ (by omega) (by omega) (by omega) (by omega)]; exact q2 j j1 j2⟩, fun z => ?_, hp1⟩, ih (i + 1) _ (by omega) (by omega) (by omega) hp2 q5⟩
              rw [v2 _ (by omega) (by omega) (by omega) (by omega), v2 _ (by omega) (by omega) (by omega) (by omega)]
              exact q3 z
          exact R E 0 0 (by decide) (by decide) (by omega) wa r3
        · rw [v2 _ (by omega) (by omega) (by omega) (by omega)]; exact x3
        · have : parts (G 80 k) = 0 := by unfold parts; rw [if_pos c2]
          have j2' : j ≤ parts (G 80 k) := j2
          omega
        · rw [Int.zero_add, cRl_len] at wb
          exact wb
        · rw [v1 19 (by omega), p19]
          refine ⟨on.1, fun s s0 s3 => ?_⟩
          rw [srt_app]
          exact on.2 s s0 s3
        · show lR E + (x.2.1.length : Int) ≤ k2
          omega
      rcases q with ⟨e, k1, cs, kl1, q⟩ | ⟨f, kf, cf, ns, kl1, q⟩
      · rcases cs.2 with ⟨-, -, -, k2, x, d, cp, e45, ek, ee⟩ | ⟨z, -⟩
        · subst ek ee
          refine Or.inl ⟨k2, x, d, cp, by omega, fun g1 bb v1 ww v2 v3 v4 => ?_⟩
          exact OK k2 x g1 d (by omega) bb v1 ww v2 v3 v4 (fun _ _ h1 B1 => q h1 B1) (fun z => absurd e45 z)
        · exact absurd z c3
      · rcases cf with z | z | z | ⟨-, -, -, -, z⟩ | ⟨-, -, -, -, x, d, cp, e45, z⟩ | z | z
        · omega
        · exact absurd z.2.2.1 (ns z.2.1)
        · omega
        · refine Or.inr ⟨f, kf, z, kl1, fun g1 bb => ?_⟩
          have f0 : f ≠ 0 := by
            intro e0
            have := z (fun _ _ _ f _ => f ≠ 0) ⟨fun o k f h => by rcases h with h | h | h | h <;> omega, fun o k f kf _ _ y => y, fun _ _ _ _ _ _ _ _ _ => (show (1 : Int) ≠ 0 by decide), fun _ _ _ _ _ _ _ _ _ _ y => y, fun _ _ _ _ _ _ _ _ _ _ y => y, fun _ _ _ _ _ _ _ _ _ _ _ _ _ => (show (1 : Int) ≠ 0 by decide), fun _ _ _ _ _ _ _ _ _ _ _ _ _ _ y => y, fun _ _ _ _ _ _ _ _ _ _ _ _ _ _ _ _ _ => (show (1 : Int) ≠ 0 by decide), fun _ _ _ _ _ _ y => y, fun _ _ _ _ _ _ _ _ _ y => y, fun _ _ _ _ => (show (3 : Int) ≠ 0 by decide), fun _ _ _ _ _ _ y => y, fun _ _ _ _ _ y => y, fun _ _ _ _ _ _ _ _ => (show (1 : Int) ≠ 0 by decide), fun _ _ _ _ _ _ _ _ _ _ y => y⟩
            exact this e0
          exact T f kf g1 f0 bb q
        · subst z
          refine Or.inl ⟨kf, x, d, cp, kl1, fun g1 bb v1 ww v2 v3 v4 => ?_⟩
          exact OK kf x g1 d kl1 bb v1 ww v2 v3 v4 (fun z => absurd z e45) (fun _ h1 B1 => q h1 B1)
        · omega
        · omega
  refine Runs.go 60 [98] ?_
  refine r_advB (D := D + 12) S hk (by omega) b0 (fun g2 u b2 => ?_)
  have u87' : g2 87 = g 87 := by rw [u.1 87 (by decide), hup_o (by decide)]
  have y12 : g2 84 12 = 705 * t := by rw [u.2 12 (by omega), hup_nj (by decide)]; exact e12
  have ex : g2 84 12 + 1 + 4 * (E.length : Int) = 705 * t + 1 + 4 * E.length := by rw [y12]
  refine ⟨show -2147483648 ≤ g2 84 12 + 1 ∧ g2 84 12 + 1 < 2147483648 by omega, ⟨by omega, ⟨show -2147483648 ≤ g2 84 12 + 1 + 4 * (E.length : Int) ∧ g2 84 12 + 1 + 4 * (E.length : Int) < 2147483648 by omega, ?_⟩⟩⟩
  rw [ex]
  refine ⟨⟨by omega, show 705 * t + 1 + 4 * (E.length : Int) < (2820 : Int) by omega⟩, ?_⟩
  refine M (hup g2 87 (705 * t + 1 + 4 * E.length) (G 80 k)) ⟨fun q x y z => ?_, fun j e => ?_, fun j e => ?_, ?_⟩ ?_ ?_ ?_ ⟨?_, ?_⟩ ?_ ?_ hup_eq
  · rw [hup_o y]; exact b2.1 q x y z
  · rw [hup_nj (by omega)]; exact b2.2.1 j e
  · rw [hup_o (by decide)]; exact b2.2.2.1 j e
  · have := b2.2.2.2
    unfold rK at *
    rw [hup_o (by decide)]
    exact this
  · rw [hup_o (by decide)]; exact y12
  · rw [hup_o (by decide), u.2 14 (by omega), hup_eq]
  · rw [hup_o (by decide), u.2 19 (by omega), hup_nj (by decide)]
  · rw [hup_o (by decide), u.2 13 (by omega), hup_nj (by decide)]; exact w.1
  · exact plR_fr _ 0 (fun j x y => by rw [hup_nj (by omega), u87']) w.2
  · rw [hup_nj (by omega), u87']; exact eN
  · exact rwR_fr (h := g) (by decide) (by decide) (fun j x y => by rw [hup_nj (by omega), u87']) (fun j x y => by rw [hup_nj (by omega), u87']) r
end RH
