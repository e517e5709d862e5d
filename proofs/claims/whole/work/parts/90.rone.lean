/-! TEXTS: the reference's sums, state by state -/
section RO2
variable (D : Nat) (Q : aPO) (t law : Int) (G : Hp) (en : Int → Int)
/-- one is to begin; one is whole; one has just ended; a fault -/
def gB (k o : Int) (P : List Int) (W : List (Int × Int)) : Prop := ∀ h u, rS t G en h k o P W → h 84 18 = 0 → Runs (D + 9) 210 15 [vA 84, u] [] h Q
def gW (k o : Int) (P : List Int) (W : List (Int × Int)) : Prop := ∀ h u, rS t G en h k o P W → h 84 18 = 1 → Runs (D + 9) 210 15 [vA 84, u] [] h Q
def gE (u : AV) : aPO := fun r h => ∃ x, r = vI x ∧ Runs (D + 9) 210 33 [vA 84, u] [vI x] h Q
def gN (k o : Int) (P : List Int) (W : List (Int × Int)) : Prop := ∀ h u, rS t G en h k o P W → Runs (D + 6) 198 0 [vA 84, vI 7] [] h (fun r h2 => Runs (D + 7) 205 6 [vA 84] (pushR r []) h2 (gE D Q u))
def gF (f kf : Int) : Prop := ∀ h, rF t G h → rK G en h kf → Q (vI f) h
end RO2
section RO3
variable {D : Nat} {Q : aPO} {t law N : Int} {G : Hp} {en : Int → Int} {k o : Int} {P : List Int} {W : List (Int × Int)} {h : Hp}
theorem k33z {u : AV} (q : Runs (D + 9) 210 15 [vA 84, vI 0] [] h Q) : Runs (D + 9) 210 33 [vA 84, u] [vI 0] h Q := by
  refine Runs.go 10 [15] ?_
  exact br.t (by decide) (br.f (by decide) q)
theorem k33f {u : AV} {f : Int} (hf : 0 < f) (q : Q (vI f) h) : Runs (D + 9) 210 33 [vA 84, u] [vI f] h Q := by
  refine Runs.go 10 [15] ?_
  exact br.f (by omega) q
theorem rS.set18 {v : Int} (s : rS t G en h k o P W) : rS t G en (hup h 84 18 v) k o P W := by
  obtain ⟨s1, s2, s3, s4, s5⟩ := s
  refine ⟨⟨fun q a b d => ?_, fun j e => ?_, fun j e => ?_⟩, s2.cg (fun j x y => by rw [hup_nj (by omega)]), ⟨?_, plR_fr W 0 (fun j _ _ => by rw [hup_o (by decide)]) s3.2⟩, ⟨?_, ?_, s4.2.2.fr (fun j _ _ => by rw [hup_o (by decide)])⟩, s5⟩
  · rw [hup_o a]; exact s1.1 q a b d
  · rw [hup_o (by decide)]; exact s1.2.1 j e
  · rw [hup_nj (by omega)]; exact s1.2.2 j e
  · rw [hup_nj (by decide)]; exact s3.1
  · rw [hup_nj (by decide)]; exact s4.1
  · rw [hup_nj (by decide)]; exact s4.2.1
/-- into endOne -/
theorem g_end {u : AV} (s : rS t G en h k o P W) (g : gN D Q t G en k o P W) : Runs (D + 7) 205 0 [vA 84] [] h (gE D Q u) := by
  refine Runs.go 10 [6] ?_
  exact g h u s
theorem g_pop {c : Int} (E : rEn t law G N en) (hk : 0 ≤ k ∧ k < N) (hc : c = 5 ∨ c = 2 ∨ c = 4) (hp : P.length < 79) (ob : 0 ≤ o ∧ o ≤ 8) (g : gN D Q t G en k o P (W ++ [(c, 0)])) : gN D Q t G en k (o + 1) (c :: P) W := by
  intro h u s
  have r7 : rk c = 7 := by rcases hc with e | e | e <;> subst e <;> decide
  have n1 : nn1 c = 1 := by unfold nn1; rw [if_pos (Or.inl r7)]
  have l1 := E.1.1
  refine r_pop (en := en) (W := W) (P := P) (c := c) (o := o) E.2.1 E.2.2.1 (by rw [n1]; exact s) (by omega) (by omega) (by omega) (by omega) (fun h1 s1 _ => g h1 u s1)
theorem g_done (hp : P.length < 79) (h7 : top1 P 7) (h41 : ∀ R, P ≠ 41 :: R) (g : gW D Q t G en k o P W) : gN D Q t G en k o P W := by
  intro h u s
  have e16 := s.2.2.2.1.1
  have X : ∀ v : AV, gE D Q u (vI 0) (hup h 84 18 1) := fun _ => ⟨0, rfl, k33z (g _ _ s.set18 hup_eq)⟩
  have s' := s
  refine r_stop s (by omega) h7 ?_
  refine Runs.go 30 [] ?_
  refine ⟨Or.inr rfl, ?_⟩
  cases P with
  | nil => exact br.t (show (hup h 84 18 1) 84 16 = 0 by rw [hup_nj (by decide), e16]; rfl) (X none)
  | cons c R =>
    have l : ((c :: R).length : Int) = R.length + 1 := by simp
    have l' : (c :: R).length = R.length + 1 := by simp
    have x16 : (hup h 84 18 1) 84 16 = R.length + 1 := by rw [hup_nj (by decide), e16, l]
    have xt : (hup h 84 18 1) 89 ((hup h 84 18 1) 84 16 - 1) = c := by
      rw [x16, show (R.length : Int) + 1 - 1 = R.length by omega, hup_o (by decide)]
      exact s.2.2.2.1.2.2.1
    refine br.f (show ¬ (hup h 84 18 1) 84 16 = 0 by omega) ?_
    refine ⟨show -2147483648 ≤ (hup h 84 18 1) 84 16 - 1 ∧ (hup h 84 18 1) 84 16 - 1 < 2147483648 by omega, ⟨show 0 ≤ (hup h 84 18 1) 84 16 - 1 ∧ (hup h 84 18 1) 84 16 - 1 < (160 : Int) by omega, ?_⟩⟩
    refine br.f (fun z => ?_) (X none)
    have z' : (hup h 84 18 1) 89 ((hup h 84 18 1) 84 16 - 1) = 41 := z
    rw [xt] at z'
    exact h41 R (by rw [z'])
/-- above, and what must follow -/
theorem g_by (E : rEn t law G N en) (hk : 0 ≤ k ∧ k < N) (hp : P.length < 78) (g1 : G 80 k = 22 → gB D Q t G en (k + 1) o (4 :: P) W) (g2 : G 80 k ≠ 22 → gF Q t G en 1 k) : gN D Q t G en k o (41 :: P) W := by
  intro h u s
  have e16 := s.2.2.2.1.1
  have l : ((41 :: P).length : Int) = P.length + 1 := by simp
  have l' : ((41 : Int) :: P).length = P.length + 1 := by simp
  have x16 : (hup h 84 18 1) 84 16 = P.length + 1 := by rw [hup_nj (by decide), e16, l]
  have xt : (hup h 84 18 1) 89 ((hup h 84 18 1) 84 16 - 1) = 41 := by
    rw [x16, show (P.length : Int) + 1 - 1 = P.length by omega, hup_o (by decide)]
    exact s.2.2.2.1.2.2.1
  have sx := s.set18 (v := 1)
  refine r_stop s (by omega) (fun c R e => by cases e; decide) ?_
  refine Runs.go 60 [56] ?_
  refine ⟨Or.inr rfl, ?_⟩
  refine br.f (show ¬ (hup h 84 18 1) 84 16 = 0 by omega) ?_
  refine ⟨show -2147483648 ≤ (hup h 84 18 1) 84 16 - 1 ∧ (hup h 84 18 1) 84 16 - 1 < 2147483648 by omega, ⟨show 0 ≤ (hup h 84 18 1) 84 16 - 1 ∧ (hup h 84 18 1) 84 16 - 1 < (160 : Int) by omega, ?_⟩⟩
  refine br.t xt ?_
  refine r_w2 ?_
  refine r_isWord sx.2.1.2.2 22 (by decide) (by decide) (by decide +kernel) (fun e => ?_) (fun e => ?_)
  · refine br.t (by decide) ?_
    have gg := g1 e
    obtain ⟨s1, s2, s3, s4, s5⟩ := sx
    have nk : G 80 k ≠ 48 := by
      have e' : G 80 k = ((22 : Nat) : Int) := e
      omega
    refine r_adv E.1 hk nk s1 s2 (fun h1 v k1 => ?_)
    have p1 := s4.nx v
    have y16 : h1 84 16 = P.length + 1 := by rw [p1.1]; exact l
    refine Runs.go 30 [] ?_
    refine ⟨show -2147483648 ≤ h1 84 16 - 1 ∧ h1 84 16 - 1 < 2147483648 by omega, ⟨show 0 ≤ h1 84 16 - 1 ∧ h1 84 16 - 1 < (160 : Int) by omega, ?_⟩⟩
    refine ⟨by omega, ?_⟩
    refine ⟨0, rfl, k33z (gg _ _ ?_ hup_eq)⟩
    refine rS.set18 ⟨⟨fun q a b d => ?_, fun j e => ?_, fun j e => ?_⟩, k1.cg (fun j x y => by rw [hup_o (by decide)]), ⟨?_, ?_⟩, ⟨?_, ?_, ?_, ?_⟩, ?_⟩
    · rw [hup_o d]; exact (s1.nx v).1 q a b d
    · rw [hup_o (by decide)]; exact (s1.nx v).2.1 j e
    · rw [hup_o (by decide)]; exact (s1.nx v).2.2 j e
    · rw [hup_o (by decide)]; exact (s3.nx v).1
    · exact plR_fr W 0 (fun j _ _ => by rw [hup_o (by decide)]) (s3.nx v).2
    · rw [hup_o (by decide), y16]
      show (P.length : Int) + 1 = ((4 :: P).length : Int)
      simp
    · rw [hup_o (by decide)]; exact p1.2.1
    · rw [y16, show (P.length : Int) + 1 - 1 = P.length by omega, hup_eq]
    · exact p1.2.2.2.fr (fun j x y => by rw [hup_nj (by omega)])
    · show (W.length : Int) + ((4 :: P).length : Int) ≤ k + 1
      have : ((4 :: P).length : Int) = P.length + 1 := by simp
      omega
  · refine br.f (by decide) ?_
    exact ⟨1, rfl, k33f (by decide) (g2 e _ sx.1 sx.2.1)⟩
/-- a number or a name -/
theorem g_tail {u nm : AV} {op v : Int} (E : rEn t law G N en) (hk : 0 ≤ k ∧ k < N) (nk : G 80 k ≠ 48) (s : rS t G en h k o P W) (g : gN D Q t G en (k + 1) o P (W ++ [(op, v)])) :
    Runs (D + 8) 204 82 [vA 84, nm] [vI v, vI op, vA 84] h (fun r h2 => Runs (D + 9) 210 33 [vA 84, u] (pushR r []) h2 Q) := by
  obtain ⟨s1, s2, s3, s4, s5⟩ := s
  have l1 := E.1.1
  have e12 : h 84 12 = 705 * t := by rw [s1.2.2 12 (by omega)]; exact E.2.2.1
  refine Runs.go 30 [] ?_
  refine r_emit (t := t) (W := W) E.2.1 e12 s3 (by omega) (fun h1 a b c w => ?_)
  have f1 : rF t G h1 := s1.em a b c
  have k1 : rK G en h1 k := s2.cg (fun j x y => b j (by omega))
  have p1 : rP h1 o P := ⟨by rw [b 16 (by decide)]; exact s4.1, by rw [b 17 (by decide)]; exact s4.2.1, s4.2.2.fr (fun j _ _ => by rw [a 89 (by decide) (by decide)])⟩
  have lw : ((W ++ [(op, v)]).length : Int) = W.length + 1 := by simp
  refine r_adv E.1 hk nk f1 k1 (fun h2 u2 k2 => ?_)
  refine Runs.mono (fun r h3 z => ?_) (g_end (u := u) ⟨f1.nx u2, k2, w.nx u2, p1.nx u2, by omega⟩ g)
  obtain ⟨x, e, R⟩ := z
  subst e
  exact R
theorem g_num (E : rEn t law G N en) (hk : 0 ≤ k ∧ k < N) (e : G 80 k = 46) (hv : G 82 k ≤ 9999) (g : gN D Q t G en (k + 1) o P (W ++ [(0, G 82 k)])) : gB D Q t G en k o P W := by
  intro h u s i0
  have rt := s.2.1.2.2
  have r1 := rt.1
  have r2 := rt.2.1 e
  have tk1 : h 84 9 = 1 := by omega
  have nv : h 84 10 = G 82 k := by omega
  refine Runs.go 20 [33] ?_
  refine br.t i0 ?_
  refine Runs.go 60 [82] ?_
  refine br.f (fun z => z tk1) ?_
  refine br.t (show h 84 10 ≤ 9999 by omega) ?_
  refine r_nameOf rt ?_
  rw [if_neg (by omega)]
  refine br.t (by decide) ?_
  refine br.t tk1 ?_
  refine br.f (fun z => z tk1) ?_
  refine br.f (fun z => z tk1) ?_
  rw [← nv] at g
  exact g_tail E hk (by omega) s g
theorem g_num2 (hk : 0 ≤ k ∧ k < N) (e : G 80 k = 46) (hv : 9999 < G 82 k) (g : gF Q t G en 2 k) : gB D Q t G en k o P W := by
  intro h u s i0
  have rt := s.2.1.2.2
  have r1 := rt.1
  have r2 := rt.2.1 e
  have tk1 : h 84 9 = 1 := by omega
  refine Runs.go 20 [33] ?_
  refine br.t i0 ?_
  refine Runs.go 60 [] ?_
  refine br.f (fun z => z tk1) ?_
  refine br.f (show ¬ h 84 10 ≤ 9999 by omega) ?_
  exact k33f (by decide) (g h s.1 s.2.1)
theorem g_nam (E : rEn t law G N en) (hk : 0 ≤ k ∧ k < N) (e : 12 ≤ G 80 k ∧ G 80 k ≤ 20) (hl : ¬ (law = 0 ∧ 19 ≤ G 80 k)) (g : gN D Q t G en (k + 1) o P (W ++ [(1, G 80 k - 12)])) : gB D Q t G en k o P W := by
  intro h u s i0
  have rt := s.2.1.2.2
  have r1 := rt.1
  have tk1 : h 84 9 ≠ 1 := by omega
  have e14 : h 84 14 = law := by rw [s.1.2.2 14 (by omega)]; exact E.2.2.2
  refine Runs.go 20 [33] ?_
  refine br.t i0 ?_
  refine Runs.go 60 [40, 82] ?_
  refine br.t tk1 ?_
  refine r_nameOf rt ?_
  rw [if_pos e]
  have K : Runs (D + 8) 204 40 [vA 84, vI (G 80 k - 12)] [] h (fun r h2 => Runs (D + 9) 210 33 [vA 84, u] (pushR r []) h2 Q) := by
    refine Runs.go 30 [82] ?_
    refine br.f tk1 ?_
    refine br.f (by omega) ?_
    refine br.t tk1 ?_
    refine br.t tk1 ?_
    exact g_tail E hk (by omega) s g
  refine br.i (fun z => K) (fun z => ?_)
  refine br.t (fun y => hl ⟨?_, by omega⟩) K
  have y' : h 84 14 = 0 := y
  omega
theorem g_nam5 (E : rEn t law G N en) (hk : 0 ≤ k ∧ k < N) (e : 12 ≤ G 80 k ∧ G 80 k ≤ 20) (hl : law = 0 ∧ 19 ≤ G 80 k) (g : gF Q t G en 5 k) : gB D Q t G en k o P W := by
  intro h u s i0
  have rt := s.2.1.2.2
  have r1 := rt.1
  have tk1 : h 84 9 ≠ 1 := by omega
  have e14 : h 84 14 = law := by rw [s.1.2.2 14 (by omega)]; exact E.2.2.2
  refine Runs.go 20 [33] ?_
  refine br.t i0 ?_
  refine Runs.go 60 [40] ?_
  refine br.t tk1 ?_
  refine r_nameOf rt ?_
  rw [if_pos e]
  refine br.f (by omega) ?_
  refine br.f (fun y => y (show h 84 14 = 0 by omega)) ?_
  exact k33f (by decide) (g h s.1 s.2.1)
/-- what opens, by the class's token -/
def opC (c : Int) : Int := if c = 43 then 40 else if c = 40 then 5 else if c = 23 then 41 else if c = 24 then 2 else if c = 25 then 42 else 20
theorem g_open (E : rEn t law G N en) (hk : 0 ≤ k ∧ k < N) (hc : opn (G 80 k) ∨ (G 80 k = 31 ∧ askA P)) (hp : P.length < 79) (ob : 0 ≤ o ∧ o ≤ 8) (g1 : o < 8 → gB D Q t G en (k + 1) (o + 1) (opC (G 80 k) :: P) W) (g2 : 8 ≤ o → gF Q t G en 3 k) : gB D Q t G en k o P W := by
  intro h u s i0
  have rt := s.2.1.2.2
  have r1 := rt.1
  have nk : G 80 k ≠ 48 ∧ G 80 k ≠ 46 ∧ ¬ (12 ≤ G 80 k ∧ G 80 k ≤ 20) := by unfold opn at hc; omega
  have tk1 : h 84 9 ≠ 1 := by omega
  have X : ∀ c : Int, c = opC (G 80 k) → ∀ Q', (∀ z h2, Runs (D + 9) 210 33 [vA 84, u] [vI z] h2 Q → Q' (vI z) h2) → Runs (D + 7) 203 0 [vA 84, vI c] [] h Q' := by
    intro c ec Q' hQ
    subst ec
    refine r_opened (D := D + 5) E hk nk.1 s (by omega) ob (fun z => hQ 3 h (k33f (by decide) (g2 (by omega) h s.1 s.2.1))) (fun z h1 s1 e1 => hQ 0 h1 (k33z (g1 (by omega) h1 _ s1 (e1.trans i0))))
  refine Runs.go 20 [33] ?_
  refine br.t i0 ?_
  refine Runs.go 120 [94] ?_
  refine br.t tk1 ?_
  refine r_nameOf rt ?_
  rw [if_neg nk.2.2]
  refine br.t (by decide) ?_
  refine br.f tk1 ?_
  refine br.t (by decide) ?_
  refine Runs.go 120 [] ?_
  refine br.j (fun z => ?_) (fun z1 => ?_)
  · have z' : h 84 9 = 40 := Decidable.not_not.mp z
    have e : G 80 k = 43 := by omega
    exact X 40 (by rw [e]; decide) _ (fun _ _ q => q)
  have z1' : h 84 9 ≠ 40 := z1
  refine br.j (fun z => ?_) (fun z2 => ?_)
  · have z' : h 84 9 = 45 := Decidable.not_not.mp z
    have e : G 80 k = 40 := by omega
    exact X 5 (by rw [e]; decide) _ (fun _ _ q => q)
  have z2' : h 84 9 ≠ 45 := z2
  refine r_w5 ?_
  refine r_isWord rt 23 (by decide) (by decide) (by decide +kernel) (fun e => ?_) (fun e3 => ?_)
  · exact br.f (by decide) (X 41 (by rw [e]; decide) _ (fun _ _ q => q))
  refine br.t rfl ?_
  refine r_w5 ?_
  refine r_isWord rt 24 (by decide) (by decide) (by decide +kernel) (fun e => ?_) (fun e4 => ?_)
  · exact br.f (by decide) (X 2 (by rw [e]; decide) _ (fun _ _ q => q))
  refine br.t rfl ?_
  refine r_w2 ?_
  refine r_isWord rt 25 (by decide) (by decide) (by decide +kernel) (fun e => ?_) (fun e5 => ?_)
  · exact br.f (by decide) (X 42 (by rw [e]; decide) _ (fun _ _ q => q))
  refine br.t rfl ?_
  have c31 : G 80 k = 31 ∧ askA P := by
    rcases hc with hc | hc
    · exfalso
      unfold opn at hc
      omega
    · exact hc
  refine r_w3 ?_
  refine r_isWord rt 31 (by decide) (by decide) (by decide +kernel) (fun e => ?_) (fun e6 => absurd c31.1 e6)
  refine br.f (by decide) ?_
  refine r_ask s.2.2.2.1.2.2 s.2.2.2.1.1 (by omega) (fun _ => ?_) (fun y => absurd c31.2 y)
  exact br.f (by decide) (X 20 (by rw [c31.1]; decide) _ (fun _ _ q => q))
theorem g_bad (E : rEn t law G N en) (hk : 0 ≤ k ∧ k < N) (hc : G 80 k ≠ 46 ∧ ¬ (12 ≤ G 80 k ∧ G 80 k ≤ 20) ∧ ¬ opn (G 80 k)) (h31 : askA P → G 80 k ≠ 31) (hp : P.length < 79) (g : gF Q t G en 1 k) : gB D Q t G en k o P W := by
  intro h u s i0
  have rt := s.2.1.2.2
  have r1 := rt.1
  have tk1 : h 84 9 ≠ 1 := by omega
  have no := hc.2.2
  unfold opn at no
  have F := k33f (D := D) (u := u) (by decide) (g h s.1 s.2.1)
  refine Runs.go 20 [33] ?_
  refine br.t i0 ?_
  refine Runs.go 120 [94] ?_
  refine br.t tk1 ?_
  refine r_nameOf rt ?_
  rw [if_neg hc.2.1]
  refine br.t (by decide) ?_
  refine br.f tk1 ?_
  refine br.t (by decide) ?_
  refine Runs.go 120 [] ?_
  refine br.t (show h 84 9 ≠ 40 by omega) ?_
  refine br.t (show h 84 9 ≠ 45 by omega) ?_
  refine r_w5 ?_
  refine r_isWord rt 23 (by decide) (by decide) (by decide +kernel) (fun e => absurd e (by omega)) (fun e3 => ?_)
  refine br.t rfl ?_
  refine r_w5 ?_
  refine r_isWord rt 24 (by decide) (by decide) (by decide +kernel) (fun e => absurd e (by omega)) (fun e4 => ?_)
  refine br.t rfl ?_
  refine r_w2 ?_
  refine r_isWord rt 25 (by decide) (by decide) (by decide +kernel) (fun e => absurd e (by omega)) (fun e5 => ?_)
  refine br.t rfl ?_
  refine r_w3 ?_
  refine r_isWord rt 31 (by decide) (by decide) (by decide +kernel) (fun e => ?_) (fun e6 => br.t rfl F)
  refine br.f (by decide) ?_
  refine r_ask s.2.2.2.1.2.2 s.2.2.2.1.1 (by omega) (fun y => absurd e (h31 y)) (fun y => ?_)
  exact br.t rfl F
end RO3
