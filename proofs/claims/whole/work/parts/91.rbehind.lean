/-! TEXTS: the reference behind a whole one -/
def btw (c : Int) (P : List Int) : Int := if 39 ≤ c ∧ c ≤ 42 then c - 33 else if opN P ≠ 42 then -1 else if cmpd P = false then (if 33 ≤ c ∧ c ≤ 38 then c - 23 else -1) else if c = 30 then 21 else if c = 29 then 22 else -1
def prt (c x : Int) (P : List Int) : Int := if x = 40 then (if c = 44 then 0 else -1) else if x = 42 then (if c = 26 ∧ cmpd P = true then 43 else -1) else if x = 43 then (if c = 27 then 44 else -1) else if x = 44 then (if c = 28 then 0 else -1) else -1
section RB
variable {D : Nat} {Q : aPO} {t law N : Int} {G : Hp} {en : Int → Int} {k o : Int} {P : List Int} {W : List (Int × Int)} {h : Hp}
theorem r_compare {c v : Int} (rt : rTok c v (h 84 9) (h 84 10) (h 84 11)) (q : Q (vI (if 33 ≤ c ∧ c ≤ 38 then c - 23 else -1)) h) : Runs D 206 0 [vA 84] [] h Q := by
  have r1 := rt.1
  refine Runs.go 60 [] ?_
  refine br.j (fun z => QI q ?_) (fun z1 => ?_)
  · have z' : h 84 9 = 60 := Decidable.not_not.mp z
    rw [if_pos (by omega)]; omega
  have z1' : h 84 9 ≠ 60 := z1
  refine br.j (fun z => QI q ?_) (fun z2 => ?_)
  · have z' : h 84 9 = 4 := Decidable.not_not.mp z
    rw [if_pos (by omega)]; omega
  have z2' : h 84 9 ≠ 4 := z2
  refine br.j (fun z => QI q ?_) (fun z3 => ?_)
  · have z' : h 84 9 = 62 := Decidable.not_not.mp z
    rw [if_pos (by omega)]; omega
  have z3' : h 84 9 ≠ 62 := z3
  refine br.j (fun z => QI q ?_) (fun z4 => ?_)
  · have z' : h 84 9 = 5 := Decidable.not_not.mp z
    rw [if_pos (by omega)]; omega
  have z4' : h 84 9 ≠ 5 := z4
  refine br.j (fun z => QI q ?_) (fun z5 => ?_)
  · have z' : h 84 9 = 61 := Decidable.not_not.mp z
    rw [if_pos (by omega)]; omega
  have z5' : h 84 9 ≠ 61 := z5
  refine br.j (fun z => QI q ?_) (fun z6 => QI q ?_)
  · have z' : h 84 9 = 35 := Decidable.not_not.mp z
    rw [if_pos (by omega)]; omega
  · have z6' : h 84 9 ≠ 35 := z6
    rw [if_neg (by omega)]
theorem r_between {c v : Int} (rt : rTok c v (h 84 9) (h 84 10) (h 84 11)) (p : plP h P) (e16 : h 84 16 = (P.length : Int)) (hp : P.length < 160) (q : Q (vI (btw c P)) h) : Runs (D + 3) 207 0 [vA 84] [] h Q := by
  have r1 := rt.1
  unfold btw at q
  refine Runs.go 60 [] ?_
  refine br.j (fun z => QI q ?_) (fun z1 => ?_)
  · have z' : h 84 9 = 43 := Decidable.not_not.mp z
    rw [if_pos (by omega)]; omega
  have z1' : h 84 9 ≠ 43 := z1
  refine br.j (fun z => QI q ?_) (fun z2 => ?_)
  · have z' : h 84 9 = 45 := Decidable.not_not.mp z
    rw [if_pos (by omega)]; omega
  have z2' : h 84 9 ≠ 45 := z2
  refine br.j (fun z => QI q ?_) (fun z3 => ?_)
  · have z' : h 84 9 = 42 := Decidable.not_not.mp z
    rw [if_pos (by omega)]; omega
  have z3' : h 84 9 ≠ 42 := z3
  refine br.j (fun z => QI q ?_) (fun z4 => ?_)
  · have z' : h 84 9 = 47 := Decidable.not_not.mp z
    rw [if_pos (by omega)]; omega
  have z4' : h 84 9 ≠ 47 := z4
  rw [if_neg (by omega)] at q
  refine r_openNow p e16 hp ?_
  refine br.j (fun z => ?_) (fun z => ?_)
  · rw [if_pos z] at q
    exact q
  rw [if_neg (fun y => y z)] at q
  refine r_isCmp p e16 hp (fun e => ?_) (fun e => ?_)
  · rw [if_neg (by rw [e]; decide)] at q
    refine br.t (by decide) ?_
    refine r_w3 ?_
    refine r_isWord rt 30 (by decide) (by decide) (by decide +kernel) (fun e1 => br.f (by decide) ?_) (fun e1 => br.t rfl ?_)
    · have e1' : c = 30 := e1
      rw [if_pos e1'] at q
      exact q
    · have e1' : ¬ c = 30 := e1
      rw [if_neg e1'] at q
      refine r_w2 ?_
      refine r_isWord rt 29 (by decide) (by decide) (by decide +kernel) (fun e1 => br.f (by decide) ?_) (fun e1 => br.t rfl ?_)
      · have e1' : c = 29 := e1
        rw [if_pos e1'] at q
        exact q
      · have e1' : ¬ c = 29 := e1
        rw [if_neg e1'] at q
        exact q
  · rw [if_pos e] at q
    refine br.f (by decide) ?_
    exact r_compare rt q
theorem r_part {c v x : Int} (rt : rTok c v (h 84 9) (h 84 10) (h 84 11)) (p : plP h P) (e16 : h 84 16 = (P.length : Int)) (hp : P.length < 160) (q : Q (vI (prt c x P)) h) : Runs (D + 3) 208 0 [vA 84, vI x] [] h Q := by
  have r1 := rt.1
  unfold prt at q
  refine Runs.go 60 [] ?_
  refine br.i (fun z => ?_) (fun z1 => ?_)
  · rw [if_pos z] at q
    refine br.i (fun y => ?_) (fun y => ?_)
    · have y' : h 84 9 ≠ 41 := y
      rw [if_neg (by omega)] at q
      exact q
    · have y' : h 84 9 = 41 := Decidable.not_not.mp y
      rw [if_pos (by omega)] at q
      exact q
  have z1' : ¬ x = 40 := z1
  rw [if_neg z1'] at q
  refine br.i (fun z => ?_) (fun z2 => ?_)
  · have z' : x = 41 := z
    rw [if_neg (by omega), if_neg (by omega), if_neg (by omega)] at q
    exact q
  refine br.i (fun z => ?_) (fun z3 => ?_)
  · have z' : x = 42 := z
    rw [if_pos z'] at q
    refine r_w4 ?_
    refine r_isWord rt 26 (by decide) (by decide) (by decide +kernel) (fun e1 => br.f (by decide) ?_) (fun e1 => br.t rfl ?_)
    · have e1' : c = 26 := e1
      refine r_isCmp p e16 hp (fun e => br.f (by decide) ?_) (fun e => br.t rfl ?_)
      · rw [if_pos ⟨e1', e⟩] at q
        exact q
      · rw [if_neg (fun y => by rw [e] at y; exact absurd y.2 (by decide))] at q
        exact q
    · have e1' : ¬ c = 26 := e1
      rw [if_neg (fun y => e1' y.1)] at q
      exact q
  have z3' : ¬ x = 42 := z3
  rw [if_neg z3'] at q
  refine br.i (fun z => ?_) (fun z4 => ?_)
  · have z' : x = 43 := z
    rw [if_pos z'] at q
    refine r_w4 ?_
    refine r_isWord rt 27 (by decide) (by decide) (by decide +kernel) (fun e1 => br.f (by decide) ?_) (fun e1 => br.t rfl ?_)
    · have e1' : c = 27 := e1
      rw [if_pos e1'] at q
      exact q
    · have e1' : ¬ c = 27 := e1
      rw [if_neg e1'] at q
      exact q
  have z4' : ¬ x = 43 := z4
  rw [if_neg z4'] at q
  refine br.i (fun z => ?_) (fun z5 => ?_)
  · have z' : x = 44 := z
    rw [if_pos z'] at q
    refine r_w3 ?_
    refine r_isWord rt 28 (by decide) (by decide) (by decide +kernel) (fun e1 => br.f (by decide) ?_) (fun e1 => br.t rfl ?_)
    · have e1' : c = 28 := e1
      rw [if_pos e1'] at q
      exact q
    · have e1' : ¬ c = 28 := e1
      rw [if_neg e1'] at q
      exact q
  have z5' : ¬ x = 44 := z5
  rw [if_neg z5'] at q
  exact q
def lvl (c : Int) : Int := if rk c = 4 then 5 else rk c
theorem g_oper {c : Int} {ops : List Int} (E : rEn t law G N en) (hk : 0 ≤ k ∧ k < N) (nk : G 80 k ≠ 48) (hc : btw (G 80 k) (ops ++ P) = c) (c0 : 0 ≤ c) (ha : ∀ x ∈ ops, lvl c ≤ rk x) (hs : top1 P (lvl c)) (hp : (ops ++ P).length < 80) (ob : 0 ≤ o ∧ o ≤ 8) (g : gB D Q t G en (k + 1) o (c :: P) (W ++ ems ops)) : gW D Q t G en k (o + nnt ops) (ops ++ P) W := by
  intro h u s i1
  have l1 := E.1.1
  have rt := s.2.1.2.2
  have la : (ops ++ P).length = ops.length + P.length := by simp
  have lc : ((c :: P).length : Int) = P.length + 1 := by simp
  have K : ∀ l : Int, l = lvl c → Runs (D + 7) 198 0 [vA 84, vI l] [] h (fun r h2 => Runs (D + 8) 209 29 [vA 84, vI c, none, none] (pushR r []) h2 (fun r h2 => Runs (D + 9) 210 33 [vA 84, u] (pushR r []) h2 Q)) := by
    intro l el
    subst el
    refine r_settle (D := D + 6) (o := o) (P := P) E.2.1 E.2.2.1 (by omega) (by omega) hs ops W h s ha hp (fun h1 s1 e1 => ?_)
    obtain ⟨s1, s2, s3, s4, s5⟩ := s1
    have e16 := s4.1
    have q4 : ∀ g2 : Hp, g2 = hup (hup (hup h1 89 (h1 84 16) c) 84 16 (h1 84 16 + 1)) 84 18 0 → Runs (D + 7) 188 0 [vA 84, none] [] g2 (fun r h2 => Runs (D + 8) 209 58 [vA 84, vI c, none, none] (pushR r []) h2 (fun r h2 => Runs (D + 9) 210 33 [vA 84, u] (pushR r []) h2 Q)) := by
      intro g2 eg
      have gf : rF t G g2 := by
        subst eg
        refine ⟨fun q a b d => ?_, fun j e => ?_, fun j e => ?_⟩
        · rw [hup_o a, hup_o a, hup_o d]; exact s1.1 q a b d
        · rw [hup_o (by decide), hup_o (by decide), hup_o (by decide)]; exact s1.2.1 j e
        · rw [hup_nj (by omega), hup_nj (by omega), hup_o (by decide)]; exact s1.2.2 j e
      have gk : rK G en g2 k := by
        subst eg
        exact s2.cg (fun j x y => by rw [hup_nj (by omega), hup_nj (by omega), hup_o (by decide)])
      have gw : rW t g2 (W ++ ems ops) := by
        subst eg
        exact ⟨by rw [hup_nj (by decide), hup_nj (by decide), hup_o (by decide)]; exact s3.1, plR_fr _ 0 (fun j _ _ => by rw [hup_o (by decide), hup_o (by decide), hup_o (by decide)]) s3.2⟩
      have gp : rP g2 o (c :: P) := by
        subst eg
        refine ⟨?_, ?_, ?_, ?_⟩
        · rw [hup_nj (by decide), hup_eq, e16, lc]
        · rw [hup_nj (by decide), hup_nj (by decide), hup_o (by decide)]; exact s4.2.1
        · rw [hup_o (by decide), hup_o (by decide), ← e16, hup_eq]
        · exact s4.2.2.fr (fun j x y => by rw [hup_o (by decide), hup_o (by decide), hup_nj (by omega)])
      have g18 : g2 84 18 = 0 := by
        subst eg
        rw [hup_eq]
      refine r_adv E.1 hk nk gf gk (fun h2 v k1 => ?_)
      refine Runs.go 10 [] ?_
      refine k33z (g h2 _ ⟨gf.nx v, k1, gw.nx v, gp.nx v, by omega⟩ ?_)
      rw [v.2 18 (by omega)]
      exact g18
    refine Runs.go 30 [58] ?_
    refine ⟨show 0 ≤ h1 84 16 ∧ h1 84 16 < (160 : Int) by omega, ⟨show -2147483648 ≤ h1 84 16 + 1 ∧ h1 84 16 + 1 < 2147483648 by omega, ⟨by omega, ?_⟩⟩⟩
    exact q4 _ rfl
  refine Runs.go 20 [33] ?_
  refine br.f (show ¬ h 84 18 = 0 by omega) ?_
  refine Runs.go 40 [29] ?_
  refine r_between rt s.2.2.2.1.2.2 s.2.2.2.1.1 (by omega) ?_
  rw [hc]
  refine br.f (by omega) ?_
  refine r_rank ?_
  refine br.i (fun z => ?_) (fun z => ?_)
  · refine r_rank ?_
    refine K _ ?_
    unfold lvl
    rw [if_neg z]
  · refine K 5 ?_
    unfold lvl
    rw [if_pos (Decidable.not_not.mp z)]
/-- nothing can follow -/
theorem g_stuck (hp : P.length < 80) (hb : btw (G 80 k) P = -1) (hq : prt (G 80 k) (opN P) P = -1) (ho : 0 ≤ opN P) (g : gF Q t G en 1 k) : gW D Q t G en k o P W := by
  intro h u s i1
  have rt := s.2.1.2.2
  have pp := s.2.2.2.1.2.2
  have e16 := s.2.2.2.1.1
  refine Runs.go 20 [33] ?_
  refine br.f (show ¬ h 84 18 = 0 by omega) ?_
  refine Runs.go 60 [] ?_
  refine r_between rt pp e16 (by omega) ?_
  rw [hb]
  refine br.t (by decide) ?_
  refine r_openNow pp e16 (by omega) ?_
  refine r_part rt pp e16 (by omega) ?_
  rw [hq]
  refine br.f (by decide) ?_
  refine Runs.go 20 [] ?_
  refine br.t (by decide) ?_
  refine br.t (by decide) ?_
  refine r_openNow pp e16 (by omega) ?_
  refine br.f (by omega) ?_
  exact g h s.1 s.2.1
/-- the sum is whole -/
theorem g_top {ops : List Int} (E : rEn t law G N en) (hk : 0 ≤ k ∧ k < N) (hp : ops.length < 80) (ob : 0 ≤ o ∧ o ≤ 8) (hb : btw (G 80 k) ops = -1) (ho : opN ops = -1) (ha : ∀ x ∈ ops, 1 ≤ rk x) (g : ∀ h, rS t G en h k o [] (W ++ ems ops) → Q (vI 0) h) : gW D Q t G en k (o + nnt ops) ops W := by
  intro h u s i1
  have l1 := E.1.1
  have rt := s.2.1.2.2
  have pp := s.2.2.2.1.2.2
  have e16 := s.2.2.2.1.1
  refine Runs.go 20 [33] ?_
  refine br.f (show ¬ h 84 18 = 0 by omega) ?_
  refine Runs.go 60 [] ?_
  refine r_between rt pp e16 (by omega) ?_
  rw [hb]
  refine br.t (by decide) ?_
  refine r_openNow pp e16 (by omega) ?_
  refine r_part rt pp e16 (by omega) ?_
  rw [ho, show prt (G 80 k) (-1) ops = -1 from rfl]
  refine br.f (by decide) ?_
  refine Runs.go 20 [] ?_
  refine br.t (by decide) ?_
  refine br.t (by decide) ?_
  refine r_openNow pp e16 (by omega) ?_
  rw [ho]
  refine br.t (by decide) ?_
  have s' : rS t G en h k (o + nnt ops) (ops ++ []) W := by rw [List.append_nil]; exact s
  refine r_settle (D := D + 7) (o := o) (P := []) E.2.1 E.2.2.1 (by omega) (by omega) (fun c R e => by cases e) ops W h s' ha (by rw [List.append_nil]; omega) (fun h1 s1 e1 => ?_)
  exact g h1 s1
/-- a bracket closes, an if ends -/
theorem g_close {x : Int} {ops : List Int} (E : rEn t law G N en) (hk : 0 ≤ k ∧ k < N) (nk : G 80 k ≠ 48) (hx : x = 40 ∨ x = 44) (hb : btw (G 80 k) (ops ++ x :: P) = -1) (ho : opN (ops ++ x :: P) = x) (hq : prt (G 80 k) x (ops ++ x :: P) = 0) (ha : ∀ y ∈ ops, 1 ≤ rk y) (hp : (ops ++ x :: P).length < 80) (ob : 0 ≤ o ∧ o ≤ 8)
    (g : gN D Q t G en (k + 1) o P (W ++ ems ops ++ (if x = 44 then [(3, 0)] else []))) : gW D Q t G en k (o + 1 + nnt ops) (ops ++ x :: P) W := by
  intro h u s i1
  have l1 := E.1.1
  have rt := s.2.1.2.2
  have pp := s.2.2.2.1.2.2
  have e16 := s.2.2.2.1.1
  have la : (ops ++ x :: P).length = ops.length + (P.length + 1) := by simp
  have lx : ((x :: P).length : Int) = P.length + 1 := by simp
  have J : ∀ h3 : Hp, rF t G h3 → rK G en h3 (k + 1) → rW t h3 (W ++ ems ops) → rP h3 o P → ((W ++ ems ops).length : Int) + P.length + 1 ≤ k → Runs (D + 8) 209 110 [vA 84, vI (-1), vI x, vI 0] [] h3 (fun r h2 => Runs (D + 9) 210 33 [vA 84, u] (pushR r []) h2 Q) := by
    intro h3 F3 K3 W3 P3 s5
    have e12 : h3 84 12 = 705 * t := by rw [F3.2.2 12 (by omega)]; exact E.2.2.1
    refine Runs.go 40 [] ?_
    refine br.i (fun z => ?_) (fun z => ?_)
    · have z' : ¬ x = 44 := z
      rw [if_neg z', List.append_nil] at g
      refine Runs.mono (fun r h4 y => ?_) (g_end (u := u) ⟨F3, K3, W3, P3, by omega⟩ g)
      obtain ⟨w, e, R⟩ := y
      subst e
      exact R
    · have z' : x = 44 := Decidable.not_not.mp z
      rw [if_pos z'] at g
      refine r_emit (t := t) (W := W ++ ems ops) E.2.1 e12 W3 (by omega) (fun h4 a b c w => ?_)
      have lw : ((W ++ ems ops ++ [((3 : Int), (0 : Int))]).length : Int) = (W ++ ems ops).length + 1 := by
        rw [List.length_append]
        rfl
      have p4 : rP h4 o P := ⟨by rw [b 16 (by decide)]; exact P3.1, by rw [b 17 (by decide)]; exact P3.2.1, P3.2.2.fr (fun j _ _ => by rw [a 89 (by decide) (by decide)])⟩
      refine Runs.mono (fun r h5 y => ?_) (g_end (u := u) ⟨F3.em a b c, K3.cg (fun j x y => b j (by omega)), w, p4, by omega⟩ g)
      obtain ⟨w, e, R⟩ := y
      subst e
      exact R
  refine Runs.go 20 [33] ?_
  refine br.f (show ¬ h 84 18 = 0 by omega) ?_
  refine Runs.go 60 [110] ?_
  refine r_between rt pp e16 (by omega) ?_
  rw [hb]
  refine br.t (by decide) ?_
  refine r_openNow pp e16 (by omega) ?_
  rw [ho]
  refine r_part rt pp e16 (by omega) ?_
  rw [hq]
  refine br.t (by decide) ?_
  refine r_settle (D := D + 6) (o := o + 1) (P := x :: P) E.2.1 E.2.2.1 (by omega) (by omega) (fun c R e => by cases e; rcases hx with e | e <;> subst e <;> decide) ops W h s ha hp (fun h1 s1 e1 => ?_)
  obtain ⟨s1, s2, s3, s4, s5⟩ := s1
  refine r_adv (D := D + 6) E.1 hk nk s1 s2 (fun h2 v k2 => ?_)
  have f2 := s1.nx v
  have w2 := s3.nx v
  have p2 := s4.nx v
  have y17 : h2 84 17 = o + 1 := p2.2.1
  have y16 : h2 84 16 = P.length + 1 := by rw [p2.1]; exact lx
  have x16 : (hup h2 84 17 (h2 84 17 - 1)) 84 16 = P.length + 1 := by rw [hup_nj (by decide)]; exact y16
  refine br.f (by decide) ?_
  refine ⟨show -2147483648 ≤ h2 84 17 - 1 ∧ h2 84 17 - 1 < 2147483648 by omega, ⟨show -2147483648 ≤ (hup h2 84 17 (h2 84 17 - 1)) 84 16 - 1 ∧ (hup h2 84 17 (h2 84 17 - 1)) 84 16 - 1 < 2147483648 by omega, ?_⟩⟩
  refine J (hup (hup h2 84 17 (h2 84 17 - 1)) 84 16 ((hup h2 84 17 (h2 84 17 - 1)) 84 16 - 1)) ⟨fun q a b d => ?_, fun j e => ?_, fun j e => ?_⟩ (k2.cg (fun j x y => by rw [hup_nj (by omega), hup_nj (by omega)])) ⟨?_, plR_fr _ 0 (fun j _ _ => by rw [hup_o (by decide), hup_o (by decide)]) w2.2⟩ ⟨?_, ?_, ?_⟩ (by omega)
  · rw [hup_o a, hup_o a]; exact f2.1 q a b d
  · rw [hup_o (by decide), hup_o (by decide)]; exact f2.2.1 j e
  · rw [hup_nj (by omega), hup_nj (by omega)]; exact f2.2.2 j e
  · rw [hup_nj (by decide), hup_nj (by decide)]; exact w2.1
  · rw [hup_eq, x16]; omega
  · rw [hup_nj (by decide), hup_eq, y17]; omega
  · exact p2.2.2.2.fr (fun j _ _ => by rw [hup_o (by decide), hup_o (by decide)])
/-- then, else -/
theorem g_part {x y : Int} {ops : List Int} (E : rEn t law G N en) (hk : 0 ≤ k ∧ k < N) (nk : G 80 k ≠ 48) (hx : x = 42 ∨ x = 43) (hy : y = x + 1) (hb : btw (G 80 k) (ops ++ x :: P) = -1) (ho : opN (ops ++ x :: P) = x) (hq : prt (G 80 k) x (ops ++ x :: P) = y) (ha : ∀ c ∈ ops, 1 ≤ rk c) (hp : (ops ++ x :: P).length < 80) (ob : 0 ≤ o ∧ o ≤ 8)
    (g : gB D Q t G en (k + 1) o (y :: P) (W ++ ems ops)) : gW D Q t G en k (o + nnt ops) (ops ++ x :: P) W := by
  intro h u s i1
  have l1 := E.1.1
  have rt := s.2.1.2.2
  have pp := s.2.2.2.1.2.2
  have e16 := s.2.2.2.1.1
  have la : (ops ++ x :: P).length = ops.length + (P.length + 1) := by simp
  have lx : ((x :: P).length : Int) = P.length + 1 := by simp
  have ly : ((y :: P).length : Int) = P.length + 1 := by simp
  have oi : opI (x :: P) = P.length := by
    unfold opI
    rw [if_pos (by omega)]
  refine Runs.go 20 [33] ?_
  refine br.f (show ¬ h 84 18 = 0 by omega) ?_
  refine Runs.go 60 [] ?_
  refine r_between rt pp e16 (by omega) ?_
  rw [hb]
  refine br.t (by decide) ?_
  refine r_openNow pp e16 (by omega) ?_
  rw [ho]
  refine r_part rt pp e16 (by omega) ?_
  rw [hq]
  refine br.t (by omega) ?_
  refine r_settle (D := D + 6) (o := o) (P := x :: P) E.2.1 E.2.2.1 (by omega) (by omega) (fun c R e => by cases e; rcases hx with e | e <;> subst e <;> decide) ops W h s ha hp (fun h1 s1 e1 => ?_)
  obtain ⟨s1, s2, s3, s4, s5⟩ := s1
  refine r_adv (D := D + 6) E.1 hk nk s1 s2 (fun h2 v k2 => ?_)
  have f2 := s1.nx v
  have w2 := s3.nx v
  have p2 := s4.nx v
  refine br.t (by omega) ?_
  refine r_openAt p2.2.2 p2.1 (by have : (x :: P).length = P.length + 1 := by simp
                                  omega) ?_
  rw [oi]
  refine ⟨⟨by omega, show (P.length : Int) < (160 : Int) by omega⟩, ⟨by omega, ?_⟩⟩
  refine k33z (g _ _ (rS.set18 ⟨⟨fun q a b d => ?_, fun j e => ?_, fun j e => ?_⟩, k2.cg (fun j x y => by rw [hup_o (by decide)]), ⟨?_, ?_⟩, ⟨?_, ?_, ?_, ?_⟩, ?_⟩) hup_eq)
  · rw [hup_o d]; exact f2.1 q a b d
  · rw [hup_o (by decide)]; exact f2.2.1 j e
  · rw [hup_o (by decide)]; exact f2.2.2 j e
  · rw [hup_o (by decide)]; exact w2.1
  · exact plR_fr _ 0 (fun j _ _ => by rw [hup_o (by decide)]) w2.2
  · rw [hup_o (by decide), p2.1, lx, ly]
  · rw [hup_o (by decide)]; exact p2.2.1
  · rw [hup_eq]
  · exact p2.2.2.2.fr (fun j x y => by rw [hup_nj (by omega)])
  · omega
end RB
