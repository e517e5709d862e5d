/-! TEXTS: the reference's signs -/
def rEn (t law : Int) (G : Hp) (N : Int) (en : Int → Int) : Prop := tS G N en ∧ (0 ≤ t ∧ t < 4) ∧ G 84 12 = 705 * t ∧ G 84 14 = law
theorem tkP.lt {tp : Int → Int} {l s e c v : Int} (t : tkP tp l s e c v) : s < e := by
  rcases t with q | q | q
  · exact q.1.1.1
  · exact q.1.1.1
  · rcases q.2 with z | z
    · have := z.2.2.2
      omega
    · have := z.2.1
      omega
theorem op_at {h : Hp} : ∀ {P : List Int}, plP h P → (opI P = -1 ∧ opN P = -1) ∨ ((0 ≤ opI P ∧ opI P < (P.length : Int)) ∧ h 89 (opI P) = opN P ∧ 40 ≤ opN P)
  | [], _ => Or.inl ⟨rfl, rfl⟩
  | c :: P, p => by
    have l : ((c :: P).length : Int) = P.length + 1 := by simp
    unfold opI opN
    by_cases z : 40 ≤ c
    · rw [if_pos z, if_pos z]
      exact Or.inr ⟨by omega, p.1, z⟩
    · rw [if_neg z, if_neg z]
      rcases op_at p.2 with q | q
      · exact Or.inl q
      · exact Or.inr ⟨by omega, q.2⟩
section SG
variable {h h1 : Hp} {Q : aPO} {D : Nat} {G : Hp} {N k t o law : Int} {en : Int → Int} {P : List Int} {W : List (Int × Int)}
theorem r_adv (S : tS G N en) (hk : 0 ≤ k ∧ k < N) (nk : G 80 k ≠ 48) (f : rF t G h) (kk : rK G en h k) (q : ∀ h1, u84 h h1 → rK G en h1 (k + 1) → Q none h1) : Runs (D + 1) 188 0 [vA 84, none] [] h Q := by
  have kn := S.tkn.nxt hk nk
  have b := S.2.2.2.2.2 k hk.1 (by omega)
  have tp := S.2.2.1 k hk.1 (by omega)
  have lt := tp.1.lt
  exact r_nextT S (k := k + 1) (by omega) (p := en k) (by omega) b (f.1 88 (by decide) (by decide) (by decide)) (f.2.2 4 (by omega)) kk.1 (fun h1 a1 a2 a3 a4 => q h1 a1 ⟨a2, a3, a4⟩)
theorem rF.nx (f : rF t G h) (u : u84 h h1) : rF t G h1 := ⟨fun q a b c => (u.1 q a).trans (f.1 q a b c), fun j e => by rw [u.1 87 (by decide)]; exact f.2.1 j e, fun j e => (u.2 j (by omega)).trans (f.2.2 j e)⟩
theorem rW.nx (w : rW t h W) (u : u84 h h1) : rW t h1 W := ⟨(u.2 13 (by omega)).trans w.1, plR_fr W 0 (fun j _ _ => by rw [u.1 87 (by decide)]) w.2⟩
theorem rP.nx (p : rP h o P) (u : u84 h h1) : rP h1 o P := ⟨(u.2 16 (by omega)).trans p.1, (u.2 17 (by omega)).trans p.2.1, p.2.2.fr (fun j _ _ => by rw [u.1 89 (by decide)])⟩
theorem r_openAt (p : plP h P) (e16 : h 84 16 = (P.length : Int)) (hp : P.length < 160) (q : Q (vI (opI P)) h) : Runs D 199 0 [vA 84, none] [] h Q := by
  have L : ∀ R : List Int, plP h R → R.length < 160 → Q (vI (opI R)) h → Runs D 199 7 [vA 84, vI ((R.length : Int) - 1)] [] h Q := by
    intro R
    induction R with
    | nil =>
      intro _ _ q
      refine Runs.go 10 [] ?_
      exact br.t (show ((0 : Nat) : Int) - 1 < 0 by decide) (QI q (show ((0 : Nat) : Int) - 1 = -1 by decide))
    | cons c R ih =>
      intro p hl q
      have l : ((c :: R).length : Int) = R.length + 1 := by simp
      have l' : (c :: R).length = R.length + 1 := by simp
      rw [l, show (R.length : Int) + 1 - 1 = R.length by omega]
      unfold opI at q
      refine Runs.go 20 [7] ?_
      refine br.f (by omega) ?_
      refine ⟨show 0 ≤ (R.length : Int) ∧ (R.length : Int) < (160 : Int) by omega, ?_⟩
      refine br.i (fun z => ?_) (fun z => ?_)
      · have z' : 40 ≤ h 89 (R.length : Int) := z
        rw [p.1] at z'
        rw [if_pos z'] at q
        exact q
      · have z' : ¬ 40 ≤ h 89 (R.length : Int) := z
        rw [p.1] at z'
        rw [if_neg z'] at q
        refine ⟨by omega, ?_⟩
        have R1 := ih p.2 (by omega) q
        rw [show (R.length : Int) + -1 = R.length - 1 by omega]
        exact R1
  have R1 := L P p hp q
  rw [← e16] at R1
  refine Runs.go 10 [7] ?_
  exact ⟨show -2147483648 ≤ h 84 16 - 1 ∧ h 84 16 - 1 < 2147483648 by omega, R1⟩
theorem r_openNow (p : plP h P) (e16 : h 84 16 = (P.length : Int)) (hp : P.length < 160) (q : Q (vI (opN P)) h) : Runs (D + 1) 200 0 [vA 84] [] h Q := by
  refine Runs.go 20 [] ?_
  refine r_openAt p e16 hp ?_
  rcases op_at p with z | z
  · refine br.f (by omega) ?_
    exact QI q z.2.symm
  · refine br.t (by omega) ?_
    refine r_openAt p e16 hp ?_
    exact ⟨⟨z.1.1, show opI P < (160 : Int) by omega⟩, QI q z.2.1⟩
theorem r_isCmp (p : plP h P) (e16 : h 84 16 = (P.length : Int)) (hp : P.length < 160) (q1 : cmpd P = true → Q (vI 1) h) (q2 : cmpd P = false → Q (vI 0) h) : Runs (D + 1) 201 0 [vA 84, none] [] h Q := by
  have L : ∀ R : List Int, plP h R → R.length < 160 → (cmpd R = true → Q (vI 1) h) → (cmpd R = false → Q (vI 0) h) → Runs (D + 1) 201 7 [vA 84, vI ((R.length : Int) - 1)] [] h Q := by
    intro R
    induction R with
    | nil =>
      intro _ _ q1 q2
      refine Runs.go 20 [] ?_
      refine br.t (show ((0 : Nat) : Int) - 1 < 0 by decide) ?_
      refine br.t (show ((0 : Nat) : Int) - 1 < 0 by decide) ?_
      exact ⟨by omega, q2 rfl⟩
    | cons c R ih =>
      intro p hl q1 q2
      have l : ((c :: R).length : Int) = R.length + 1 := by simp
      have l' : (c :: R).length = R.length + 1 := by simp
      rw [l, show (R.length : Int) + 1 - 1 = R.length by omega]
      have b : 0 ≤ (R.length : Int) ∧ (R.length : Int) < (160 : Int) := by omega
      unfold cmpd at q1 q2
      refine Runs.go 30 [7] ?_
      refine br.f (by omega) ?_
      refine ⟨b, ?_⟩
      refine r_rank ?_
      rw [p.1]
      refine br.i (fun z => ?_) (fun z => ?_)
      · rw [if_neg (by omega)] at q1 q2
        refine br.f (by omega) ?_
        refine ⟨b, ?_⟩
        refine r_rank ?_
        rw [p.1]
        refine br.i (fun y => ⟨by omega, q2 (decide_eq_false y)⟩) (fun y => ⟨by omega, q1 (decide_eq_true (Decidable.not_not.mp y))⟩)
      · rw [if_pos (by omega)] at q1 q2
        refine ⟨by omega, ?_⟩
        have R1 := ih p.2 (by omega) q1 q2
        rw [show (R.length : Int) + -1 = R.length - 1 by omega]
        exact R1
  have R1 := L P p hp q1 q2
  rw [← e16] at R1
  refine Runs.go 10 [7] ?_
  exact ⟨show -2147483648 ≤ h 84 16 - 1 ∧ h 84 16 - 1 < 2147483648 by omega, R1⟩
theorem r_ask (p : plP h P) (e16 : h 84 16 = (P.length : Int)) (hp : P.length < 160) (q1 : askA P → Q (vI 1) h) (q2 : ¬ askA P → Q (vI 0) h) : Runs (D + 2) 202 0 [vA 84] [] h Q := by
  refine Runs.go 40 [] ?_
  refine r_openNow p e16 hp ?_
  refine br.i (fun z => ?_) (fun z => ?_)
  · have z' : opN P ≠ 42 := z
    refine ⟨by omega, q2 ?_⟩
    cases P with
    | nil => exact fun x => x
    | cons c R => exact fun x => z' x.1
  · have z' : opN P = 42 := Decidable.not_not.mp z
    cases P with
    | nil => exact absurd z' (by decide)
    | cons c R =>
      have l : ((c :: R).length : Int) = R.length + 1 := by simp
      have l' : (c :: R).length = R.length + 1 := by simp
      have e1 : h 89 (h 84 16 - 1) = c := by
        rw [e16, l, show (R.length : Int) + 1 - 1 = R.length by omega]
        exact p.1
      have b0 : -2147483648 ≤ h 84 16 - 1 ∧ h 84 16 - 1 < 2147483648 := by omega
      have b : 0 ≤ h 84 16 - 1 ∧ h 84 16 - 1 < (160 : Int) := by omega
      refine ⟨b0, ⟨b, ?_⟩⟩
      refine br.i (fun y => ?_) (fun y => ?_)
      · have y' : 40 ≤ h 89 (h 84 16 - 1) := y
        rw [e1] at y'
        exact ⟨by omega, q1 ⟨z', Or.inl y'⟩⟩
      · have y' : ¬ 40 ≤ h 89 (h 84 16 - 1) := y
        rw [e1] at y'
        refine ⟨b0, ⟨b, ?_⟩⟩
        refine r_rank ?_
        rw [e1]
        refine r_isIn ?_
        refine br.i (fun x => ?_) (fun x => ?_)
        · have x' := b2i_z x
          exact ⟨by omega, q2 (fun v => by rcases v.2 with v | v; exact y' v; exact x' v)⟩
        · have x' := b2i_nz x
          exact ⟨by omega, q1 ⟨z', Or.inr x'⟩⟩
/-- one that opens -/
theorem r_opened {c : Int} (E : rEn t law G N en) (hk : 0 ≤ k ∧ k < N) (nk : G 80 k ≠ 48) (s : rS t G en h k o P W) (hp : P.length < 159) (ob : 0 ≤ o ∧ o ≤ 8) (q1 : o = 8 → Q (vI 3) h)
    (q2 : o ≠ 8 → ∀ h1, rS t G en h1 (k + 1) (o + 1) (c :: P) W → h1 84 18 = h 84 18 → Q (vI 0) h1) : Runs (D + 2) 203 0 [vA 84, vI c] [] h Q := by
  obtain ⟨s1, s2, s3, s4, s5⟩ := s
  have e17 := s4.2.1
  have e16 := s4.1
  have lc : ((c :: P).length : Int) = P.length + 1 := by simp
  refine Runs.go 40 [45] ?_
  refine br.j (fun z => ?_) (fun z => ?_)
  · have z' : h 84 17 = 8 := Decidable.not_not.mp z
    exact q1 (by omega)
  · have z' : h 84 17 ≠ 8 := z
    have K : ∀ g : Hp, g = hup (hup (hup h 84 17 (h 84 17 + 1)) 89 (h 84 16) c) 84 16 (h 84 16 + 1) → Runs (D + 1) 188 0 [vA 84, none] [] g (fun r h2 => Runs (D + 2) 203 45 [vA 84, vI c] (pushR r []) h2 Q) := by
      intro g eg
      have gf : rF t G g := by
        subst eg
        refine ⟨fun q a b d => ?_, fun j e => ?_, fun j e => ?_⟩
        · rw [hup_o a, hup_o d, hup_o a]; exact s1.1 q a b d
        · rw [hup_o (by decide), hup_o (by decide), hup_o (by decide)]; exact s1.2.1 j e
        · rw [hup_nj (by omega), hup_o (by decide), hup_nj (by omega)]; exact s1.2.2 j e
      have gk : rK G en g k := by
        subst eg
        exact s2.cg (fun j x y => by rw [hup_nj (by omega), hup_o (by decide), hup_nj (by omega)])
      have gw : rW t g W := by
        subst eg
        exact ⟨by rw [hup_nj (by decide), hup_o (by decide), hup_nj (by decide)]; exact s3.1, plR_fr W 0 (fun j _ _ => by rw [hup_o (by decide), hup_o (by decide), hup_o (by decide)]) s3.2⟩
      have gp : rP g (o + 1) (c :: P) := by
        subst eg
        refine ⟨?_, ?_, ?_, ?_⟩
        · rw [hup_eq, e16, lc]
        · rw [hup_nj (by decide), hup_o (by decide), hup_eq, e17]
        · rw [hup_o (by decide), ← e16, hup_eq]
        · exact s4.2.2.fr (fun j x y => by rw [hup_o (by decide), hup_nj (by omega), hup_o (by decide)])
      have g18 : g 84 18 = h 84 18 := by
        subst eg
        rw [hup_nj (by decide), hup_o (by decide), hup_nj (by decide)]
      refine r_adv E.1 hk nk gf gk (fun h1 u k1 => ?_)
      refine Runs.go 10 [] ?_
      refine q2 (by omega) h1 ⟨gf.nx u, k1, gw.nx u, gp.nx u, by omega⟩ ?_
      rw [u.2 18 (by omega)]
      exact g18
    refine ⟨show -2147483648 ≤ h 84 17 + 1 ∧ h 84 17 + 1 < 2147483648 by omega, ?_⟩
    have x16 : (hup h 84 17 (h 84 17 + 1)) 84 16 = h 84 16 := by rw [hup_nj (by decide)]
    refine ⟨show 0 ≤ h 84 16 ∧ h 84 16 < (160 : Int) by omega, ?_⟩
    refine ⟨show -2147483648 ≤ h 84 16 + 1 ∧ h 84 16 + 1 < 2147483648 by omega, ?_⟩
    exact K _ rfl
end SG
