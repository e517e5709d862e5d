/-! TEXTS: the reference's pile of signs -/
theorem lcI_0 {x y : Int} : lcI x y = 0 ↔ x = y := by
  unfold lcI
  constructor
  · intro z
    split at z
    · exact absurd z (by decide)
    · split at z
      · assumption
      · exact absurd z (by decide)
  · intro z
    rw [if_neg (by omega), if_pos z]
def rk (o : Int) : Int := if 40 ≤ o then 0 else if o = 22 then 1 else if o = 21 then 2 else if o = 20 then 3 else if 10 ≤ o then 4 else if o = 5 ∨ o = 2 ∨ o = 4 then 7 else if 8 ≤ o then 6 else 5
def opN : List Int → Int
  | [] => -1
  | c :: P => if 40 ≤ c then c else opN P
def opI : List Int → Int
  | [] => -1
  | c :: P => if 40 ≤ c then (P.length : Int) else opI P
def cmpd : List Int → Bool
  | [] => false
  | c :: P => if 4 < rk c then cmpd P else decide (rk c = 4)
def plP (h : Hp) : List Int → Prop
  | [] => True
  | c :: P => h 89 (P.length : Int) = c ∧ plP h P
def nn1 (c : Int) : Int := if rk c = 7 ∨ c = 20 then 1 else 0
def nnt : List Int → Int
  | [] => 0
  | c :: P => nn1 c + nnt P
def ems (ops : List Int) : List (Int × Int) := ops.map (fun c => (c, 0))
def askA : List Int → Prop
  | [] => False
  | c :: P => opN (c :: P) = 42 ∧ (40 ≤ c ∨ (1 ≤ rk c ∧ rk c ≤ 3))
def rF (t : Int) (G h : Hp) : Prop := (∀ q, q ≠ 84 → q ≠ 87 → q ≠ 89 → h q = G q) ∧ (∀ j, ¬ (705 * t + 97 ≤ j ∧ j < 705 * t + 705) → h 87 j = G 87 j) ∧ (∀ j, (j < 7 ∨ j = 12 ∨ j = 14 ∨ j = 19) → h 84 j = G 84 j)
def rK (G : Hp) (en : Int → Int) (h : Hp) (k : Int) : Prop := h 84 7 = en k ∧ h 84 8 = G 81 k ∧ rTok (G 80 k) (G 82 k) (h 84 9) (h 84 10) (h 84 11)
def rW (t : Int) (h : Hp) (W : List (Int × Int)) : Prop := h 84 13 = (W.length : Int) ∧ plR h (705 * t + 97) 0 W
def rP (h : Hp) (o : Int) (P : List Int) : Prop := h 84 16 = (P.length : Int) ∧ h 84 17 = o ∧ plP h P
def rS (t : Int) (G : Hp) (en : Int → Int) (h : Hp) (k o : Int) (P : List Int) (W : List (Int × Int)) : Prop := rF t G h ∧ rK G en h k ∧ rW t h W ∧ rP h o P ∧ (W.length : Int) + P.length ≤ k
theorem plP.fr {h h1 : Hp} : ∀ {P : List Int}, (∀ j, 0 ≤ j → j < (P.length : Int) → h1 89 j = h 89 j) → plP h P → plP h1 P
  | [], _, _ => trivial
  | c :: P, e, p => by
    have l : ((c :: P).length : Int) = P.length + 1 := by simp
    exact ⟨by rw [e _ (by omega) (by omega)]; exact p.1, plP.fr (fun j a b => e j a (by omega)) p.2⟩
section PI
variable {h : Hp} {Q : aPO} {D : Nat} {G : Hp} {N k t o : Int} {en : Int → Int} {P : List Int} {W : List (Int × Int)}
theorem r_w2 {x y : Int} (q : Q (vL (lOr (lShl x 8) y)) h) : Runs D 189 0 [vI x, vI y] [] h Q := by
  refine Runs.go 20 [] ?_
  exact q
theorem r_w3 {x y z : Int} (q : Q (vL (lOr (lShl (lOr (lShl x 8) y) 8) z)) h) : Runs (D + 1) 190 0 [vI x, vI y, vI z] [] h Q := by
  refine Runs.go 20 [] ?_
  exact r_w2 q
theorem r_w4 {x y z w : Int} (q : Q (vL (lOr (lShl (lOr (lShl (lOr (lShl x 8) y) 8) z) 8) w)) h) : Runs (D + 2) 191 0 [vI x, vI y, vI z, vI w] [] h Q := by
  refine Runs.go 20 [] ?_
  exact r_w3 q
theorem r_w5 {x y z w v : Int} (q : Q (vL (lOr (lShl (lOr (lShl (lOr (lShl (lOr (lShl x 8) y) 8) z) 8) w) 8) v)) h) : Runs (D + 3) 192 0 [vI x, vI y, vI z, vI w, vI v] [] h Q := by
  refine Runs.go 20 [] ?_
  exact r_w4 q
theorem r_w6 {x y z w v u : Int} (q : Q (vL (lOr (lShl (lOr (lShl (lOr (lShl (lOr (lShl (lOr (lShl x 8) y) 8) z) 8) w) 8) v) 8) u)) h) : Runs (D + 4) 193 0 [vI x, vI y, vI z, vI w, vI v, vI u] [] h Q := by
  refine Runs.go 20 [] ?_
  exact r_w5 q
theorem r_isWord {c v w : Int} (rt : rTok c v (h 84 9) (h 84 10) (h 84 11)) (i : Nat) (hi : i < 32) (h5 : i ≠ 5) (e : w = Hw i) (q1 : c = i → Q (vI 1) h) (q2 : c ≠ i → Q (vI 0) h) : Runs D 194 0 [vA 84, vL w, none] [] h Q := by
  have r1 := rt.1
  refine Runs.go 20 [] ?_
  refine br.i (fun z => ?_) (fun z => ?_)
  · have z' : h 84 9 ≠ 2 := z
    exact ⟨by omega, q2 (by omega)⟩
  · have z' : h 84 9 = 2 := Decidable.not_not.mp z
    have cw : c ≤ 32 := by omega
    have rw' := rt.2.2 cw i hi h5
    refine br.i (fun y => ?_) (fun y => ?_)
    · have y' : lcI (h 84 11) w ≠ 0 := y
      refine ⟨by omega, q2 (fun x => y' (lcI_0.mpr ?_))⟩
      rw [e]
      exact rw'.mpr x
    · have y' : lcI (h 84 11) w = 0 := Decidable.not_not.mp y
      rw [lcI_0, e] at y'
      exact ⟨by omega, q1 (rw'.mp y')⟩
theorem r_nameOf {c v : Int} (rt : rTok c v (h 84 9) (h 84 10) (h 84 11)) (q : Q (vI (if 12 ≤ c ∧ c ≤ 20 then c - 12 else -1)) h) : Runs (D + 4) 196 0 [vA 84] [] h Q := by
  have r1 := rt.1
  have X : ∀ (i : Nat) (w : Int), i < 32 → i ≠ 5 → c ≤ 32 → w = Hw i → ∀ R : Prop, (lcI (h 84 11) w ≠ 0 → c ≠ i) ∧ (¬ lcI (h 84 11) w ≠ 0 → c = i) := by
    intro i w hi h5 cw e R
    have rw' := rt.2.2 cw i hi h5
    rw [← e] at rw'
    constructor
    · intro y x
      exact y (lcI_0.mpr (rw'.mpr x))
    · intro y
      exact rw'.mp (lcI_0.mp (Decidable.not_not.mp y))
  refine Runs.go 250 [] ?_
  refine br.j (fun z => ?_) (fun z => ?_)
  · have z' : ¬ h 84 9 = 2 := z
    exact QI q (by rw [if_neg (by omega)])
  · have z' : h 84 9 = 2 := z
    have cw : c ≤ 32 := by omega
    refine r_w3 ?_
    refine br.j (fun y => QI q ?_) (fun y0 => ?_)
    · have y' : c = ((12 : Nat) : Int) := (X 12 _ (by decide) (by decide) cw (by decide +kernel) True).2 y
      rw [if_pos (by omega)]; omega
    have n0 := (X 12 _ (by decide) (by decide) cw (by decide +kernel) True).1 y0
    refine r_w3 ?_
    refine br.j (fun y => QI q ?_) (fun y1 => ?_)
    · have y' : c = ((13 : Nat) : Int) := (X 13 _ (by decide) (by decide) cw (by decide +kernel) True).2 y
      rw [if_pos (by omega)]; omega
    have n1 := (X 13 _ (by decide) (by decide) cw (by decide +kernel) True).1 y1
    refine r_w5 ?_
    refine br.j (fun y => QI q ?_) (fun y2 => ?_)
    · have y' : c = ((14 : Nat) : Int) := (X 14 _ (by decide) (by decide) cw (by decide +kernel) True).2 y
      rw [if_pos (by omega)]; omega
    have n2 := (X 14 _ (by decide) (by decide) cw (by decide +kernel) True).1 y2
    refine r_w4 ?_
    refine br.j (fun y => QI q ?_) (fun y3 => ?_)
    · have y' : c = ((15 : Nat) : Int) := (X 15 _ (by decide) (by decide) cw (by decide +kernel) True).2 y
      rw [if_pos (by omega)]; omega
    have n3 := (X 15 _ (by decide) (by decide) cw (by decide +kernel) True).1 y3
    refine r_w4 ?_
    refine br.j (fun y => QI q ?_) (fun y4 => ?_)
    · have y' : c = ((16 : Nat) : Int) := (X 16 _ (by decide) (by decide) cw (by decide +kernel) True).2 y
      rw [if_pos (by omega)]; omega
    have n4 := (X 16 _ (by decide) (by decide) cw (by decide +kernel) True).1 y4
    refine r_w4 ?_
    refine br.j (fun y => QI q ?_) (fun y5 => ?_)
    · have y' : c = ((17 : Nat) : Int) := (X 17 _ (by decide) (by decide) cw (by decide +kernel) True).2 y
      rw [if_pos (by omega)]; omega
    have n5 := (X 17 _ (by decide) (by decide) cw (by decide +kernel) True).1 y5
    refine r_w5 ?_
    refine br.j (fun y => QI q ?_) (fun y6 => ?_)
    · have y' : c = ((18 : Nat) : Int) := (X 18 _ (by decide) (by decide) cw (by decide +kernel) True).2 y
      rw [if_pos (by omega)]; omega
    have n6 := (X 18 _ (by decide) (by decide) cw (by decide +kernel) True).1 y6
    refine r_w5 ?_
    refine br.j (fun y => QI q ?_) (fun y7 => ?_)
    · have y' : c = ((19 : Nat) : Int) := (X 19 _ (by decide) (by decide) cw (by decide +kernel) True).2 y
      rw [if_pos (by omega)]; omega
    have n7 := (X 19 _ (by decide) (by decide) cw (by decide +kernel) True).1 y7
    refine r_w5 ?_
    refine br.j (fun y => QI q ?_) (fun y8 => QI q ?_)
    · have y' : c = ((20 : Nat) : Int) := (X 20 _ (by decide) (by decide) cw (by decide +kernel) True).2 y
      rw [if_pos (by omega)]; omega
    · have n8 := (X 20 _ (by decide) (by decide) cw (by decide +kernel) True).1 y8
      rw [if_neg (by omega)]
theorem r_rank {c : Int} (q : Q (vI (rk c)) h) : Runs D 197 0 [vI c] [] h Q := by
  unfold rk at q
  refine Runs.go 40 [] ?_
  refine br.j (fun z => ?_) (fun z => ?_)
  · rw [if_pos (by omega)] at q; exact q
  rw [if_neg (by omega)] at q
  refine br.j (fun z1 => ?_) (fun z1 => ?_)
  · rw [if_pos (Decidable.not_not.mp z1)] at q; exact q
  rw [if_neg z1] at q
  refine br.j (fun z2 => ?_) (fun z2 => ?_)
  · rw [if_pos (Decidable.not_not.mp z2)] at q; exact q
  rw [if_neg z2] at q
  refine br.j (fun z3 => ?_) (fun z3 => ?_)
  · rw [if_pos (Decidable.not_not.mp z3)] at q; exact q
  rw [if_neg z3] at q
  refine br.j (fun z4 => ?_) (fun z4 => ?_)
  · rw [if_pos (by omega)] at q; exact q
  rw [if_neg (by omega)] at q
  have F : ¬ (c = 5 ∨ c = 2 ∨ c = 4) → (8 ≤ c → Q (vI 6) h) ∧ (¬ 8 ≤ c → Q (vI 5) h) := by
    intro z
    rw [if_neg z] at q
    exact ⟨fun y => by rw [if_pos y] at q; exact q, fun y => by rw [if_neg y] at q; exact q⟩
  refine br.i (fun z5 => ?_) (fun z5 => ?_)
  · rw [if_pos (Or.inl z5)] at q; exact q
  refine br.i (fun z6 => ?_) (fun z6 => ?_)
  · rw [if_pos (Or.inr (Or.inl z6))] at q; exact q
  refine br.j (fun z7 => ?_) (fun z7 => ?_)
  · rw [if_pos (Or.inr (Or.inr (Decidable.not_not.mp z7)))] at q; exact q
  have G := F (fun y => by rcases y with y | y | y; exact z5 y; exact z6 y; exact z7 y)
  refine br.j (fun z8 => G.1 (by omega)) (fun z8 => G.2 (by omega))
theorem r_emit {op v : Int} (t4 : 0 ≤ t ∧ t < 4) (e12 : h 84 12 = 705 * t) (w : rW t h W) (hW : W.length ≤ 301) (q : ∀ h1, (∀ o, o ≠ 84 → o ≠ 87 → h1 o = h o) → (∀ j, j ≠ 13 → h1 84 j = h 84 j) → (∀ j, ¬ (705 * t + 97 ≤ j ∧ j < 705 * t + 705) → h1 87 j = h 87 j) → rW t h1 (W ++ [(op, v)]) → Q none h1) : Runs D 195 0 [vA 84, vI op, vI v] [] h Q := by
  have e13 := w.1
  have K : ∀ h1 : Hp, h1 = hup (hup (hup h 87 (h 84 12 + 97 + 2 * h 84 13) op) 87 (h 84 12 + 97 + 2 * h 84 13 + 1) v) 84 13 (h 84 13 + 1) → Q none h1 := by
    intro h1 e
    subst e
    rw [e12, e13]
    refine q _ (fun o a b => ?_) (fun j a => ?_) (fun j a => ?_) ⟨?_, ?_⟩
    · rw [hup_o a, hup_o b, hup_o b]
    · rw [hup_nj a, hup_o (by decide), hup_o (by decide)]
    · rw [hup_o (by decide), hup_nj (by omega), hup_nj (by omega)]
    · rw [hup_eq, List.length_append]
      simp
    · rw [plR_app]
      refine ⟨plR_fr W 0 (fun j a b => ?_) w.2, ⟨?_, ?_⟩, trivial⟩
      · rw [hup_o (by decide), hup_nj (by omega), hup_nj (by omega)]
      · rw [hup_o (by decide), hup_nj (by omega), show 705 * t + 97 + 2 * (0 + (W.length : Int)) = 705 * t + 97 + 2 * (W.length : Int) by omega, hup_eq]
      · rw [hup_o (by decide), show 705 * t + 97 + 2 * (0 + (W.length : Int)) + 1 = 705 * t + 97 + 2 * (W.length : Int) + 1 by omega, hup_eq]
  have b1 : -2147483648 ≤ h 84 12 + 97 ∧ h 84 12 + 97 < 2147483648 := by omega
  have b2 : -2147483648 ≤ 2 * h 84 13 ∧ 2 * h 84 13 < 2147483648 := by omega
  have b3 : -2147483648 ≤ h 84 12 + 97 + 2 * h 84 13 ∧ h 84 12 + 97 + 2 * h 84 13 < 2147483648 := by omega
  have b4 : 0 ≤ h 84 12 + 97 + 2 * h 84 13 ∧ h 84 12 + 97 + 2 * h 84 13 < (2820 : Int) := by omega
  have b5 : -2147483648 ≤ h 84 12 + 97 + 2 * h 84 13 + 1 ∧ h 84 12 + 97 + 2 * h 84 13 + 1 < 2147483648 := by omega
  have b6 : 0 ≤ h 84 12 + 97 + 2 * h 84 13 + 1 ∧ h 84 12 + 97 + 2 * h 84 13 + 1 < (2820 : Int) := by omega
  have b7 : -2147483648 ≤ h 84 13 + 1 ∧ h 84 13 + 1 < 2147483648 := by omega
  refine Runs.go 60 [] ?_
  exact ⟨b1, ⟨b2, ⟨b3, ⟨b4, ⟨b1, ⟨b2, ⟨b3, ⟨b5, ⟨b6, ⟨b7, K _ rfl⟩⟩⟩⟩⟩⟩⟩⟩⟩⟩
theorem rF.em {h1 : Hp} (f : rF t G h) (a : ∀ o, o ≠ 84 → o ≠ 87 → h1 o = h o) (b : ∀ j, j ≠ 13 → h1 84 j = h 84 j) (c : ∀ j, ¬ (705 * t + 97 ≤ j ∧ j < 705 * t + 705) → h1 87 j = h 87 j) : rF t G h1 :=
  ⟨fun q e1 e2 e3 => (a q e1 e2).trans (f.1 q e1 e2 e3), fun j e => (c j e).trans (f.2.1 j e), fun j e => (b j (by omega)).trans (f.2.2 j e)⟩
theorem rK.cg {h1 : Hp} (f : rK G en h k) (e : ∀ j, 7 ≤ j → j ≤ 11 → h1 84 j = h 84 j) : rK G en h1 k := by
  unfold rK at *
  rw [e 7 (by decide) (by decide), e 8 (by decide) (by decide), e 9 (by decide) (by decide), e 10 (by decide) (by decide), e 11 (by decide) (by decide)]
  exact f
/-- one sign comes off the pile -/
theorem r_pop {c l : Int} (t4 : 0 ≤ t ∧ t < 4) (g12 : G 84 12 = 705 * t) (s : rS t G en h k (o + nn1 c) (c :: P) W) (kb : k ≤ 300) (hl : l ≤ rk c) (hp : P.length < 159)
    (ob : 0 ≤ o ∧ o ≤ 100) (q : ∀ h1, rS t G en h1 k o P (W ++ [(c, 0)]) → h1 84 18 = h 84 18 → Runs (D + 1) 198 0 [vA 84, vI l] [] h1 Q) : Runs (D + 1) 198 0 [vA 84, vI l] [] h Q := by
  obtain ⟨s1, s2, s3, s4, s5⟩ := s
  have lc : ((c :: P).length : Int) = P.length + 1 := by simp
  have e16 : h 84 16 = P.length + 1 := by rw [s4.1]; exact lc
  have e12 : h 84 12 = 705 * t := by rw [s1.2.2 12 (by omega)]; exact g12
  have e17 := s4.2.1
  have top : h 89 (P.length : Int) = c := s4.2.2.1
  have p1 : 0 ≤ h 84 16 - 1 ∧ h 84 16 - 1 < (160 : Int) := by omega
  have t1 : h 89 (h 84 16 - 1) = c := by rw [e16, show (P.length : Int) + 1 - 1 = P.length by omega]; exact top
  refine Runs.go 60 [0, 80] ?_
  refine br.f (show ¬ h 84 16 ≤ 0 by omega) ?_
  refine ⟨show -2147483648 ≤ h 84 16 - 1 ∧ h 84 16 - 1 < 2147483648 by omega, ⟨p1, ?_⟩⟩
  refine r_rank ?_
  refine br.f (by rw [t1]; omega) ?_
  refine ⟨show -2147483648 ≤ h 84 16 - 1 ∧ h 84 16 - 1 < 2147483648 by omega, ?_⟩
  have w1 : rW t (hup h 84 16 (h 84 16 - 1)) W := ⟨by rw [hup_nj (by decide)]; exact s3.1, plR_fr W 0 (fun j _ _ => by rw [hup_o (by decide)]) s3.2⟩
  have x16 : (hup h 84 16 (h 84 16 - 1)) 84 16 = P.length := by rw [hup_eq]; omega
  refine ⟨by show 0 ≤ (hup h 84 16 (h 84 16 - 1)) 84 16 ∧ (hup h 84 16 (h 84 16 - 1)) 84 16 < (160 : Int); omega, ?_⟩
  have arg : (hup h 84 16 (h 84 16 - 1)) 89 ((hup h 84 16 (h 84 16 - 1)) 84 16) = c := by rw [hup_o (by decide), x16]; exact top
  refine r_emit (t := t) (W := W) t4 (by rw [hup_nj (by decide)]; exact e12) w1 (by omega) (fun h1 a b cc w => ?_)
  rw [arg] at w
  have f1 : rF t G h1 := by
    refine rF.em (h := hup h 84 16 (h 84 16 - 1)) ⟨fun q e1 e2 e3 => ?_, fun j e => ?_, fun j e => ?_⟩ a b cc
    · rw [hup_o e1]; exact s1.1 q e1 e2 e3
    · rw [hup_o (by decide)]; exact s1.2.1 j e
    · rw [hup_nj (by omega)]; exact s1.2.2 j e
  have k1 : rK G en h1 k := s2.cg (fun j x y => by rw [b j (by omega), hup_nj (by omega)])
  have y16 : h1 84 16 = P.length := by rw [b 16 (by decide)]; exact x16
  have y17 : h1 84 17 = o + nn1 c := by rw [b 17 (by decide), hup_nj (by decide)]; exact e17
  have y18 : h1 84 18 = h 84 18 := by rw [b 18 (by decide), hup_nj (by decide)]
  have y89 : h1 89 = h 89 := by rw [a 89 (by decide) (by decide), hup_o (by decide)]
  have tp2 : h1 89 (h1 84 16) = c := by rw [y89, y16]; exact top
  have pb : 0 ≤ h1 84 16 ∧ h1 84 16 < (160 : Int) := by omega
  have pp : plP h1 P := s4.2.2.2.fr (fun j _ _ => by rw [y89])
  have lw : ((W ++ [(c, (0 : Int))]).length : Int) = W.length + 1 := by simp
  have Z : nn1 c = 1 → Runs (D + 1) 198 80 [vA 84, vI l] [] h1 Q := by
    intro e
    refine Runs.go 20 [0] ?_
    refine ⟨show -2147483648 ≤ h1 84 17 - 1 ∧ h1 84 17 - 1 < 2147483648 by omega, ?_⟩
    refine q _ ⟨⟨fun q e1 e2 e3 => ?_, fun j e => ?_, fun j e => ?_⟩, k1.cg (fun j x y => by rw [hup_nj (by omega)]), ⟨?_, ?_⟩, ⟨?_, ?_, ?_⟩, ?_⟩ ?_
    · rw [hup_o e1]; exact f1.1 q e1 e2 e3
    · rw [hup_o (by decide)]; exact f1.2.1 j e
    · rw [hup_nj (by omega)]; exact f1.2.2 j e
    · rw [hup_nj (by decide)]; exact w.1
    · exact plR_fr _ 0 (fun j _ _ => by rw [hup_o (by decide)]) w.2
    · rw [hup_nj (by decide)]; exact y16
    · rw [hup_eq]; omega
    · exact pp.fr (fun j _ _ => by rw [hup_o (by decide)])
    · omega
    · rw [hup_nj (by decide)]; exact y18
  refine ⟨pb, ?_⟩
  refine r_rank ?_
  rw [tp2]
  refine br.i (fun z => Z (by unfold nn1; rw [if_pos (Or.inl z)])) (fun z1 => ?_)
  refine ⟨pb, ?_⟩
  refine br.j (fun z => Z ?_) (fun z2 => ?_)
  · have z' : h1 89 (h1 84 16) = 20 := Decidable.not_not.mp z
    rw [tp2] at z'
    unfold nn1
    rw [if_pos (Or.inr z')]
  · have z' : ¬ h1 89 (h1 84 16) = 20 := z2
    rw [tp2] at z'
    have n0 : nn1 c = 0 := by
      unfold nn1
      rw [if_neg]
      rintro (y | y)
      · exact z1 y
      · exact z' y
    exact q h1 ⟨f1, k1, w, ⟨y16, by omega, pp⟩, by omega⟩ y18
def top1 (P : List Int) (l : Int) : Prop := ∀ c R, P = c :: R → rk c < l
theorem r_stop {l : Int} (s : rS t G en h k o P W) (hp : P.length < 160) (hs : top1 P l) (q : Q none h) : Runs (D + 1) 198 0 [vA 84, vI l] [] h Q := by
  have e16 := s.2.2.2.1.1
  cases P with
  | nil =>
    refine Runs.go 20 [] ?_
    exact br.t (show h 84 16 ≤ 0 by rw [e16]; decide) q
  | cons c P =>
    have lc : ((c :: P).length : Int) = P.length + 1 := by simp
    have lc' : (c :: P).length = P.length + 1 := by simp
    have t1 : h 89 (h 84 16 - 1) = c := by
      rw [e16, lc, show (P.length : Int) + 1 - 1 = P.length by omega]
      exact s.2.2.2.1.2.2.1
    refine Runs.go 20 [] ?_
    refine br.f (show ¬ h 84 16 ≤ 0 by omega) ?_
    refine ⟨show -2147483648 ≤ h 84 16 - 1 ∧ h 84 16 - 1 < 2147483648 by omega, ⟨show 0 ≤ h 84 16 - 1 ∧ h 84 16 - 1 < (160 : Int) by omega, ?_⟩⟩
    refine r_rank ?_
    exact br.t (by rw [t1]; exact hs c P rfl) q
theorem nn1_r {c : Int} : 0 ≤ nn1 c ∧ nn1 c ≤ 1 := by
  unfold nn1
  split <;> omega
theorem nnt_r : ∀ {ops : List Int}, 0 ≤ nnt ops ∧ nnt ops ≤ ops.length
  | [] => ⟨by decide, by decide⟩
  | c :: P => by
    have a := nnt_r (ops := P)
    have b := nn1_r (c := c)
    have l : ((c :: P).length : Int) = P.length + 1 := by simp
    show 0 ≤ nn1 c + nnt P ∧ nn1 c + nnt P ≤ ((c :: P).length : Int)
    omega
theorem r_settle {l : Int} (t4 : 0 ≤ t ∧ t < 4) (g12 : G 84 12 = 705 * t) (kb : k ≤ 300) (ob : 0 ≤ o ∧ o ≤ 20) (hs : top1 P l) : ∀ (ops : List Int) (W : List (Int × Int)) (h : Hp), rS t G en h k (o + nnt ops) (ops ++ P) W → (∀ c ∈ ops, l ≤ rk c) → (ops ++ P).length < 80 →
    (∀ h1, rS t G en h1 k o P (W ++ ems ops) → h1 84 18 = h 84 18 → Q none h1) → Runs (D + 1) 198 0 [vA 84, vI l] [] h Q := by
  intro ops
  induction ops with
  | nil =>
    intro W h s _ hp q
    have s' : rS t G en h k o P W := by
      have e : o + nnt [] = o := Int.add_zero o
      rw [e] at s
      exact s
    refine r_stop s' (by have : ([] ++ P).length = P.length := rfl; omega) hs (q h ?_ rfl)
    rw [show ems [] = [] from rfl, List.append_nil]
    exact s'
  | cons c ops ih =>
    intro W h s ha hp q
    have hp' : (c :: (ops ++ P)).length < 80 := hp
    have lc : (c :: (ops ++ P)).length = (ops ++ P).length + 1 := by simp
    have nr := nnt_r (ops := ops)
    have la : (ops ++ P).length = ops.length + P.length := by simp
    refine r_pop (en := en) (W := W) (c := c) (P := ops ++ P) (o := o + nnt ops) t4 g12 ?_ kb (ha c List.mem_cons_self) (by omega) (by omega) (fun h1 s1 e1 => ?_)
    · have e : o + nnt (c :: ops) = o + nnt ops + nn1 c := by
        show o + (nn1 c + nnt ops) = _
        omega
      rw [e] at s
      exact s
    · refine ih (W ++ [(c, 0)]) h1 s1 (fun x hx => ha x (List.mem_cons_of_mem _ hx)) (by omega) (fun h2 s2 e2 => q h2 ?_ (e2.trans e1))
      rw [List.append_assoc] at s2
      exact s2
end PI
