/-! TEXTS: the class reads a clause, and a text -/
section CD
variable {T : Nat} {G : Hp} {N k : Int} {h : Hp} {D : Nat} {Q : aPO} {E : List cE}
/-- the end of a clause -/
theorem c_cend {G2 h2 : Hp} {law k2 w : Int} {pr : Int → Int} {x : dX} (hT : tT T) (t : tkn G N) (B : tC T G N h k E) (hw : 0 ≤ w) (n24 : E.length < 24) (nw : w ≤ 2 → ¬ srt E w) (k12 : k < k2 ∧ k2 < N) (g2 : gOk T G G2) (s : cS T G2 N law E.length h2 k2 (lC E + x.1.length))
    (f1 : ∀ j, 0 ≤ j → j < (E.length : Int) * 4 → h2 (T + 1) j = h (T + 1) j) (f2 : h2 (T + 1) ((E.length : Int) * 4 + 0) = w) (f3 : ∀ j, 1 ≤ j → j ≤ parts w → h2 (T + 1) ((E.length : Int) * 4 + j) = pr j) (f4 : ∀ s, (s ≠ w ∨ 3 ≤ w) → h2 (T + 4) s = h (T + 4) s ∧ h2 (T + 5) s = h (T + 5) s)
    (f5 : w ≤ 2 → h2 (T + 4) w = lC E ∧ h2 (T + 5) w = lC E + x.1.length) (f6 : cGr T h h2 (lC E)) (f7 : plC T h2 (lC E) x.1) (hx : (x.1.length : Int) ≤ k2 - k)
    (q1 : G 80 k2 = 45 → k2 + 1 < N → ∀ h1, tC T G N h1 (k2 + 1) (E ++ [(w, pr, x)]) → Q (vI 1) h1) (q2 : G 80 k2 ≠ 45 → ∀ h1, cBd T G 1 k2 h1 → Q (vI 0) h1) : Runs (D + 2) 82 96 [vA 79, vA T, vI w] [] h2 Q := by
  obtain ⟨b1, b2, b3, b4, b5, b6, b7⟩ := B
  have gg := g2.a hT
  have t2 := t.g hT g2
  have lc := lC_0 (E := E)
  have ne := hT.ne
  have n1 : (79 : Nat) ≠ T + 1 ∧ (79 : Nat) ≠ T + 4 ∧ (79 : Nat) ≠ T + 5 := by unfold tT at hT; omega
  have K : G 80 k2 = 45 → ∀ h3 : Hp, h3 = hup (hup h2 79 4 (k2 + 1)) T 5 ((E.length : Int) + 1) → Q (vI 1) h3 := by
    intro e45 h3 e3
    have kn := t.nxt (k := k2) ⟨by omega, k12.2⟩ (by omega)
    have O : ∀ o, o ≠ 79 → o ≠ T → h3 o = h2 o := fun o x y => by subst e3; rw [hup_o y, hup_o x]
    have lC1 : lC (E ++ [(w, pr, x)]) = lC E + x.1.length := lC_app
    have ll : ((E ++ [(w, pr, x)]).length : Int) = E.length + 1 := by simp
    have ll' : (E ++ [(w, pr, x)]).length = E.length + 1 := by simp
    refine q1 e45 kn h3 ⟨fun o a b => ?_, ⟨?_, ?_, ?_, ?_⟩, ⟨?_, ?_⟩, ?_, fun s s0 s3 ns => ?_, by omega, by omega⟩
    · rw [O o a (by omega)]
      exact (s.1 o a (by omega) (by omega) (by omega)).trans (g2 o a b)
    · subst e3
      rw [hup_o (by omega), hup_nj (by decide)]; exact s.2.1.1
    · subst e3
      rw [hup_o (by omega), hup_eq]
    · subst e3
      rw [hup_o (by omega), hup_nj (by decide)]; exact s.2.1.2.2.2.1
    · subst e3
      rw [hup_o (by omega), hup_nj (by decide)]; exact s.2.1.2.2.2.2
    · subst e3
      rw [hup_eq, ll]
    · subst e3
      rw [hup_nj (by decide), hup_o (fun z => ne.1 z.symm), lC1]
      exact s.2.2.1
    · have O1 := O (T + 1) (fun z => n1.1 z.symm) (by omega)
      have O2 := O (T + 2) (fun z => ne.2.1 z.symm) (by omega)
      have O3 := O (T + 3) (fun z => ne.2.2.1 z.symm) (by omega)
      have O4 := O (T + 4) (fun z => n1.2.1 z.symm) (by omega)
      have O5 := O (T + 5) (fun z => n1.2.2 z.symm) (by omega)
      refine rwC_app (rwC_fr (h := h) (by decide) (by decide) (fun j x y => ?_) (fun s hs s2 => ?_) (fun j x y => ?_) b4) ⟨⟨⟨?_, fun j j1 j2 => ?_⟩, fun z => ?_, ?_⟩, trivial⟩
      · rw [O1]
        exact f1 j x (by omega)
      · rw [O4, O5]
        refine f4 s ?_
        by_cases z : s = w
        · exact absurd (z ▸ hs) (nw (by omega))
        · exact Or.inl z
      · rw [O2, O3]
        exact f6 j x (by omega)
      · rw [O1, Int.zero_add]
        exact f2
      · rw [O1, Int.zero_add]
        exact f3 j j1 j2
      · rw [O4, O5, Int.zero_add]
        exact f5 z
      · rw [Int.zero_add]
        exact plC_fr _ _ (fun j _ _ => by rw [O2, O3]; exact ⟨rfl, rfl⟩) f7
    · have O4 := O (T + 4) (fun z => n1.2.1 z.symm) (by omega)
      rw [O4]
      have sw : s ≠ w := fun z => ns ⟨(w, pr, x), List.mem_append_right _ List.mem_cons_self, z.symm⟩
      rw [(f4 s (Or.inl sw)).1]
      exact b5 s s0 s3 (fun z => ns (by obtain ⟨e, e1, e2⟩ := z; exact ⟨e, List.mem_append_left _ e1, e2⟩))
  have e5 : (hup h2 79 4 (k2 + 1)) T 5 = E.length := by rw [hup_o (fun z => ne.1 z.symm)]; exact s.2.2.2
  have S : G 80 k2 = 45 → Runs (D + 2) 82 107 [vA 79, vA T, vI w] [] (hup h2 79 4 (k2 + 1)) Q := by
    intro e45
    have K2 := K e45
    rw [← e5] at K2
    have hB : -2147483648 ≤ (hup h2 79 4 (k2 + 1)) T 5 + 1 ∧ (hup h2 79 4 (k2 + 1)) T 5 + 1 < 2147483648 := by omega
    clear K q1 q2 b1 b2 b3 b4 b5 s f1 f2 f3 f4 f5 f6 f7 t t2 g2 gg
    rcases hT with e | e | e | e <;> subst e
    all_goals (
      refine Runs.go 20 [] ?_
      exact ⟨hB, ⟨by omega, K2 _ rfl⟩⟩)
  refine Runs.go 20 [107] ?_
  refine c_take hT t2 s (by omega) (fun a => ?_) (fun a h1 bd => ?_)
  · rw [gg.1] at a
    exact br.t (by decide) (S a)
  · rw [gg.1] at a
    exact br.f (by decide) ⟨by omega, q2 a h1 (bd.bd hT g2)⟩
theorem c_clause (hT : tT T) (t : tkn G N) (cd0 : ∀ k, 0 ≤ k → k < N → 0 ≤ G 80 k) (B : tC T G N h k E) (hk : 0 ≤ k ∧ k < N) (n48 : G 80 k ≠ 48)
    (q1 : ∀ h1 e k1, ClS (G 80) (G 82) k E e k1 → k < k1 → k1 < N → tC T G N h1 k1 (E ++ [e]) → Q (vI 1) h1) (q2 : ∀ h1 f kf, ClF (G 80) (G 82) k E f kf → 0 ≤ kf ∧ kf < N → cBd T G f kf h1 → Q (vI 0) h1) : Runs (D + 92) 82 0 [vA 79, vA T, none] [] h Q := by
  have t1 := t.1
  have B' := B
  obtain ⟨b1, b2, b3, b4, b5, b6, b7⟩ := B
  have gg := b1.a hT
  have t2 : tkn h N := t.g hT b1
  have c0 := cd0 k hk.1 hk.2
  have lc := lC_0 (E := E)
  have ne := hT.ne
  have n1 : (79 : Nat) ≠ T + 1 ∧ (79 : Nat) ≠ T + 4 ∧ (79 : Nat) ≠ T + 5 := by unfold tT at hT; omega
  have kn := t.nxt hk n48
  have s : cS T h N (h 79 5) E.length h k (lC E) := ⟨fun _ _ _ _ _ => rfl, ⟨b2.1, b2.2.1, rfl, b2.2.2⟩, b3.2, b3.1⟩
  have fail : ∀ (f : Int), ClF (G 80) (G 82) k E f k → ∀ Q' : aPO, (∀ h1, Q (vI 0) h1 → Q' (vI 0) h1) → Runs (D + 91) 80 0 [vA 79, vI f] [] h Q' := by
    intro f cf Q' hq
    exact c_fail hT t2 s hk (fun h1 bd => hq h1 (q2 h1 f k cf hk (bd.bd hT b1)))
  -- behind the checks
  have C : (G 80 k ≤ 2 → ¬ srt E (G 80 k)) → G 80 k ≤ 12 → E.length < 24 → Runs (D + 92) 82 54 [vA 79, vA T, vI (G 80 k)] [] h Q := by
    intro ns w12 n24
    -- the heap behind setPart
    have M : ∀ g2 : Hp, g2 = hup (hup h 79 4 (k + 1)) (T + 1) ((E.length : Int) * 4 + 0) (G 80 k) → Runs (D + 92) 82 70 [vA 79, vA T, vI (G 80 k)] [] g2 Q := by
      intro g2 e2
      have gk : gOk T G g2 := fun o x y => by subst e2; rw [hup_o (by omega), hup_o x]; exact b1 o x y
      have ga := gk.a hT
      have t3 : tkn g2 N := t.g hT gk
      have y3 : g2 79 3 = N := by subst e2; rw [hup_o n1.1, hup_nj (by decide)]; exact b2.1
      have y4 : g2 79 4 = k + 1 := by subst e2; rw [hup_o n1.1, hup_eq]
      have y6 : g2 79 6 = 0 ∧ g2 79 7 = -1 := by subst e2; rw [hup_o n1.1, hup_nj (by decide), hup_nj (by decide)]; exact b2.2.2
      have z5 : g2 T 5 = E.length := by subst e2; rw [hup_o (by omega), hup_o (fun z => ne.1 z.symm)]; exact b3.1
      have z6 : g2 T 6 = lC E := by subst e2; rw [hup_o (by omega), hup_o (fun z => ne.1 z.symm)]; exact b3.2
      have x1 : ∀ j, 0 ≤ j → j < (E.length : Int) * 4 → g2 (T + 1) j = h (T + 1) j := fun j x y => by subst e2; rw [hup_nj (by omega), hup_o (fun z => n1.1 z.symm)]
      have x2 : g2 (T + 1) ((E.length : Int) * 4 + 0) = G 80 k := by subst e2; rw [hup_eq]
      have x3 : ∀ o, o ≠ 79 → o ≠ T + 1 → g2 o = h o := fun o x y => by subst e2; rw [hup_o y, hup_o x]
      refine Runs.go 40 [96] ?_
      refine br.i (fun z => ?_) (fun z => ?_)
      · -- an order
        have z' : 2 < G 80 k := z
        have sg : cS T g2 N (g2 79 5) E.length g2 (k + 1) (lC E) := ⟨fun _ _ _ _ _ => rfl, ⟨y3, y4, rfl, y6⟩, z6, z5⟩
        refine c_order (D := D + 89) (G := g2) (G0 := G) (by omega) hT t3 gk sg (by omega) (by omega) (fun k2 r kl kh G3 h1 o1 s1 u1 u2 => ?_) (fun f kf h1 f0 r kl kh bd => ?_)
        · refine br.f (by decide) ?_
          rw [ga.1, ga.2.2] at r
          rw [ga.2.2] at o1
          have h1o : ∀ o, o ≠ 79 → o ≠ T → o ≠ T + 2 → o ≠ T + 3 → h1 o = G3 o := s1.1
          have e11 := h1o (T + 1) (fun z => n1.1 z.symm) (by omega) (by omega) (by omega)
          have e14 := h1o (T + 4) (fun z => n1.2.1 z.symm) (by omega) (by omega) (by omega)
          have e15 := h1o (T + 5) (fun z => n1.2.2 z.symm) (by omega) (by omega) (by omega)
          have lX : lC E + (eX.1.length : Int) = lC E := by show lC E + ((0 : Nat) : Int) = lC E; omega
          refine c_cend (D := D + 90) (w := G 80 k) (pr := oPar (G 82) (k + 1)) (x := eX) hT t B' c0 n24 ns (by omega) (o1.g gk) (s1.eq lX.symm) (fun j x y => ?_) ?_ (fun j x y => ?_) (fun q hq => ?_) (fun z => by omega) (fun j x y => ?_) trivial (by show ((0 : Nat) : Int) ≤ _; omega) (fun e45 kk h3 b => ?_) (fun e45 h3 bd => ?_)
          · rw [e11, o1.2.1 j (by omega), x1 j x y]
          · rw [e11, o1.2.1 _ (by omega), x2]
          · rw [e11]
            exact o1.2.2 j x y
          · rw [e14, e15, o1.1 (T + 4) (by omega), o1.1 (T + 5) (by omega), x3 (T + 4) (fun z => n1.2.1 z.symm) (by omega), x3 (T + 5) (fun z => n1.2.2 z.symm) (by omega)]
            exact ⟨rfl, rfl⟩
          · rw [u1, u2, x3 (T + 2) (fun z => ne.2.1 z.symm) (by omega), x3 (T + 3) (fun z => ne.2.2.1 z.symm) (by omega)]
            exact ⟨rfl, rfl⟩
          · exact q1 h3 _ (k2 + 1) ⟨n24, Or.inr ⟨by omega, w12, k2, r, by omega, e45, rfl, rfl⟩⟩ (by omega) kk b
          · exact q2 h3 1 k2 (Or.inr (Or.inr (Or.inr (Or.inr (Or.inr (Or.inr ⟨n24, by omega, w12, r, e45, rfl⟩)))))) (by omega) bd
        · refine br.t rfl ?_
          rw [ga.1, ga.2.2] at r
          exact ⟨by omega, q2 h1 f kf (Or.inr (Or.inr (Or.inr (Or.inr (Or.inr (Or.inl ⟨n24, by omega, w12, f0, r⟩)))))) (by omega) bd⟩
      · -- a law
        have z' : ¬ 2 < G 80 k := z
        have w2 : G 80 k ≤ 2 := by omega
        refine c_lawOf (D := D + 1) hT t3 (by omega) y3 y4 y6 z5 z6 lc (by omega) (by omega) (fun G1 h1 k1 x d cp kl kh u1 u2 u3 s1 p1 r1 lx => ?_) (fun h1 f kf fl kk bd => ?_)
        · rw [ga.1, ga.2.2] at d
          rw [ga.1] at cp
          refine br.f (by decide) ?_
          have h1o : ∀ o, o ≠ 79 → o ≠ T → o ≠ T + 2 → o ≠ T + 3 → h1 o = G1 o := s1.1
          have e11 := h1o (T + 1) (fun z => n1.1 z.symm) (by omega) (by omega) (by omega)
          have e14 := h1o (T + 4) (fun z => n1.2.1 z.symm) (by omega) (by omega) (by omega)
          have e15 := h1o (T + 5) (fun z => n1.2.2 z.symm) (by omega) (by omega) (by omega)
          have v1 := u1 (T + 1) (fun z => n1.1 z.symm) (by omega) (by omega)
          have v4 := x3 (T + 4) (fun z => n1.2.1 z.symm) (by omega)
          have v5 := x3 (T + 5) (fun z => n1.2.2 z.symm) (by omega)
          have gG : gOk T G G1 := fun o x y => (u1 o x (by omega) (by omega)).trans (gk o x y)
          refine c_cend (D := D + 90) (w := G 80 k) (pr := fun _ => 0) (x := x) hT t B' c0 n24 ns (by omega) gG s1 (fun j x y => ?_) ?_ (fun j x y => ?_) (fun q hq => ?_) (fun z => ?_) (fun j x y => ?_) p1 (by omega) (fun e45 kk h3 b => ?_) (fun e45 h3 bd => ?_)
          · rw [e11, v1, x1 j x y]
          · rw [e11, v1, x2]
          · have : parts (G 80 k) = 0 := by unfold parts; rw [if_pos w2]
            omega
          · have qw : q ≠ G 80 k := by
              rcases hq with hq | hq
              · exact hq
              · omega
            rw [e14, e15, u2, u3, aset_ne qw, aset_ne qw, v4, v5]
            exact ⟨rfl, rfl⟩
          · rw [e14, e15, u2, u3, aset_eq, aset_eq]
            exact ⟨rfl, rfl⟩
          · have := r1 j x y
            rw [x3 (T + 2) (fun z => ne.2.1 z.symm) (by omega), x3 (T + 3) (fun z => ne.2.2.1 z.symm) (by omega)] at this
            exact this
          · exact q1 h3 _ (k1 + 1) ⟨n24, Or.inl ⟨c0, w2, ns w2, k1, x, d, cp, e45, rfl, rfl⟩⟩ (by omega) kk b
          · exact q2 h3 1 k1 (Or.inr (Or.inr (Or.inr (Or.inr (Or.inl ⟨n24, c0, w2, ns w2, x, d, cp, e45, rfl⟩))))) (by omega) bd
        · refine br.t rfl ?_
          rw [ga.1, ga.2.2] at fl
          refine ⟨by omega, q2 h1 f kf (Or.inr (Or.inr (Or.inr (Or.inl ⟨n24, c0, w2, ns w2, fl⟩)))) kk ⟨fun o x y => (bd.1 o x y).trans (gk o x y), bd.2.1, ?_⟩⟩
          rw [bd.2.2, ga.2.1]
    have M2 := M
    have e4 : h 79 4 = k := b2.2.1
    rw [← e4] at M2
    have hB : -2147483648 ≤ h 79 4 + 1 ∧ h 79 4 + 1 < 2147483648 := by omega
    have e5 : (hup h 79 4 (h 79 4 + 1)) T 5 = E.length := by rw [hup_o (fun z => ne.1 z.symm)]; exact b3.1
    have hT' := hT
    rw [e4] at M2
    clear M
    have e4' : h 79 4 + 1 = k + 1 := by omega
    have q3 : ∀ g2 : Hp, g2 = hup (hup h 79 4 (h 79 4 + 1)) (T + 1) ((E.length : Int) * 4 + 0) (G 80 k) → Runs (D + 92) 82 70 [vA 79, vA T, vI (G 80 k)] [] g2 Q := by
      intro g2 e
      rw [e4'] at e
      exact M2 g2 e
    clear M2 q1 q2 fail B' b1 b4 b5 s t t2 gg cd0
    rcases hT with e | e | e | e <;> subst e
    all_goals (
      refine Runs.go 30 [70] ?_
      refine ⟨hB, ?_⟩
      refine c_setPart (n := (E.length : Int)) hT' e5 (by omega) (by decide) ?_
      exact q3 _ rfl)
  have X : (G 80 k ≤ 2 → ¬ srt E (G 80 k)) → G 80 k ≤ 12 → Runs (D + 92) 82 38 [vA 79, vA T, vI (G 80 k)] [] h Q := by
    intro ns w12
    have C2 := C ns w12
    have F6 : E.length = 24 → Runs (D + 91) 80 0 [vA 79, vI 6] [] h (fun r h2 => ∃ x, r = vI x ∧ x = 0 ∧ Q (vI 0) h2) := fun e => fail 6 (Or.inr (Or.inr (Or.inl ⟨c0, w12, ns, e, rfl, rfl⟩))) _ (fun h1 q => ⟨0, rfl, rfl, q⟩)
    have e5 := b3.1
    clear C fail q1 q2 B' b1 b4 b5 s t t2 gg cd0
    rcases hT with e | e | e | e <;> subst e
    all_goals (
      refine Runs.go 30 [54] ?_
      refine br.i (fun z => C2 (by omega)) (fun z => ?_)
      refine (F6 (by omega)).mono (fun r h2 y => ?_)
      obtain ⟨x, ex, e0, qq⟩ := y
      subst ex e0
      exact ⟨by omega, qq⟩)
  have Y : G 80 k ≤ 2 → Runs (D + 92) 82 22 [vA 79, vA T, vI (G 80 k)] [] h Q := by
    intro w2
    have X2 : h (T + 4) (G 80 k) = -1 → Runs (D + 92) 82 38 [vA 79, vA T, vI (G 80 k)] [] h Q := fun e => X (fun _ z => by have := rwC_from (by decide) b4 z w2; omega) (by omega)
    have F4 : h (T + 4) (G 80 k) ≠ -1 → Runs (D + 91) 80 0 [vA 79, vI 4] [] h (fun r h2 => ∃ x, r = vI x ∧ x = 0 ∧ Q (vI 0) h2) := fun e => fail 4 (Or.inr (Or.inl ⟨c0, w2, by
      apply Classical.byContradiction
      intro z
      exact e (b5 _ c0 (by omega) z), rfl, rfl⟩)) _ (fun h1 q => ⟨0, rfl, rfl, q⟩)
    clear C X fail q1 q2 B' b1 b4 b5 s t t2 gg cd0
    rcases hT with e | e | e | e <;> subst e
    all_goals (
      refine Runs.go 30 [38] ?_
      refine ⟨⟨c0, show G 80 k < (3 : Int) by omega⟩, ?_⟩
      refine br.i (fun z => X2 z) (fun z => ?_)
      refine (F4 z).mono (fun r h2 y => ?_)
      obtain ⟨x, ex, e0, qq⟩ := y
      subst ex e0
      exact ⟨by omega, qq⟩)
  refine Runs.go 30 [22, 38] ?_
  refine c_next hT t2 s hk ?_
  rw [gg.1]
  refine br.j (fun z => ?_) (fun z => ?_)
  · have z' : ¬ G 80 k ≤ 12 := z
    exact fail 1 (Or.inl ⟨by omega, n48, rfl, rfl⟩) _ (fun h1 q => ⟨by omega, q⟩)
  · have z' : G 80 k ≤ 12 := z
    refine br.i (fun y => X (fun w => absurd w (by have y' : 2 < G 80 k := y; omega)) z') (fun y => Y (by have y' : ¬ 2 < G 80 k := y; omega))
/-- from clause to clause -/
abbrev tX : Type := Int → List cE → Int → Int → List cE → Prop
def tCl (cd vl : Int → Int) (X : tX) : Prop := (∀ k E, cd k = 48 → X k E 0 k E) ∧ (∀ k E f kf, ClF cd vl k E f kf → X k E f kf E) ∧ (∀ k E e k1 f kf E', ClS cd vl k E e k1 → k < k1 → X k1 (E ++ [e]) f kf E' → X k E f kf E')
def Tr (cd vl : Int → Int) : tX := fun k E f kf E' => ∀ X, tCl cd vl X → X k E f kf E'
theorem Tr.fin {cd vl : Int → Int} (e : cd k = 48) : Tr cd vl k E 0 k E := fun X c => c.1 k E e
theorem Tr.bad {cd vl : Int → Int} {f kf : Int} (e : ClF cd vl k E f kf) : Tr cd vl k E f kf E := fun X c => c.2.1 k E f kf e
theorem Tr.go {cd vl : Int → Int} {f kf k1 : Int} {e : cE} {E' : List cE} (s : ClS cd vl k E e k1) (kl : k < k1) (t : Tr cd vl k1 (E ++ [e]) f kf E') : Tr cd vl k E f kf E' := fun X c => c.2.2 k E e k1 f kf E' s kl (t X c)
theorem c_clauses (hT : tT T) (t : tkn G N) (cd0 : ∀ k, 0 ≤ k → k < N → 0 ≤ G 80 k) (k0 : Int) (E0 : List cE) (l : AV)
    (q1 : ∀ h1 kf E', Tr (G 80) (G 82) k0 E0 0 kf E' → 0 ≤ kf ∧ kf < N → tC T G N h1 kf E' → G 80 kf = 48 → Q none h1) (q2 : ∀ h1 f kf E', f ≠ 0 → Tr (G 80) (G 82) k0 E0 f kf E' → 0 ≤ kf ∧ kf < N → cBd T G f kf h1 → Q none h1) :
    ∀ (m : Nat) (k : Int) (E : List cE) (h : Hp) (i : Int), N - k ≤ m → 0 ≤ k ∧ k < N → tC T G N h k E → i = E.length → (∀ f kf E', Tr (G 80) (G 82) k E f kf E' → Tr (G 80) (G 82) k0 E0 f kf E') → Runs (D + 93) 69 33 [vA 79, vA 83, l, vA T, vI i] [] h Q := by
  intro m
  induction m with
  | zero => intro k E h i a b; omega
  | succ m ih =>
    intro k E h i hm hk B ei tr
    have b7 := B.2.2.2.2.2.2
    have gg := B.1.a hT
    have s : cS T h N (h 79 5) E.length h k (lC E) := ⟨fun _ _ _ _ _ => rfl, ⟨B.2.1.1, B.2.1.2.1, rfl, B.2.1.2.2⟩, B.2.2.1.2, B.2.2.1.1⟩
    refine Runs.go 30 [33] ?_
    refine br.f (by omega) ?_
    refine c_next hT (t.g hT B.1) s hk ?_
    rw [gg.1]
    refine br.i (fun z => ?_) (fun z => ?_)
    · exact q1 h k E (tr 0 k E (Tr.fin z)) hk B z
    · have z' : G 80 k ≠ 48 := z
      refine c_clause (D := D) hT t cd0 B hk z' (fun h1 e k1 cs kl kh B1 => ?_) (fun h1 f kf cf kk bd => ?_)
      · refine br.t (by decide) ?_
        refine ⟨by omega, ih k1 (E ++ [e]) h1 (i + 1) (by omega) (by omega) B1 ?_ (fun f kf E' tt => tr f kf E' (Tr.go cs kl tt))⟩
        rw [ei]
        simp
      · refine br.f (by decide) ?_
        have f0 : f ≠ 0 := by
          rcases cf with x | x | x | x | x | x | x
          · omega
          · omega
          · omega
          · intro e0
            have := x.2.2.2.2 (fun _ _ _ f _ => f ≠ 0) ?_
            · exact this e0
            · refine ⟨fun o k f h => by rcases h with h | h | h | h <;> omega, fun o k f kf _ _ y => y, fun _ _ _ _ _ _ _ _ _ => (show (1 : Int) ≠ 0 by decide), fun _ _ _ _ _ _ _ _ _ _ y => y, fun _ _ _ _ _ _ _ _ _ _ y => y, fun _ _ _ _ _ _ _ _ _ _ _ _ _ => (show (1 : Int) ≠ 0 by decide), fun _ _ _ _ _ _ _ _ _ _ _ _ _ _ y => y, fun _ _ _ _ _ _ _ _ _ _ _ _ _ _ _ _ _ => (show (1 : Int) ≠ 0 by decide), fun _ _ _ _ _ _ y => y, fun _ _ _ _ _ _ _ _ _ y => y, fun _ _ _ _ => (show (3 : Int) ≠ 0 by decide), fun _ _ _ _ _ _ y => y, fun _ _ _ _ _ y => y, fun _ _ _ _ _ _ _ _ => (show (1 : Int) ≠ 0 by decide), fun _ _ _ _ _ _ _ _ _ _ y => y⟩
          · obtain ⟨-, -, -, -, -, -, -, -, e1⟩ := x
            omega
          · exact x.2.2.2.1
          · omega
        exact q2 h1 f kf E f0 (tr f kf E (Tr.bad cf)) kk bd
end CD
