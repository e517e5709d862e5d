/-! TEXTS: the class reads a text -/
theorem Der_len {cd vl : Int → Int} {law o k k1 : Int} {y : Nat} {x : dX} (d : Der cd vl law y o k k1 x) : k < k1 ∧ (x.2.1.length : Int) ≤ k1 - k := by
  refine d (fun _ _ k k1 x => k < k1 ∧ (x.2.1.length : Int) ≤ k1 - k) ⟨?_, ?_, ?_, ?_, ?_, ?_, ?_, ?_, ?_, ?_⟩
  · intro o k e h0 h1
    exact ⟨by omega, by show ((1 : Nat) : Int) ≤ _; omega⟩
  · intro o k e1 e2 h
    exact ⟨by omega, by show ((1 : Nat) : Int) ≤ _; omega⟩
  · intro o k k1 x e o8 X e1
    exact ⟨by omega, by omega⟩
  · intro o k k1 x c e o8 X
    refine ⟨by omega, ?_⟩
    show ((x.2.1 ++ [(rUn c, 0)]).length : Int) ≤ _
    simp only [List.length_append, List.length_cons, List.length_nil]
    omega
  · intro o k k1 k2 x y e o8 X e1 Y
    refine ⟨by omega, ?_⟩
    show ((x.2.1 ++ (y.2.1 ++ [(rOp 23, 0)])).length : Int) ≤ _
    simp only [List.length_append, List.length_cons, List.length_nil]
    omega
  · intro o k k1 k2 k3 b x y e o8 B e1 X e2 Y e3
    refine ⟨by omega, ?_⟩
    show ((b.2.1 ++ (x.2.1 ++ (y.2.1 ++ [(3, 0)]))).length : Int) ≤ _
    simp only [List.length_append, List.length_cons, List.length_nil]
    omega
  · intro y o k k1 x hl X
    exact X
  · intro y o k k1 k2 x z hc X Z
    refine ⟨by omega, ?_⟩
    show ((x.2.1 ++ (z.2.1 ++ [(rOp (cd k1), 0)])).length : Int) ≤ _
    simp only [List.length_append, List.length_cons, List.length_nil]
    omega
  · intro o k k1 x e o8 X
    refine ⟨by omega, ?_⟩
    show ((x.2.1 ++ [(rUn 31, 0)]).length : Int) ≤ _
    simp only [List.length_append, List.length_cons, List.length_nil]
    omega
  · intro o k k1 k2 x z e X e1 e2 Z
    refine ⟨by omega, ?_⟩
    show ((x.2.1 ++ (z.2.1 ++ [(rOp (cd k1), 0)])).length : Int) ≤ _
    simp only [List.length_append, List.length_cons, List.length_nil]
    omega
def lC : List cE → Int
  | [] => 0
  | e :: r => (e.2.2.1.length : Int) + lC r
def lR : List cE → Int
  | [] => 0
  | e :: r => (e.2.2.2.1.length : Int) + lR r
theorem lC_app {e : cE} : ∀ {E : List cE}, lC (E ++ [e]) = lC E + e.2.2.1.length
  | [] => by show (e.2.2.1.length : Int) + 0 = 0 + _; omega
  | a :: E => by
    show (a.2.2.1.length : Int) + lC (E ++ [e]) = (a.2.2.1.length : Int) + lC E + _
    rw [lC_app]
    omega
theorem lR_app {e : cE} : ∀ {E : List cE}, lR (E ++ [e]) = lR E + e.2.2.2.1.length
  | [] => by show (e.2.2.2.1.length : Int) + 0 = 0 + _; omega
  | a :: E => by
    show (a.2.2.2.1.length : Int) + lR (E ++ [e]) = (a.2.2.2.1.length : Int) + lR E + _
    rw [lR_app]
    omega
theorem lC_0 : ∀ {E : List cE}, 0 ≤ lC E
  | [] => Int.le_refl 0
  | a :: E => by
    have := lC_0 (E := E)
    show 0 ≤ (a.2.2.1.length : Int) + lC E
    omega
theorem lR_0 : ∀ {E : List cE}, 0 ≤ lR E
  | [] => Int.le_refl 0
  | a :: E => by
    have := lR_0 (E := E)
    show 0 ≤ (a.2.2.2.1.length : Int) + lR E
    omega
def srt (E : List cE) (s : Int) : Prop := ∃ e, e ∈ E ∧ e.1 = s
def rwC (T : Nat) (h : Hp) : Int → Int → List cE → Prop
  | _, _, [] => True
  | i, b, e :: r => ((h (T + 1) (i * 4 + 0) = e.1 ∧ ∀ j, 1 ≤ j → j ≤ parts e.1 → h (T + 1) (i * 4 + j) = e.2.1 j) ∧ (e.1 ≤ 2 → h (T + 4) e.1 = b ∧ h (T + 5) e.1 = b + e.2.2.1.length) ∧ plC T h b e.2.2.1) ∧ rwC T h (i + 1) (b + e.2.2.1.length) r
theorem parts_r {s : Int} : 0 ≤ parts s ∧ parts s ≤ 3 := by
  unfold parts
  repeat' split
  all_goals omega
theorem rwC_app {T : Nat} {h : Hp} {e : cE} : ∀ {E : List cE} {i b : Int}, rwC T h i b E → rwC T h (i + E.length) (b + lC E) [e] → rwC T h i b (E ++ [e])
  | [], i, b, _, q => by
    have q' : rwC T h (i + ((0 : Nat) : Int)) (b + 0) [e] := q
    rw [show i + ((0 : Nat) : Int) = i by omega, Int.add_zero] at q'
    exact q'
  | a :: E, i, b, p, q => by
    refine ⟨p.1, rwC_app p.2 ?_⟩
    have q' : rwC T h (i + ((E.length + 1 : Nat) : Int)) (b + ((a.2.2.1.length : Int) + lC E)) [e] := q
    rw [show i + ((E.length + 1 : Nat) : Int) = i + 1 + E.length by omega, show b + ((a.2.2.1.length : Int) + lC E) = b + a.2.2.1.length + lC E by omega] at q'
    exact q'
theorem rwC_fr {T : Nat} {h h1 : Hp} : ∀ {E : List cE} {i b : Int}, 0 ≤ i → 0 ≤ b → (∀ j, 0 ≤ j → j < (i + E.length) * 4 → h1 (T + 1) j = h (T + 1) j) → (∀ s, srt E s → s ≤ 2 → h1 (T + 4) s = h (T + 4) s ∧ h1 (T + 5) s = h (T + 5) s) → (∀ j, 0 ≤ j → j < b + lC E → h1 (T + 2) j = h (T + 2) j ∧ h1 (T + 3) j = h (T + 3) j) → rwC T h i b E → rwC T h1 i b E
  | [], _, _, _, _, _, _, _, _ => trivial
  | a :: E, i, b, i0, b0, q1, q2, q3, p => by
    have l : ((a :: E).length : Int) = E.length + 1 := by simp
    have pr := parts_r (s := a.1)
    have lc := lC_0 (E := E)
    have q3' : ∀ j, 0 ≤ j → j < b + ((a.2.2.1.length : Int) + lC E) → h1 (T + 2) j = h (T + 2) j ∧ h1 (T + 3) j = h (T + 3) j := q3
    obtain ⟨⟨⟨p1, p2⟩, p3, p4⟩, p5⟩ := p
    refine ⟨⟨⟨by rw [q1 _ (by omega) (by omega)]; exact p1, fun j j1 j2 => by rw [q1 _ (by omega) (by omega)]; exact p2 j j1 j2⟩, fun z => ?_, plC_fr _ b (fun j x y => q3' j (by omega) (by omega)) p4⟩, rwC_fr (by omega) (by omega) (fun j x y => q1 j x (by omega)) (fun s hs z => q2 s (by obtain ⟨e, e1, e2⟩ := hs; exact ⟨e, List.mem_cons_of_mem _ e1, e2⟩) z) (fun j x y => q3' j x (by omega)) p5⟩
    have w := q2 a.1 ⟨a, List.mem_cons_self, rfl⟩ z
    rw [w.1, w.2]
    exact p3 z
theorem rwC_from {T : Nat} {h : Hp} {s : Int} : ∀ {E : List cE} {i b : Int}, 0 ≤ b → rwC T h i b E → srt E s → s ≤ 2 → 0 ≤ h (T + 4) s
  | [], _, _, _, _, q, _ => by obtain ⟨e, e1, e2⟩ := q; exact absurd e1 (by simp)
  | a :: E, i, b, b0, p, q, s2 => by
    by_cases z : a.1 = s
    · have := p.1.2.1 (by omega)
      rw [z] at this
      omega
    · refine rwC_from (by omega) p.2 ?_ s2
      obtain ⟨e, e1, e2⟩ := q
      rcases List.mem_cons.mp e1 with w | w
      · exact absurd (w ▸ e2) z
      · exact ⟨e, w, e2⟩
def tC (T : Nat) (G : Hp) (N : Int) (h : Hp) (k : Int) (E : List cE) : Prop := gOk T G h ∧ (h 79 3 = N ∧ h 79 4 = k ∧ h 79 6 = 0 ∧ h 79 7 = -1) ∧ (h T 5 = E.length ∧ h T 6 = lC E) ∧ rwC T h 0 0 E ∧ (∀ s, 0 ≤ s → s < 3 → ¬ srt E s → h (T + 4) s = -1) ∧ lC E ≤ k ∧ E.length ≤ 24
/-- a clause, or what is wrong with it -/
def ClS (cd vl : Int → Int) (k : Int) (E : List cE) (e : cE) (k1 : Int) : Prop := E.length < 24 ∧ ((0 ≤ cd k ∧ cd k ≤ 2 ∧ ¬ srt E (cd k) ∧ ∃ k2 x, Der cd vl (cd k) 2 0 (k + 1) k2 x ∧ cpl 2 (cd k2) ∧ cd k2 = 45 ∧ k1 = k2 + 1 ∧ e = (cd k, fun _ => 0, x)) ∨
  (3 ≤ cd k ∧ cd k ≤ 12 ∧ ∃ k2, oRun cd vl (its (cd k)) (k + 1) = (0, k2) ∧ k < k2 ∧ cd k2 = 45 ∧ k1 = k2 + 1 ∧ e = (cd k, oPar vl (k + 1), eX)))
def ClF (cd vl : Int → Int) (k : Int) (E : List cE) (f kf : Int) : Prop := (12 < cd k ∧ cd k ≠ 48 ∧ f = 1 ∧ kf = k) ∨ (0 ≤ cd k ∧ cd k ≤ 2 ∧ srt E (cd k) ∧ f = 4 ∧ kf = k) ∨ (0 ≤ cd k ∧ cd k ≤ 12 ∧ (cd k ≤ 2 → ¬ srt E (cd k)) ∧ E.length = 24 ∧ f = 6 ∧ kf = k) ∨
  (E.length < 24 ∧ 0 ≤ cd k ∧ cd k ≤ 2 ∧ ¬ srt E (cd k) ∧ Fl cd vl (cd k) 2 0 (k + 1) f kf) ∨ (E.length < 24 ∧ 0 ≤ cd k ∧ cd k ≤ 2 ∧ ¬ srt E (cd k) ∧ ∃ x, Der cd vl (cd k) 2 0 (k + 1) kf x ∧ cpl 2 (cd kf) ∧ cd kf ≠ 45 ∧ f = 1) ∨
  (E.length < 24 ∧ 3 ≤ cd k ∧ cd k ≤ 12 ∧ f ≠ 0 ∧ oRun cd vl (its (cd k)) (k + 1) = (f, kf)) ∨ (E.length < 24 ∧ 3 ≤ cd k ∧ cd k ≤ 12 ∧ oRun cd vl (its (cd k)) (k + 1) = (0, kf) ∧ cd kf ≠ 45 ∧ f = 1)
section CC
variable {T : Nat} {G : Hp} {N k : Int} {h : Hp} {D : Nat} {Q : aPO} {E : List cE}
theorem c_lawOf {n c w : Int} (hT : tT T) (t : tkn h N) (w2 : 0 ≤ w ∧ w ≤ 2) (h3 : h 79 3 = N) (h4 : h 79 4 = k) (h6 : h 79 6 = 0 ∧ h 79 7 = -1) (e5 : h T 5 = n) (e6 : h T 6 = c) (c0 : 0 ≤ c) (ck : c ≤ k) (hk : 0 ≤ k ∧ k < N)
    (q1 : ∀ G1 h1 k1 x, Der (h 80) (h 82) w 2 0 k k1 x → cpl 2 (h 80 k1) → k < k1 → k1 < N → (∀ o, o ≠ 79 → o ≠ T + 4 → o ≠ T + 5 → G1 o = h o) → G1 (T + 4) = aset (h (T + 4)) w c → G1 (T + 5) = aset (h (T + 5)) w (c + x.1.length) → cS T G1 N w n h1 k1 (c + x.1.length) → plC T h1 c x.1 → cGr T h h1 c → (x.1.length : Int) ≤ k1 - k → Q (vI 1) h1)
    (q2 : ∀ h1 f kf, Fl (h 80) (h 82) w 2 0 k f kf → 0 ≤ kf ∧ kf < N → cBd T h f kf h1 → Q (vI 0) h1) : Runs (D + 90) 83 0 [vA 79, vI w, vA T] [] h Q := by
  have hT' := hT
  have ne := hT.ne
  have n4 : (79 : Nat) ≠ T + 4 ∧ (79 : Nat) ≠ T + 5 ∧ (80 : Nat) ≠ T + 4 ∧ (82 : Nat) ≠ T + 4 ∧ (81 : Nat) ≠ T + 4 := by unfold tT at hT; omega
  -- the heap at the sum
  have M : ∀ G1 : Hp, G1 = hup (hup h 79 5 w) (T + 4) w c → Runs (D + 89) 86 0 [vA 79, vI 0, vA T, none, none] [] G1 (fun r h2 => Runs (D + 90) 83 21 [vA 79, vI w, vA T] (pushR r []) h2 Q) := by
    intro G1 eG
    have g80 : G1 80 = h 80 := by subst eG; rw [hup_o n4.2.2.1, hup_o (by decide)]
    have g82 : G1 82 = h 82 := by subst eG; rw [hup_o n4.2.2.2.1, hup_o (by decide)]
    have g81 : G1 81 = h 81 := by subst eG; rw [hup_o n4.2.2.2.2, hup_o (by decide)]
    have gt : tkn G1 N := by unfold tkn at *; rw [g80, g82]; exact t
    have gs : cS T G1 N w n G1 k c := by
      subst eG
      refine ⟨fun _ _ _ _ _ => rfl, ⟨?_, ?_, ?_, ?_, ?_⟩, ?_, ?_⟩
      · rw [hup_o n4.1, hup_nj (by decide)]; exact h3
      · rw [hup_o n4.1, hup_nj (by decide)]; exact h4
      · rw [hup_o n4.1, hup_eq]
      · rw [hup_o n4.1, hup_nj (by decide)]; exact h6.1
      · rw [hup_o n4.1, hup_nj (by decide)]; exact h6.2
      · rw [hup_o (by omega), hup_o (fun z => ne.1 z.symm)]; exact e6
      · rw [hup_o (by omega), hup_o (fun z => ne.1 z.symm)]; exact e5
    have R := (c_all (law := w) (n := n) hT gt (N - k).toNat k (by omega) hk.1 hk.2).2.2.1
    refine R (D + 89) 0 c G1 _ (by omega) (by decide) (by decide) c0 ck gs (fun h1 k1 x a => ?_) (fun h1 f kf fl kk bad => ?_)
    · obtain ⟨a1, a2, a3, a4, a5, a6, a7⟩ := a
      have K : ∀ h2 : Hp, h2 = hup h1 (T + 5) w (c + x.1.length) → Q (vI 1) h2 := by
        intro h2 e2
        rw [g80, g82] at a1
        rw [g80] at a2
        refine q1 (hup G1 (T + 5) w (c + x.1.length)) h2 k1 x a1 a2 a3.1 a3.2 (fun o x y z => ?_) ?_ ?_ ?_ ?_ ?_ a7
        · subst eG
          rw [hup_o z, hup_o y, hup_o x]
        · subst eG
          rw [hup_o (by omega), hup_s, hup_o (fun z => n4.1 z.symm)]
        · subst eG
          rw [hup_s, hup_o (by omega), hup_o (fun z => n4.2.1 z.symm)]
        · subst e2
          obtain ⟨b1, b2, b3⟩ := a4
          refine ⟨fun o x y z v => ?_, ?_, ?_⟩
          · by_cases u : o = T + 5
            · subst u
              rw [hup_s, hup_s, b1 (T + 5) x y z v]
            · rw [hup_o u, hup_o u]
              exact b1 o x y z v
          · rw [hup_o n4.2.1]; exact b2
          · rw [hup_o (by omega)]; exact b3
        · subst e2
          exact plC_fr _ c (fun j _ _ => by rw [hup_o (by omega), hup_o (by omega)]; exact ⟨rfl, rfl⟩) a5
        · subst e2
          intro j x y
          rw [hup_o (by omega), hup_o (by omega)]
          have := a6 j x y
          subst eG
          rw [hup_o (by omega), hup_o (by omega), hup_o (by omega), hup_o (by omega)] at this
          exact this
      have e6' : h1 T 6 = c + x.1.length := a4.2.2.1
      rw [← e6'] at K
      clear q1 q2 R gs gt a1 a2 a4 a5 a6
      rcases hT with e | e | e | e <;> subst e
      all_goals (
        refine Runs.go 30 [] ?_
        refine br.t (by decide) ?_
        exact ⟨⟨w2.1, show w < (3 : Int) by omega⟩, ⟨by omega, K _ rfl⟩⟩)
    · refine Runs.go 20 [] ?_
      refine br.f (by decide) ?_
      refine ⟨by omega, ?_⟩
      rw [g80, g82] at fl
      refine q2 h1 f kf fl kk ⟨fun o x y => ?_, bad.2.1, ?_⟩
      · rw [bad.1 o x (by omega) (by omega) (by omega)]
        subst eG
        rw [hup_o (by omega), hup_o x]
      · rw [bad.2.2, g81]
  rw [← e6] at M
  clear q1 q2 t
  rcases hT with e | e | e | e <;> subst e
  all_goals (
    refine Runs.go 30 [21] ?_
    exact ⟨⟨w2.1, show w < (3 : Int) by omega⟩, M _ rfl⟩)
end CC
