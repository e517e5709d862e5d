/-! TEXTS: the class's reader, leaves -/
def tT (T : Nat) : Prop := T = 52 ∨ T = 58 ∨ T = 64 ∨ T = 70
/-- the reader at token k, c rows of code written -/
def cS (T : Nat) (G : Hp) (N law n : Int) (h : Hp) (k c : Int) : Prop :=
  (∀ o, o ≠ 79 → o ≠ T → o ≠ T + 2 → o ≠ T + 3 → h o = G o) ∧ (h 79 3 = N ∧ h 79 4 = k ∧ h 79 5 = law ∧ h 79 6 = 0 ∧ h 79 7 = -1) ∧ (h T 6 = c ∧ h T 5 = n)
def cBad (T : Nat) (G : Hp) (f kf : Int) (h : Hp) : Prop := (∀ o, o ≠ 79 → o ≠ T → o ≠ T + 2 → o ≠ T + 3 → h o = G o) ∧ h 79 6 = f ∧ h 79 7 = G 81 kf
def cGr (T : Nat) (h h1 : Hp) (c : Int) : Prop := ∀ j, 0 ≤ j → j < c → h1 (T + 2) j = h (T + 2) j ∧ h1 (T + 3) j = h (T + 3) j
def tkn (G : Hp) (N : Int) : Prop := (1 ≤ N ∧ N ≤ 301) ∧ G 80 (N - 1) = 48 ∧ ∀ k, 0 ≤ k → k < N → 0 ≤ G 82 k
def cOk (T : Nat) (G : Hp) (N law n : Int) (y : Nat) (o k c : Int) (h h1 : Hp) (k1 : Int) (x : dX) : Prop :=
  Der (G 80) (G 82) law y o k k1 x ∧ cpl y (G 80 k1) ∧ (k < k1 ∧ k1 < N) ∧ cS T G N law n h1 k1 (c + x.1.length) ∧ plC T h1 c x.1 ∧ cGr T h h1 c ∧ (x.1.length : Int) ≤ k1 - k
def cRun (T : Nat) (G : Hp) (N law n : Int) (m : Nat) (pd : List AV) (y : Nat) (dp k : Int) : Prop :=
  ∀ (D : Nat) (o c : Int) (h : Hp) (Q : aPO), 10 * (8 - o) + dp ≤ D → 0 ≤ o → o ≤ 8 → 0 ≤ c → c ≤ k → cS T G N law n h k c →
    (∀ h1 k1 x, cOk T G N law n y o k c h h1 k1 x → Q (vI 1) h1) →
    (∀ h1 f kf, Fl (G 80) (G 82) law y o k f kf → 0 ≤ kf ∧ kf < N → cBad T G f kf h1 → Q (vI 0) h1) → Runs D m 0 (vA 79 :: vI o :: vA T :: pd) [] h Q
section CR
variable {T : Nat} {G : Hp} {N law n k c : Int} {h h1 : Hp} {D : Nat} {Q : aPO}
theorem cGr.rf : cGr T h h c := fun _ _ _ => ⟨rfl, rfl⟩
theorem cGr.tr {h2 : Hp} {c2 : Int} (x : cGr T h h1 c) (y : cGr T h1 h2 c2) (hc : c ≤ c2) : cGr T h h2 c := fun j a b => by
  have q1 := x j a b
  have q2 := y j a (by omega)
  exact ⟨q2.1.trans q1.1, q2.2.trans q1.2⟩
theorem tkn.nxt (t : tkn G N) (hk : 0 ≤ k ∧ k < N) (e : G 80 k ≠ 48) : k + 1 < N := by
  by_cases z : k = N - 1
  · exact absurd (z ▸ t.2.1) e
  · omega
theorem tT.ne (hT : tT T) : (79 : Nat) ≠ T ∧ (79 : Nat) ≠ T + 2 ∧ (79 : Nat) ≠ T + 3 ∧ (80 : Nat) ≠ T ∧ (80 : Nat) ≠ T + 2 ∧ (80 : Nat) ≠ T + 3 ∧ (81 : Nat) ≠ T ∧ (81 : Nat) ≠ T + 2 ∧ (81 : Nat) ≠ T + 3 ∧ (82 : Nat) ≠ T ∧ (82 : Nat) ≠ T + 2 ∧ (82 : Nat) ≠ T + 3 := by
  unfold tT at hT
  omega
theorem cS.a80 (hT : tT T) (s : cS T G N law n h k c) : h 80 = G 80 := s.1 80 (by decide) hT.ne.2.2.2.1 hT.ne.2.2.2.2.1 hT.ne.2.2.2.2.2.1
theorem cS.a81 (hT : tT T) (s : cS T G N law n h k c) : h 81 = G 81 := s.1 81 (by decide) hT.ne.2.2.2.2.2.2.1 hT.ne.2.2.2.2.2.2.2.1 hT.ne.2.2.2.2.2.2.2.2.1
theorem cS.a82 (hT : tT T) (s : cS T G N law n h k c) : h 82 = G 82 := s.1 82 (by decide) hT.ne.2.2.2.2.2.2.2.2.2.1 hT.ne.2.2.2.2.2.2.2.2.2.2.1 hT.ne.2.2.2.2.2.2.2.2.2.2.2
/-- one token on -/
theorem cS.adv (hT : tT T) (s : cS T G N law n h k c) : cS T G N law n (hup h 79 4 (k + 1)) (k + 1) c := by
  obtain ⟨s1, s2, s3⟩ := s
  refine ⟨fun o a b e f => ?_, ⟨?_, ?_, ?_, ?_, ?_⟩, ?_, ?_⟩
  · rw [hup_o a]; exact s1 o a b e f
  · rw [hup_nj (by decide)]; exact s2.1
  · exact hup_eq
  · rw [hup_nj (by decide)]; exact s2.2.2.1
  · rw [hup_nj (by decide)]; exact s2.2.2.2.1
  · rw [hup_nj (by decide)]; exact s2.2.2.2.2
  · rw [hup_o (fun z => hT.ne.1 z.symm)]; exact s3.1
  · rw [hup_o (fun z => hT.ne.1 z.symm)]; exact s3.2
theorem cGr.adv (hT : tT T) {v : Int} : cGr T h (hup h 79 4 v) c := fun j _ _ => by
  rw [hup_o (fun z => hT.ne.2.1 z.symm), hup_o (fun z => hT.ne.2.2.1 z.symm)]
  exact ⟨rfl, rfl⟩
theorem plC.adv (hT : tT T) {v b : Int} {A : List (Int × Int)} (p : plC T h b A) : plC T (hup h 79 4 v) b A := by
  refine plC_fr A b (fun j _ _ => ?_) p
  rw [hup_o (fun z => hT.ne.2.1 z.symm), hup_o (fun z => hT.ne.2.2.1 z.symm)]
  exact ⟨rfl, rfl⟩
theorem c_next (hT : tT T) (t : tkn G N) (s : cS T G N law n h k c) (hk : 0 ≤ k ∧ k < N) (q : Q (vI (G 80 k)) h) : Runs D 79 0 [vA 79] [] h Q := by
  have e := s.a80 hT
  have t1 := t.1
  have s2 := s.2.1
  refine Runs.go 20 [] ?_
  refine br.f (show ¬ h 79 3 ≤ h 79 4 by omega) ?_
  refine ⟨show 0 ≤ h 79 4 ∧ h 79 4 < (301 : Int) by omega, QI q ?_⟩
  rw [s2.2.1, e]
theorem c_fail (hT : tT T) (t : tkn G N) (s : cS T G N law n h k c) (hk : 0 ≤ k ∧ k < N) {f : Int} (q : ∀ h1, cBad T G f k h1 → Q (vI 0) h1) : Runs D 80 0 [vA 79, vI f] [] h Q := by
  have e := s.a81 hT
  have t1 := t.1
  have s2 := s.2.1
  have e4 : (hup h 79 6 f) 79 4 = k := by rw [hup_nj (by decide)]; exact s2.2.1
  refine Runs.go 30 [] ?_
  refine br.f (fun z => z s2.2.2.2.1) ?_
  refine br.f (show ¬ h 79 3 ≤ h 79 4 by omega) ?_
  refine ⟨show 0 ≤ (hup h 79 6 f) 79 4 ∧ (hup h 79 6 f) 79 4 < (301 : Int) by omega, ⟨by omega, q _ ⟨fun o a b c d => ?_, ?_, ?_⟩⟩⟩
  · rw [hup_o a, hup_o a]; exact s.1 o a b c d
  · rw [hup_nj (by decide), hup_eq]
  · rw [hup_eq, e4, hup_o (by decide), e]
theorem c_take (hT : tT T) (t : tkn G N) (s : cS T G N law n h k c) (hk : 0 ≤ k ∧ k < N) {w : Int} (q1 : G 80 k = w → Q (vI 1) (hup h 79 4 (k + 1))) (q2 : G 80 k ≠ w → ∀ h1, cBad T G 1 k h1 → Q (vI 0) h1) : Runs (D + 1) 81 0 [vA 79, vI w] [] h Q := by
  have s2 := s.2.1
  have t1 := t.1
  refine Runs.go 30 [] ?_
  refine c_next hT t s hk ?_
  refine br.i (fun e => ?_) (fun e => ?_)
  · have e4 : hup h 79 4 (k + 1) = hup h 79 4 (h 79 4 + 1) := by rw [s2.2.1]
    have q := q1 e
    rw [e4] at q
    exact ⟨show -2147483648 ≤ h 79 4 + 1 ∧ h 79 4 + 1 < 2147483648 by omega, ⟨by omega, q⟩⟩
  · refine c_fail hT t s hk (fun h1 b => ?_)
    exact ⟨by omega, q2 e h1 b⟩
theorem c_emit (hT : tT T) (s : cS T G N law n h k c) (hc : 0 ≤ c ∧ c < 300) {op ar : Int} (q : ∀ h1, cS T G N law n h1 k (c + 1) → h1 (T + 2) = aset (h (T + 2)) c op → h1 (T + 3) = aset (h (T + 3)) c ar → Q (vI c) h1) : Runs D 105 0 [vA T, vI op, vI ar] [] h Q := by
  obtain ⟨s1, s2, s3⟩ := s
  have K : ∀ h1 : Hp, h1 = hup (hup (hup h (T + 2) c op) (T + 3) c ar) T 6 (c + 1) → Q (vI c) h1 := by
    intro h1 e
    have n1 : T ≠ T + 2 := by omega
    have n2 : T ≠ T + 3 := by omega
    have n3 := hT.ne
    subst e
    refine q _ ⟨fun o a b c d => ?_, ?_, ?_, ?_⟩ ?_ ?_
    · rw [hup_o b, hup_o d, hup_o c]; exact s1 o a b c d
    · rw [hup_o n3.1, hup_o n3.2.2.1, hup_o n3.2.1]; exact s2
    · exact hup_eq
    · rw [hup_nj (by decide), hup_o n2, hup_o n1]; exact s3.2
    · rw [hup_o (by omega), hup_o (by omega), hup_s]
    · rw [hup_o (by omega), hup_s, hup_o (by omega)]
  have e6 := s3.1
  clear q s1 s2 s3
  have hB : -2147483648 ≤ h T 6 + 1 ∧ h T 6 + 1 < 2147483648 := by omega
  have hC : -2147483648 ≤ h T 6 + 1 - 1 ∧ h T 6 + 1 - 1 < 2147483648 := by omega
  have hE : h T 6 + 1 - 1 = h T 6 := by omega
  rcases hT with e | e | e | e <;> subst e
  all_goals (
    rw [← e6] at K hc
    refine Runs.go 60 [] ?_
    refine br.t (by omega) ?_
    exact ⟨hc, ⟨hc, ⟨hB, ⟨hC, QI (K _ rfl) hE⟩⟩⟩⟩)
theorem c_jump (hT : tT T) (s : cS T G N law n h k c) {p : Int} (hp : 0 ≤ p ∧ p < 300) (q : ∀ h1, cS T G N law n h1 k c → h1 (T + 2) = h (T + 2) → h1 (T + 3) = aset (h (T + 3)) p c → Q none h1) : Runs D 106 0 [vA T, vI p] [] h Q := by
  obtain ⟨s1, s2, s3⟩ := s
  have K : ∀ h1 : Hp, h1 = hup h (T + 3) p c → Q none h1 := by
    intro h1 e
    have n2 : T ≠ T + 3 := by omega
    have n3 := hT.ne
    subst e
    refine q _ ⟨fun o a b c d => ?_, ?_, ?_, ?_⟩ ?_ ?_
    · rw [hup_o d]; exact s1 o a b c d
    · rw [hup_o n3.2.2.1]; exact s2
    · rw [hup_o n2]; exact s3.1
    · rw [hup_o n2]; exact s3.2
    · rw [hup_o (by omega)]
    · rw [hup_s]
  have e6 := s3.1
  clear q s1 s2 s3
  rcases hT with e | e | e | e <;> subst e
  all_goals (
    rw [← e6] at K
    refine Runs.go 30 [] ?_
    refine br.f (by omega) (br.f (by omega) ?_)
    exact ⟨hp, K _ rfl⟩)
/-- code with one row more -/
theorem plC.snoc {b : Int} {A : List (Int × Int)} {op ar : Int} (hb : 0 ≤ b) (p : plC T h b A) (e2 : h1 (T + 2) = aset (h (T + 2)) (b + A.length) op) (e3 : h1 (T + 3) = aset (h (T + 3)) (b + A.length) (ar + (if op = 51 ∨ op = 52 then b + A.length else 0))) : plC T h1 b (A ++ [(op, ar)]) := by
  rw [plC_app]
  refine ⟨plC_fr A b (fun j x y => ?_) p, ⟨?_, ?_⟩, trivial⟩
  · rw [e2, e3, aset_ne (by omega), aset_ne (by omega)]
    exact ⟨rfl, rfl⟩
  · rw [e2, aset_eq]
  · rw [e3, aset_eq]
theorem cGr.snoc {op ar c2 : Int} (e2 : h1 (T + 2) = aset (h (T + 2)) c2 op) (e3 : h1 (T + 3) = aset (h (T + 3)) c2 ar) (hc : c ≤ c2) : cGr T h h1 c := fun j _ _ => by
  rw [e2, e3, aset_ne (by omega), aset_ne (by omega)]
  exact ⟨rfl, rfl⟩
end CR
