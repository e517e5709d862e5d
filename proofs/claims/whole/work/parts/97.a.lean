/-! TEXTS: clauses -/
abbrev cE : Type := Int × (Int → Int) × dX
def eX : dX := ([], [], fun _ _ => 0)
/-- what an order wants: a word (or none), then a number within bounds -/
def its (s : Int) : List (Int × Int × Int) := if s = 3 then [(-1, 0, 2), (15, 0, 9), (19, 0, 9999)] else if s = 4 then [(-1, 0, 9), (21, 0, 2)] else if s = 5 then [(-1, 1, 99)] else if s = 6 ∨ s = 8 then [(-1, 1, 99), (21, 0, 2), (22, 0, 5)] else if s = 7 then [(-1, 1, 99), (22, 0, 5)] else if s = 9 then [(-1, 0, 5), (21, 0, 2)] else if s = 10 then [(-1, 0, 5)] else if s = 11 then [(-1, 1, 99)] else [(-1, 1, 60)]
def oRun (cd vl : Int → Int) : List (Int × Int × Int) → Int → Int × Int
  | [], k => (0, k)
  | e :: r, k => if 0 ≤ e.1 ∧ cd k ≠ e.1 then (1, k) else if cd (if 0 ≤ e.1 then k + 1 else k) ≠ 46 then (1, if 0 ≤ e.1 then k + 1 else k) else if vl (if 0 ≤ e.1 then k + 1 else k) < e.2.1 ∨ e.2.2 < vl (if 0 ≤ e.1 then k + 1 else k) then (2, if 0 ≤ e.1 then k + 1 else k) else oRun cd vl r ((if 0 ≤ e.1 then k + 1 else k) + 1)
def oPar (vl : Int → Int) (k : Int) : Int → Int := fun i => vl (k + 2 * (i - 1))
section ON
variable {cd vl : Int → Int} {k lo hi c : Int} {r : List (Int × Int × Int)}
theorem oR_a (h : cd k ≠ 46) : oRun cd vl ((-1, lo, hi) :: r) k = (1, k) := by
  show (if 0 ≤ (-1 : Int) ∧ cd k ≠ -1 then (1, k) else if cd (if 0 ≤ (-1 : Int) then k + 1 else k) ≠ 46 then (1, if 0 ≤ (-1 : Int) then k + 1 else k) else _) = _
  rw [if_neg (by omega), if_neg (show ¬ 0 ≤ (-1 : Int) by decide), if_pos h]
theorem oR_b (h : cd k = 46) (h2 : vl k < lo ∨ hi < vl k) : oRun cd vl ((-1, lo, hi) :: r) k = (2, k) := by
  show (if 0 ≤ (-1 : Int) ∧ cd k ≠ -1 then (1, k) else if cd (if 0 ≤ (-1 : Int) then k + 1 else k) ≠ 46 then (1, if 0 ≤ (-1 : Int) then k + 1 else k) else if vl (if 0 ≤ (-1 : Int) then k + 1 else k) < lo ∨ hi < vl (if 0 ≤ (-1 : Int) then k + 1 else k) then (2, if 0 ≤ (-1 : Int) then k + 1 else k) else _) = _
  rw [if_neg (by omega), if_neg (show ¬ 0 ≤ (-1 : Int) by decide), if_neg (by omega), if_pos h2]
theorem oR_c (h : cd k = 46) (h2 : lo ≤ vl k) (h3 : vl k ≤ hi) : oRun cd vl ((-1, lo, hi) :: r) k = oRun cd vl r (k + 1) := by
  show (if 0 ≤ (-1 : Int) ∧ cd k ≠ -1 then (1, k) else if cd (if 0 ≤ (-1 : Int) then k + 1 else k) ≠ 46 then (1, if 0 ≤ (-1 : Int) then k + 1 else k) else if vl (if 0 ≤ (-1 : Int) then k + 1 else k) < lo ∨ hi < vl (if 0 ≤ (-1 : Int) then k + 1 else k) then (2, if 0 ≤ (-1 : Int) then k + 1 else k) else oRun cd vl r ((if 0 ≤ (-1 : Int) then k + 1 else k) + 1)) = _
  rw [if_neg (by omega), if_neg (show ¬ 0 ≤ (-1 : Int) by decide), if_neg (by omega), if_neg (by omega)]
theorem oR_w (c0 : 0 ≤ c) (h : cd k ≠ c) : oRun cd vl ((c, lo, hi) :: r) k = (1, k) := by
  show (if 0 ≤ c ∧ cd k ≠ c then (1, k) else _) = _
  rw [if_pos ⟨c0, h⟩]
theorem oR_x (c0 : 0 ≤ c) (h : cd k = c) : oRun cd vl ((c, lo, hi) :: r) k = oRun cd vl ((-1, lo, hi) :: r) (k + 1) := by
  show (if 0 ≤ c ∧ cd k ≠ c then (1, k) else if cd (if 0 ≤ c then k + 1 else k) ≠ 46 then (1, if 0 ≤ c then k + 1 else k) else if vl (if 0 ≤ c then k + 1 else k) < lo ∨ hi < vl (if 0 ≤ c then k + 1 else k) then (2, if 0 ≤ c then k + 1 else k) else oRun cd vl r ((if 0 ≤ c then k + 1 else k) + 1)) = (if 0 ≤ (-1 : Int) ∧ cd (k + 1) ≠ -1 then (1, k + 1) else if cd (if 0 ≤ (-1 : Int) then k + 1 + 1 else k + 1) ≠ 46 then (1, if 0 ≤ (-1 : Int) then k + 1 + 1 else k + 1) else if vl (if 0 ≤ (-1 : Int) then k + 1 + 1 else k + 1) < lo ∨ hi < vl (if 0 ≤ (-1 : Int) then k + 1 + 1 else k + 1) then (2, if 0 ≤ (-1 : Int) then k + 1 + 1 else k + 1) else oRun cd vl r ((if 0 ≤ (-1 : Int) then k + 1 + 1 else k + 1) + 1))
  rw [if_neg (fun z => z.2 h), if_pos c0, if_neg (show ¬ (0 ≤ (-1 : Int) ∧ cd (k + 1) ≠ -1) from fun z => absurd z.1 (by decide)), if_neg (show ¬ 0 ≤ (-1 : Int) by decide)]
end ON
def cBd (T : Nat) (G : Hp) (f kf : Int) (h : Hp) : Prop := (∀ o, o ≠ 79 → ¬ (T ≤ o ∧ o ≤ T + 5) → h o = G o) ∧ h 79 6 = f ∧ h 79 7 = G 81 kf
/-- as G, but for the text itself -/
def gOk (T : Nat) (G G2 : Hp) : Prop := ∀ o, o ≠ 79 → ¬ (T ≤ o ∧ o ≤ T + 5) → G2 o = G o
section CL
variable {T : Nat} {G G0 : Hp} {N law n k c : Int} {h : Hp} {D : Nat} {Q : aPO}
theorem cBad.bd {f kf : Int} {h1 : Hp} (hT : tT T) (g : gOk T G0 G) (b : cBad T G f kf h1) : cBd T G0 f kf h1 := by
  refine ⟨fun o a e => (b.1 o a (by omega) (by omega) (by omega)).trans (g o a e), b.2.1, ?_⟩
  rw [b.2.2, g 81 (by decide) (by unfold tT at hT; omega)]
theorem gOk.a (hT : tT T) (g : gOk T G0 G) : G 80 = G0 80 ∧ G 81 = G0 81 ∧ G 82 = G0 82 := by
  unfold tT at hT
  exact ⟨g 80 (by decide) (by omega), g 81 (by decide) (by omega), g 82 (by decide) (by omega)⟩
theorem tkn.g (hT : tT T) (g : gOk T G0 G) (t : tkn G0 N) : tkn G N := by
  have q := g.a hT
  unfold tkn at *
  rw [q.1, q.2.2]
  exact t
theorem c_setPart {i v : Int} (hT : tT T) (e5 : h T 5 = n) (n4 : 0 ≤ n ∧ n < 24) (i4 : 0 ≤ i ∧ i < 4) (q : Q none (hup h (T + 1) (n * 4 + i) v)) : Runs D 104 0 [vA T, vI i, vI v] [] h Q := by
  rw [← e5] at q n4
  have b1 : -2147483648 ≤ h T 5 * 4 ∧ h T 5 * 4 < 2147483648 := by omega
  have b2 : -2147483648 ≤ h T 5 * 4 + i ∧ h T 5 * 4 + i < 2147483648 := by omega
  have b3 : 0 ≤ h T 5 * 4 + i ∧ h T 5 * 4 + i < (96 : Int) := by omega
  rcases hT with e | e | e | e <;> subst e
  all_goals (
    refine Runs.go 30 [] ?_
    refine br.f (by omega) ?_
    exact ⟨b1, ⟨b2, ⟨b3, q⟩⟩⟩)
theorem cS.part {i v : Int} (hT : tT T) (s : cS T G N law n h k c) : cS T (hup G (T + 1) i v) N law n (hup h (T + 1) i v) k c := by
  obtain ⟨s1, s2, s3⟩ := s
  have ne := hT.ne
  have n1 : (79 : Nat) ≠ T + 1 := by unfold tT at hT; omega
  refine ⟨fun o a b e f => ?_, ?_, ?_⟩
  · by_cases z : o = T + 1
    · subst z
      rw [hup_s, hup_s, s1 (T + 1) (fun y => n1 y.symm) (by omega) (by omega) (by omega)]
    · rw [hup_o z, hup_o z]
      exact s1 o a b e f
  · rw [hup_o n1]
    exact s2
  · rw [hup_o (show T ≠ T + 1 by omega)]
    exact s3
theorem c_part {i lo hi : Int} (hT : tT T) (t : tkn G N) (s : cS T G N law n h k c) (hk : 0 ≤ k ∧ k < N) (n4 : 0 ≤ n ∧ n < 24) (i4 : 0 ≤ i ∧ i < 4)
    (q1 : G 80 k = 46 → lo ≤ G 82 k → G 82 k ≤ hi → ∀ h1, cS T (hup G (T + 1) (n * 4 + i) (G 82 k)) N law n h1 (k + 1) c → h1 (T + 2) = h (T + 2) → h1 (T + 3) = h (T + 3) → Q (vI 1) h1)
    (q2 : G 80 k ≠ 46 → ∀ h1, cBad T G 1 k h1 → Q (vI 0) h1) (q3 : G 80 k = 46 → (G 82 k < lo ∨ hi < G 82 k) → ∀ h1, cBad T G 2 k h1 → Q (vI 0) h1) : Runs (D + 1) 85 0 [vA 79, vI i, vI lo, vI hi, vA T, none] [] h Q := by
  have e82 := s.a82 hT
  have t1 := t.1
  have e4 : h 79 4 = k := s.2.1.2.1
  have ev : h 82 (h 79 4) = G 82 k := by rw [e4, e82]
  have n1 : (79 : Nat) ≠ T + 1 := by unfold tT at hT; omega
  have x4 : (hup h (T + 1) (n * 4 + i) (G 82 k)) 79 4 = k := by rw [hup_o n1]; exact e4
  have F2 : G 80 k = 46 → (G 82 k < lo ∨ hi < G 82 k) → ∀ u : AV, Runs (D + 1) 85 38 [vA 79, vI i, vI lo, vI hi, vA T, u] [] h Q := by
    intro a b u
    refine Runs.go 20 [] ?_
    exact c_fail hT t s hk (fun h1 bd => ⟨by omega, q3 a b h1 bd⟩)
  have S : G 80 k = 46 → lo ≤ G 82 k → G 82 k ≤ hi → Runs (D + 1) 85 44 [vA 79, vI i, vI lo, vI hi, vA T, vI (G 82 k)] [] h Q := by
    intro a b c'
    have K : Q (vI 1) (hup (hup h (T + 1) (n * 4 + i) (G 82 k)) 79 4 ((hup h (T + 1) (n * 4 + i) (G 82 k)) 79 4 + 1)) := by
      rw [x4]
      refine q1 a b c' _ ((s.part hT).adv hT) ?_ ?_
      · rw [hup_o (by have := hT.ne.2.1; omega), hup_o (by omega)]
      · rw [hup_o (by have := hT.ne.2.2.1; omega), hup_o (by omega)]
    have hB : -2147483648 ≤ (hup h (T + 1) (n * 4 + i) (G 82 k)) 79 4 + 1 ∧ (hup h (T + 1) (n * 4 + i) (G 82 k)) 79 4 + 1 < 2147483648 := by omega
    have hT' := hT
    have s5 := s.2.2.2
    clear q1 q2 q3 F2 s t
    rcases hT with e | e | e | e <;> subst e
    all_goals (
      refine Runs.go 30 [] ?_
      refine c_setPart hT' s5 n4 i4 ?_
      exact ⟨hB, ⟨by omega, K⟩⟩)
  refine Runs.go 40 [38, 44] ?_
  refine c_next hT t s hk ?_
  refine br.j (fun z => ?_) (fun z => ?_)
  · have z' : ¬ G 80 k = 46 := z
    exact c_fail hT t s hk (fun h1 bd => ⟨by omega, q2 z' h1 bd⟩)
  · have z' : G 80 k = 46 := z
    refine ⟨show 0 ≤ h 79 4 ∧ h 79 4 < (301 : Int) by omega, ?_⟩
    rw [ev]
    refine br.i (fun y => F2 z' (Or.inl y) _) (fun y => ?_)
    refine br.i (fun x => S z' (by omega) x) (fun x => F2 z' (Or.inr (by omega)) _)

/-- the parts of an order are laid -/
def oLd (T : Nat) (G G2 : Hp) (n m : Int) (pr : Int → Int) : Prop := (∀ o, o ≠ T + 1 → G2 o = G o) ∧ (∀ j, (j < n * 4 + 1 ∨ n * 4 + 4 ≤ j) → G2 (T + 1) j = G (T + 1) j) ∧ ∀ i, 1 ≤ i → i ≤ m → G2 (T + 1) (n * 4 + i) = pr i
theorem oLd.up {G2 : Hp} {m v : Int} {pr : Int → Int} (o : oLd T G G2 n m pr) (m3 : 0 ≤ m ∧ m < 3) (e : v = pr (m + 1)) : oLd T G (hup G2 (T + 1) (n * 4 + (m + 1)) v) n (m + 1) pr := by
  obtain ⟨a, b, d⟩ := o
  refine ⟨fun q z => by rw [hup_o z]; exact a q z, fun j z => by rw [hup_nj (by omega)]; exact b j z, fun i i1 i2 => ?_⟩
  by_cases z : i = m + 1
  · rw [z, hup_eq]
    exact e
  · rw [hup_nj (by omega)]
    exact d i i1 (by omega)
theorem oLd.rf {pr : Int → Int} : oLd T G G n 0 pr := ⟨fun _ _ => rfl, fun _ _ => rfl, fun i a b => by omega⟩
theorem oLd.g {G2 : Hp} {m : Int} {pr : Int → Int} (o : oLd T G G2 n m pr) (g : gOk T G0 G) : gOk T G0 G2 := fun q a b => (o.1 q (by omega)).trans (g q a b)
theorem oLd.s {G2 : Hp} {m : Int} {pr : Int → Int} (hT : tT T) (o : oLd T G G2 n m pr) : G2 80 = G 80 ∧ G2 82 = G 82 := by
  unfold tT at hT
  exact ⟨o.1 80 (by omega), o.1 82 (by omega)⟩
/-- one part, in an order -/
theorem c_opart {G2 : Hp} {m lo hi : Int} {k0 : Int} {r : List (Int × Int × Int)} (hT : tT T) (t : tkn G N) (g : gOk T G0 G) (o : oLd T G G2 n m (oPar (G 82) k0)) (m3 : 0 ≤ m ∧ m < 3) (ek : k = k0 + 2 * m) (s : cS T G2 N law n h k c) (hk : 0 ≤ k ∧ k < N) (n4 : 0 ≤ n ∧ n < 24)
    (q1 : oRun (G 80) (G 82) ((-1, lo, hi) :: r) k = oRun (G 80) (G 82) r (k + 1) → k + 1 < N → ∀ G3 h1, oLd T G G3 n (m + 1) (oPar (G 82) k0) → cS T G3 N law n h1 (k + 1) c → h1 (T + 2) = h (T + 2) → h1 (T + 3) = h (T + 3) → Q (vI 1) h1)
    (q2 : ∀ f h1, f ≠ 0 → oRun (G 80) (G 82) ((-1, lo, hi) :: r) k = (f, k) → cBd T G0 f k h1 → Q (vI 0) h1) : Runs (D + 1) 85 0 [vA 79, vI (m + 1), vI lo, vI hi, vA T, none] [] h Q := by
  have e := o.s hT
  have t2 : tkn G2 N := by unfold tkn at *; rw [e.1, e.2]; exact t
  refine c_part hT t2 s hk n4 (by omega) (fun a b d h1 s1 e2 e3 => ?_) (fun a h1 bd => ?_) (fun a b h1 bd => ?_)
  · rw [e.1] at a
    rw [e.2] at b d
    have kn := t.nxt hk (by omega)
    rw [e.2] at s1
    refine q1 (oR_c a b d) kn _ h1 (o.up m3 ?_) s1 e2 e3
    unfold oPar
    rw [ek, show k0 + 2 * (m + 1 - 1) = k0 + 2 * m by omega]
  · rw [e.1] at a
    exact q2 1 h1 (by decide) (oR_a a) (bd.bd hT (o.g g))
  · rw [e.1] at a
    rw [e.2] at b
    exact q2 2 h1 (by decide) (oR_b a b) (bd.bd hT (o.g g))
/-- a word, in an order -/
theorem c_oword {G2 : Hp} {m lo hi w : Int} {k0 : Int} {r : List (Int × Int × Int)} (hT : tT T) (t : tkn G N) (g : gOk T G0 G) (o : oLd T G G2 n m (oPar (G 82) k0)) (w0 : 0 ≤ w ∧ w < 48) (s : cS T G2 N law n h k c) (hk : 0 ≤ k ∧ k < N)
    (q1 : oRun (G 80) (G 82) ((w, lo, hi) :: r) k = oRun (G 80) (G 82) ((-1, lo, hi) :: r) (k + 1) → k + 1 < N → ∀ h1, cS T G2 N law n h1 (k + 1) c → h1 (T + 2) = h (T + 2) → h1 (T + 3) = h (T + 3) → Q (vI 1) h1)
    (q2 : ∀ f h1, f ≠ 0 → oRun (G 80) (G 82) ((w, lo, hi) :: r) k = (f, k) → cBd T G0 f k h1 → Q (vI 0) h1) : Runs (D + 1) 81 0 [vA 79, vI w] [] h Q := by
  have e := o.s hT
  have t2 : tkn G2 N := by unfold tkn at *; rw [e.1, e.2]; exact t
  refine c_take hT t2 s hk (fun a => ?_) (fun a h1 bd => ?_)
  · rw [e.1] at a
    have kn := t.nxt hk (by omega)
    refine q1 (oR_x w0.1 a) kn _ (s.adv hT) (hup_o (by have := hT.ne.2.1; omega)) (hup_o (by have := hT.ne.2.2.1; omega))
  · rw [e.1] at a
    exact q2 1 h1 (by decide) (oR_w w0.1 a) (bd.bd hT (o.g g))

theorem c_order {w : Int} (hw : 3 ≤ w ∧ w ≤ 12) (hT : tT T) (t : tkn G N) (g : gOk T G0 G) (s : cS T G N law n h k c) (hk : 0 ≤ k ∧ k < N) (n4 : 0 ≤ n ∧ n < 24)
    (q1 : ∀ k2, oRun (G 80) (G 82) (its w) k = (0, k2) → k < k2 → k2 < N → ∀ G3 h1, oLd T G G3 n (parts w) (oPar (G 82) k) → cS T G3 N law n h1 k2 c → h1 (T + 2) = h (T + 2) → h1 (T + 3) = h (T + 3) → Q (vI 1) h1)
    (q2 : ∀ f kf h1, f ≠ 0 → oRun (G 80) (G 82) (its w) k = (f, kf) → k ≤ kf → kf < N → cBd T G0 f kf h1 → Q (vI 0) h1) : Runs (D + 2) 84 0 [vA 79, vI w, vA T] [] h Q := by
  have cw : w = 3 ∨ w = 4 ∨ w = 5 ∨ w = 6 ∨ w = 7 ∨ w = 8 ∨ w = 9 ∨ w = 10 ∨ w = 11 ∨ w = 12 := by omega
  rcases cw with e | e | e | e | e | e | e | e | e | e <;> subst e
  · have ei : its 3 = [(-1, 0, 2), (15, 0, 9), (19, 0, 9999)] := by decide
    rw [ei] at q1 q2
    refine Runs.go 120 [] ?_
    refine br.t rfl ?_
    refine c_opart (r := [(15, 0, 9), (19, 0, 9999)]) (m := 0) (G2 := G) (k := k) (k0 := k) hT t g oLd.rf (by decide) (by omega) s (by omega) n4 (fun r0 b0 G1 h1 o1 s1 x1 y1 => ?_) (fun f h' f0 rr bd => ?_)
    rotate_left
    · exact br.t rfl ⟨by omega, q2 f k h' f0 (by rw [rr]) (by omega) (by omega) bd⟩
    refine br.f (by decide) ?_
    obtain ⟨k1, ek1⟩ : ∃ z, z = k + 1 := ⟨_, rfl⟩
    rw [← ek1] at r0 b0 s1
    refine c_oword (lo := 0) (hi := 9) (r := [(19, 0, 9999)]) (G2 := G1) (k := k1) hT t g o1 (by decide) s1 (by omega) (fun r1 b1 h2 s2 x2 y2 => ?_) (fun f h' f0 rr bd => ?_)
    rotate_left
    · exact br.t rfl ⟨by omega, q2 f k1 h' f0 (by rw [r0, rr]) (by omega) (by omega) bd⟩
    refine br.f (by decide) ?_
    obtain ⟨k2, ek2⟩ : ∃ z, z = k1 + 1 := ⟨_, rfl⟩
    rw [← ek2] at r1 b1 s2
    refine c_opart (r := [(19, 0, 9999)]) (m := 1) (G2 := G1) (k := k2) (k0 := k) hT t g o1 (by decide) (by omega) s2 (by omega) n4 (fun r2 b2 G2 h3 o2 s3 x3 y3 => ?_) (fun f h' f0 rr bd => ?_)
    rotate_left
    · exact br.t rfl ⟨by omega, q2 f k2 h' f0 (by rw [r0, r1, rr]) (by omega) (by omega) bd⟩
    refine br.f (by decide) ?_
    obtain ⟨k3, ek3⟩ : ∃ z, z = k2 + 1 := ⟨_, rfl⟩
    rw [← ek3] at r2 b2 s3
    refine c_oword (lo := 0) (hi := 9999) (r := []) (G2 := G2) (k := k3) hT t g o2 (by decide) s3 (by omega) (fun r3 b3 h4 s4 x4 y4 => ?_) (fun f h' f0 rr bd => ?_)
    rotate_left
    · exact br.t rfl ⟨by omega, q2 f k3 h' f0 (by rw [r0, r1, r2, rr]) (by omega) (by omega) bd⟩
    refine br.f (by decide) ?_
    obtain ⟨k4, ek4⟩ : ∃ z, z = k3 + 1 := ⟨_, rfl⟩
    rw [← ek4] at r3 b3 s4
    refine c_opart (r := []) (m := 2) (G2 := G2) (k := k4) (k0 := k) hT t g o2 (by decide) (by omega) s4 (by omega) n4 (fun r4 b4 G3 h5 o3 s5 x5 y5 => ?_) (fun f h' f0 rr bd => ?_)
    rotate_left
    · exact br.t rfl ⟨by omega, q2 f k4 h' f0 (by rw [r0, r1, r2, r3, rr]) (by omega) (by omega) bd⟩
    refine br.f (by decide) ?_
    refine ⟨by omega, q1 (k4 + 1) (by rw [r0, r1, r2, r3, r4]; rfl) (by omega) (by omega) G3 h5 o3 s5 ?_ ?_⟩
    · rw [x5, x4, x3, x2, x1]
    · rw [y5, y4, y3, y2, y1]
  · have ei : its 4 = [(-1, 0, 9), (21, 0, 2)] := by decide
    rw [ei] at q1 q2
    refine Runs.go 120 [] ?_
    refine br.f (by decide) (br.t rfl ?_)
    refine c_opart (r := [(21, 0, 2)]) (m := 0) (G2 := G) (k := k) (k0 := k) hT t g oLd.rf (by decide) (by omega) s (by omega) n4 (fun r0 b0 G1 h1 o1 s1 x1 y1 => ?_) (fun f h' f0 rr bd => ?_)
    rotate_left
    · exact br.t rfl ⟨by omega, q2 f k h' f0 (by rw [rr]) (by omega) (by omega) bd⟩
    refine br.f (by decide) ?_
    obtain ⟨k1, ek1⟩ : ∃ z, z = k + 1 := ⟨_, rfl⟩
    rw [← ek1] at r0 b0 s1
    refine c_oword (lo := 0) (hi := 2) (r := []) (G2 := G1) (k := k1) hT t g o1 (by decide) s1 (by omega) (fun r1 b1 h2 s2 x2 y2 => ?_) (fun f h' f0 rr bd => ?_)
    rotate_left
    · exact br.t rfl ⟨by omega, q2 f k1 h' f0 (by rw [r0, rr]) (by omega) (by omega) bd⟩
    refine br.f (by decide) ?_
    obtain ⟨k2, ek2⟩ : ∃ z, z = k1 + 1 := ⟨_, rfl⟩
    rw [← ek2] at r1 b1 s2
    refine c_opart (r := []) (m := 1) (G2 := G1) (k := k2) (k0 := k) hT t g o1 (by decide) (by omega) s2 (by omega) n4 (fun r2 b2 G2 h3 o2 s3 x3 y3 => ?_) (fun f h' f0 rr bd => ?_)
    rotate_left
    · exact br.t rfl ⟨by omega, q2 f k2 h' f0 (by rw [r0, r1, rr]) (by omega) (by omega) bd⟩
    refine br.f (by decide) ?_
    refine ⟨by omega, q1 (k2 + 1) (by rw [r0, r1, r2]; rfl) (by omega) (by omega) G2 h3 o2 s3 ?_ ?_⟩
    · rw [x3, x2, x1]
    · rw [y3, y2, y1]
  · have ei : its 5 = [(-1, 1, 99)] := by decide
    rw [ei] at q1 q2
    refine Runs.go 120 [] ?_
    refine br.f (by decide) (br.f (by decide) (br.t rfl ?_))
    refine c_opart (r := []) (m := 0) (G2 := G) (k := k) (k0 := k) hT t g oLd.rf (by decide) (by omega) s (by omega) n4 (fun r0 b0 G1 h1 o1 s1 x1 y1 => ?_) (fun f h' f0 rr bd => ?_)
    rotate_left
    · exact ⟨by omega, q2 f k h' f0 (by rw [rr]) (by omega) (by omega) bd⟩
    refine ⟨by omega, q1 (k + 1) (by rw [r0]; rfl) (by omega) (by omega) G1 h1 o1 s1 ?_ ?_⟩
    · rw [x1]
    · rw [y1]
  · have ei : its 6 = [(-1, 1, 99), (21, 0, 2), (22, 0, 5)] := by decide
    rw [ei] at q1 q2
    refine Runs.go 120 [] ?_
    refine br.f (by decide) (br.f (by decide) (br.f (by decide) (br.t rfl ?_)))
    refine c_opart (r := [(21, 0, 2), (22, 0, 5)]) (m := 0) (G2 := G) (k := k) (k0 := k) hT t g oLd.rf (by decide) (by omega) s (by omega) n4 (fun r0 b0 G1 h1 o1 s1 x1 y1 => ?_) (fun f h' f0 rr bd => ?_)
    rotate_left
    · exact br.t rfl ⟨by omega, q2 f k h' f0 (by rw [rr]) (by omega) (by omega) bd⟩
    refine br.f (by decide) ?_
    obtain ⟨k1, ek1⟩ : ∃ z, z = k + 1 := ⟨_, rfl⟩
    rw [← ek1] at r0 b0 s1
    refine c_oword (lo := 0) (hi := 2) (r := [(22, 0, 5)]) (G2 := G1) (k := k1) hT t g o1 (by decide) s1 (by omega) (fun r1 b1 h2 s2 x2 y2 => ?_) (fun f h' f0 rr bd => ?_)
    rotate_left
    · exact br.t rfl ⟨by omega, q2 f k1 h' f0 (by rw [r0, rr]) (by omega) (by omega) bd⟩
    refine br.f (by decide) ?_
    obtain ⟨k2, ek2⟩ : ∃ z, z = k1 + 1 := ⟨_, rfl⟩
    rw [← ek2] at r1 b1 s2
    refine c_opart (r := [(22, 0, 5)]) (m := 1) (G2 := G1) (k := k2) (k0 := k) hT t g o1 (by decide) (by omega) s2 (by omega) n4 (fun r2 b2 G2 h3 o2 s3 x3 y3 => ?_) (fun f h' f0 rr bd => ?_)
    rotate_left
    · exact br.t rfl ⟨by omega, q2 f k2 h' f0 (by rw [r0, r1, rr]) (by omega) (by omega) bd⟩
    refine br.f (by decide) ?_
    obtain ⟨k3, ek3⟩ : ∃ z, z = k2 + 1 := ⟨_, rfl⟩
    rw [← ek3] at r2 b2 s3
    refine c_oword (lo := 0) (hi := 5) (r := []) (G2 := G2) (k := k3) hT t g o2 (by decide) s3 (by omega) (fun r3 b3 h4 s4 x4 y4 => ?_) (fun f h' f0 rr bd => ?_)
    rotate_left
    · exact br.t rfl ⟨by omega, q2 f k3 h' f0 (by rw [r0, r1, r2, rr]) (by omega) (by omega) bd⟩
    refine br.f (by decide) ?_
    obtain ⟨k4, ek4⟩ : ∃ z, z = k3 + 1 := ⟨_, rfl⟩
    rw [← ek4] at r3 b3 s4
    refine c_opart (r := []) (m := 2) (G2 := G2) (k := k4) (k0 := k) hT t g o2 (by decide) (by omega) s4 (by omega) n4 (fun r4 b4 G3 h5 o3 s5 x5 y5 => ?_) (fun f h' f0 rr bd => ?_)
    rotate_left
    · exact br.t rfl ⟨by omega, q2 f k4 h' f0 (by rw [r0, r1, r2, r3, rr]) (by omega) (by omega) bd⟩
    refine br.f (by decide) ?_
    refine ⟨by omega, q1 (k4 + 1) (by rw [r0, r1, r2, r3, r4]; rfl) (by omega) (by omega) G3 h5 o3 s5 ?_ ?_⟩
    · rw [x5, x4, x3, x2, x1]
    · rw [y5, y4, y3, y2, y1]
  · have ei : its 7 = [(-1, 1, 99), (22, 0, 5)] := by decide
    rw [ei] at q1 q2
    refine Runs.go 120 [] ?_
    refine br.f (by decide) (br.f (by decide) (br.f (by decide) (br.f (by decide) (br.t rfl ?_))))
    refine c_opart (r := [(22, 0, 5)]) (m := 0) (G2 := G) (k := k) (k0 := k) hT t g oLd.rf (by decide) (by omega) s (by omega) n4 (fun r0 b0 G1 h1 o1 s1 x1 y1 => ?_) (fun f h' f0 rr bd => ?_)
    rotate_left
    · exact br.t rfl ⟨by omega, q2 f k h' f0 (by rw [rr]) (by omega) (by omega) bd⟩
    refine br.f (by decide) ?_
    obtain ⟨k1, ek1⟩ : ∃ z, z = k + 1 := ⟨_, rfl⟩
    rw [← ek1] at r0 b0 s1
    refine c_oword (lo := 0) (hi := 5) (r := []) (G2 := G1) (k := k1) hT t g o1 (by decide) s1 (by omega) (fun r1 b1 h2 s2 x2 y2 => ?_) (fun f h' f0 rr bd => ?_)
    rotate_left
    · exact br.t rfl ⟨by omega, q2 f k1 h' f0 (by rw [r0, rr]) (by omega) (by omega) bd⟩
    refine br.f (by decide) ?_
    obtain ⟨k2, ek2⟩ : ∃ z, z = k1 + 1 := ⟨_, rfl⟩
    rw [← ek2] at r1 b1 s2
    refine c_opart (r := []) (m := 1) (G2 := G1) (k := k2) (k0 := k) hT t g o1 (by decide) (by omega) s2 (by omega) n4 (fun r2 b2 G2 h3 o2 s3 x3 y3 => ?_) (fun f h' f0 rr bd => ?_)
    rotate_left
    · exact br.t rfl ⟨by omega, q2 f k2 h' f0 (by rw [r0, r1, rr]) (by omega) (by omega) bd⟩
    refine br.f (by decide) ?_
    refine ⟨by omega, q1 (k2 + 1) (by rw [r0, r1, r2]; rfl) (by omega) (by omega) G2 h3 o2 s3 ?_ ?_⟩
    · rw [x3, x2, x1]
    · rw [y3, y2, y1]
  · have ei : its 8 = [(-1, 1, 99), (21, 0, 2), (22, 0, 5)] := by decide
    rw [ei] at q1 q2
    refine Runs.go 120 [] ?_
    refine br.f (by decide) (br.f (by decide) (br.f (by decide) (br.f (by decide) (br.f (by decide) (br.t rfl ?_)))))
    refine c_opart (r := [(21, 0, 2), (22, 0, 5)]) (m := 0) (G2 := G) (k := k) (k0 := k) hT t g oLd.rf (by decide) (by omega) s (by omega) n4 (fun r0 b0 G1 h1 o1 s1 x1 y1 => ?_) (fun f h' f0 rr bd => ?_)
    rotate_left
    · exact br.t rfl ⟨by omega, q2 f k h' f0 (by rw [rr]) (by omega) (by omega) bd⟩
    refine br.f (by decide) ?_
    obtain ⟨k1, ek1⟩ : ∃ z, z = k + 1 := ⟨_, rfl⟩
    rw [← ek1] at r0 b0 s1
    refine c_oword (lo := 0) (hi := 2) (r := [(22, 0, 5)]) (G2 := G1) (k := k1) hT t g o1 (by decide) s1 (by omega) (fun r1 b1 h2 s2 x2 y2 => ?_) (fun f h' f0 rr bd => ?_)
    rotate_left
    · exact br.t rfl ⟨by omega, q2 f k1 h' f0 (by rw [r0, rr]) (by omega) (by omega) bd⟩
    refine br.f (by decide) ?_
    obtain ⟨k2, ek2⟩ : ∃ z, z = k1 + 1 := ⟨_, rfl⟩
    rw [← ek2] at r1 b1 s2
    refine c_opart (r := [(22, 0, 5)]) (m := 1) (G2 := G1) (k := k2) (k0 := k) hT t g o1 (by decide) (by omega) s2 (by omega) n4 (fun r2 b2 G2 h3 o2 s3 x3 y3 => ?_) (fun f h' f0 rr bd => ?_)
    rotate_left
    · exact br.t rfl ⟨by omega, q2 f k2 h' f0 (by rw [r0, r1, rr]) (by omega) (by omega) bd⟩
    refine br.f (by decide) ?_
    obtain ⟨k3, ek3⟩ : ∃ z, z = k2 + 1 := ⟨_, rfl⟩
    rw [← ek3] at r2 b2 s3
    refine c_oword (lo := 0) (hi := 5) (r := []) (G2 := G2) (k := k3) hT t g o2 (by decide) s3 (by omega) (fun r3 b3 h4 s4 x4 y4 => ?_) (fun f h' f0 rr bd => ?_)
    rotate_left
    · exact br.t rfl ⟨by omega, q2 f k3 h' f0 (by rw [r0, r1, r2, rr]) (by omega) (by omega) bd⟩
    refine br.f (by decide) ?_
    obtain ⟨k4, ek4⟩ : ∃ z, z = k3 + 1 := ⟨_, rfl⟩
    rw [← ek4] at r3 b3 s4
    refine c_opart (r := []) (m := 2) (G2 := G2) (k := k4) (k0 := k) hT t g o2 (by decide) (by omega) s4 (by omega) n4 (fun r4 b4 G3 h5 o3 s5 x5 y5 => ?_) (fun f h' f0 rr bd => ?_)
    rotate_left
    · exact br.t rfl ⟨by omega, q2 f k4 h' f0 (by rw [r0, r1, r2, r3, rr]) (by omega) (by omega) bd⟩
    refine br.f (by decide) ?_
    refine ⟨by omega, q1 (k4 + 1) (by rw [r0, r1, r2, r3, r4]; rfl) (by omega) (by omega) G3 h5 o3 s5 ?_ ?_⟩
    · rw [x5, x4, x3, x2, x1]
    · rw [y5, y4, y3, y2, y1]
  · have ei : its 9 = [(-1, 0, 5), (21, 0, 2)] := by decide
    rw [ei] at q1 q2
    refine Runs.go 120 [] ?_
    refine br.f (by decide) (br.f (by decide) (br.f (by decide) (br.f (by decide) (br.f (by decide) (br.f (by decide) (br.t rfl ?_))))))
    refine c_opart (r := [(21, 0, 2)]) (m := 0) (G2 := G) (k := k) (k0 := k) hT t g oLd.rf (by decide) (by omega) s (by omega) n4 (fun r0 b0 G1 h1 o1 s1 x1 y1 => ?_) (fun f h' f0 rr bd => ?_)
    rotate_left
    · exact br.t rfl ⟨by omega, q2 f k h' f0 (by rw [rr]) (by omega) (by omega) bd⟩
    refine br.f (by decide) ?_
    obtain ⟨k1, ek1⟩ : ∃ z, z = k + 1 := ⟨_, rfl⟩
    rw [← ek1] at r0 b0 s1
    refine c_oword (lo := 0) (hi := 2) (r := []) (G2 := G1) (k := k1) hT t g o1 (by decide) s1 (by omega) (fun r1 b1 h2 s2 x2 y2 => ?_) (fun f h' f0 rr bd => ?_)
    rotate_left
    · exact br.t rfl ⟨by omega, q2 f k1 h' f0 (by rw [r0, rr]) (by omega) (by omega) bd⟩
    refine br.f (by decide) ?_
    obtain ⟨k2, ek2⟩ : ∃ z, z = k1 + 1 := ⟨_, rfl⟩
    rw [← ek2] at r1 b1 s2
    refine c_opart (r := []) (m := 1) (G2 := G1) (k := k2) (k0 := k) hT t g o1 (by decide) (by omega) s2 (by omega) n4 (fun r2 b2 G2 h3 o2 s3 x3 y3 => ?_) (fun f h' f0 rr bd => ?_)
    rotate_left
    · exact br.t rfl ⟨by omega, q2 f k2 h' f0 (by rw [r0, r1, rr]) (by omega) (by omega) bd⟩
    refine br.f (by decide) ?_
    refine ⟨by omega, q1 (k2 + 1) (by rw [r0, r1, r2]; rfl) (by omega) (by omega) G2 h3 o2 s3 ?_ ?_⟩
    · rw [x3, x2, x1]
    · rw [y3, y2, y1]
  · have ei : its 10 = [(-1, 0, 5)] := by decide
    rw [ei] at q1 q2
    refine Runs.go 120 [] ?_
    refine br.f (by decide) (br.f (by decide) (br.f (by decide) (br.f (by decide) (br.f (by decide) (br.f (by decide) (br.f (by decide) (br.t rfl ?_)))))))
    refine c_opart (r := []) (m := 0) (G2 := G) (k := k) (k0 := k) hT t g oLd.rf (by decide) (by omega) s (by omega) n4 (fun r0 b0 G1 h1 o1 s1 x1 y1 => ?_) (fun f h' f0 rr bd => ?_)
    rotate_left
    · exact ⟨by omega, q2 f k h' f0 (by rw [rr]) (by omega) (by omega) bd⟩
    refine ⟨by omega, q1 (k + 1) (by rw [r0]; rfl) (by omega) (by omega) G1 h1 o1 s1 ?_ ?_⟩
    · rw [x1]
    · rw [y1]
  · have ei : its 11 = [(-1, 1, 99)] := by decide
    rw [ei] at q1 q2
    refine Runs.go 120 [] ?_
    refine br.f (by decide) (br.f (by decide) (br.f (by decide) (br.f (by decide) (br.f (by decide) (br.f (by decide) (br.f (by decide) (br.f (by decide) (br.t rfl ?_))))))))
    refine c_opart (r := []) (m := 0) (G2 := G) (k := k) (k0 := k) hT t g oLd.rf (by decide) (by omega) s (by omega) n4 (fun r0 b0 G1 h1 o1 s1 x1 y1 => ?_) (fun f h' f0 rr bd => ?_)
    rotate_left
    · exact ⟨by omega, q2 f k h' f0 (by rw [rr]) (by omega) (by omega) bd⟩
    refine ⟨by omega, q1 (k + 1) (by rw [r0]; rfl) (by omega) (by omega) G1 h1 o1 s1 ?_ ?_⟩
    · rw [x1]
    · rw [y1]
  · have ei : its 12 = [(-1, 1, 60)] := by decide
    rw [ei] at q1 q2
    refine Runs.go 120 [] ?_
    refine br.f (by decide) (br.f (by decide) (br.f (by decide) (br.f (by decide) (br.f (by decide) (br.f (by decide) (br.f (by decide) (br.f (by decide) (br.f (by decide) ?_))))))))
    refine c_opart (r := []) (m := 0) (G2 := G) (k := k) (k0 := k) hT t g oLd.rf (by decide) (by omega) s (by omega) n4 (fun r0 b0 G1 h1 o1 s1 x1 y1 => ?_) (fun f h' f0 rr bd => ?_)
    rotate_left
    · exact ⟨by omega, q2 f k h' f0 (by rw [rr]) (by omega) (by omega) bd⟩
    refine ⟨by omega, q1 (k + 1) (by rw [r0]; rfl) (by omega) (by omega) G1 h1 o1 s1 ?_ ?_⟩
    · rw [x1]
    · rw [y1]
end CL
