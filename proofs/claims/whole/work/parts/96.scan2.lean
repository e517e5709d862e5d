/-! TEXTS: the class's tokens, all of them -/
theorem tkP.le {tp : Int → Int} {l s e c v : Int} (t : tkP tp l s e c v) : e ≤ l := by
  rcases t with q | q | q
  · exact q.1.1.2
  · exact q.1.1.2
  · have := q.1.2.2.2.1
    rcases q.2 with z | z
    · have := z.2.2.2
      omega
    · have := z.2.1
      omega
def scI (h g : Hp) (en : Int → Int) (m p : Int) : Prop := (∀ o, o ≠ 79 → o ≠ 80 → o ≠ 81 → o ≠ 82 → g o = h o) ∧ (∀ j, j ≠ 3 → g 79 j = h 79 j) ∧ g 79 3 = m ∧ (0 ≤ m ∧ m ≤ p ∧ p ≤ h 84 4) ∧ (∀ k, 0 ≤ k → k < m → tkP (h 88) (h 84 4) (g 81 k) (en k) (g 80 k) (g 82 k) ∧ 0 ≤ g 81 k) ∧
  (m = 0 → ∀ j, 0 ≤ j → j < p → blk (h 88 j)) ∧ (0 < m → bks (h 88) (h 84 4) 0 (g 81 0) ∧ en (m - 1) ≤ p ∧ ∀ j, en (m - 1) ≤ j → j < p → blk (h 88 j)) ∧ (∀ k, 0 ≤ k → k + 1 < m → bks (h 88) (h 84 4) (en k) (g 81 (k + 1)))
section S2
variable {h g : Hp} {Q : aPO} {D : Nat} {en : Int → Int} {m p : Int}
theorem sgc_sb {b : Int} (hb : 0 ≤ b ∧ b ≤ 255) : sgc (sb b) = sgc b := by
  unfold sb
  split
  · rfl
  · unfold sgc
    rw [if_neg (by omega), if_neg (by omega), if_neg (by omega), if_neg (by omega), if_neg (by omega), if_neg (by omega), if_neg (by omega), if_neg (by omega), if_neg (by omega), if_neg (by omega), if_neg (by omega)]
    rw [if_neg (by omega), if_neg (by omega), if_neg (by omega), if_neg (by omega), if_neg (by omega), if_neg (by omega), if_neg (by omega), if_neg (by omega), if_neg (by omega), if_neg (by omega), if_neg (by omega)]
theorem c_signCode {b : Int} (hb : 0 ≤ b ∧ b ≤ 255) (q : Q (vI (sgc b)) h) : Runs D 78 0 [vI (sb b)] [] h Q := by
  rw [← sgc_sb hb] at q
  generalize sb b = c at *
  refine Runs.go 20 [] ?_
  refine br.i (fun e => QI q (by have e' : c = 35 := e; rw [e']; decide)) (fun n35 => ?_)
  refine br.i (fun e => QI q (by have e' : c = 36 := e; rw [e']; decide)) (fun n36 => ?_)
  refine br.i (fun e => QI q (by have e' : c = 37 := e; rw [e']; decide)) (fun n37 => ?_)
  refine br.i (fun e => QI q (by have e' : c = 38 := e; rw [e']; decide)) (fun n38 => ?_)
  refine br.i (fun e => QI q (by have e' : c = 39 := e; rw [e']; decide)) (fun n39 => ?_)
  refine br.i (fun e => QI q (by have e' : c = 40 := e; rw [e']; decide)) (fun n40 => ?_)
  refine br.i (fun e => QI q (by have e' : c = 41 := e; rw [e']; decide)) (fun n41 => ?_)
  refine br.i (fun e => QI q (by have e' : c = 42 := e; rw [e']; decide)) (fun n42 => ?_)
  refine br.i (fun e => QI q (by have e' : c = 43 := e; rw [e']; decide)) (fun n43 => ?_)
  refine br.i (fun e => QI q (by have e' : c = 44 := e; rw [e']; decide)) (fun n44 => ?_)
  refine br.i (fun e => QI q (by have e' : c = 45 := e; rw [e']; decide)) (fun n45 => ?_)
  refine br.i (fun e => QI q (by have e' : c = 46 := e; rw [e']; decide)) (fun n46 => ?_)
  refine br.i (fun e => QI q (by have e' : c = 47 := e; rw [e']; decide)) (fun n47 => ?_)
  refine br.i (fun e => QI q (by have e' : c = 48 := e; rw [e']; decide)) (fun n48 => ?_)
  refine br.i (fun e => QI q (by have e' : c = 49 := e; rw [e']; decide)) (fun n49 => ?_)
  refine br.i (fun e => QI q (by have e' : c = 50 := e; rw [e']; decide)) (fun n50 => ?_)
  refine br.i (fun e => QI q (by have e' : c = 51 := e; rw [e']; decide)) (fun n51 => ?_)
  refine br.i (fun e => QI q (by have e' : c = 52 := e; rw [e']; decide)) (fun n52 => ?_)
  refine br.i (fun e => QI q (by have e' : c = 53 := e; rw [e']; decide)) (fun n53 => ?_)
  refine br.i (fun e => QI q (by have e' : c = 54 := e; rw [e']; decide)) (fun n54 => ?_)
  refine br.i (fun e => QI q (by have e' : c = 55 := e; rw [e']; decide)) (fun n55 => ?_)
  refine br.i (fun e => QI q (by have e' : c = 56 := e; rw [e']; decide)) (fun n56 => ?_)
  refine br.i (fun e => QI q (by have e' : c = 57 := e; rw [e']; decide)) (fun n57 => ?_)
  refine br.i (fun e => QI q (by have e' : c = 58 := e; rw [e']; decide)) (fun n58 => ?_)
  refine br.i (fun e => QI q (by have e' : c = 59 := e; rw [e']; decide)) (fun n59 => ?_)
  refine br.i (fun e => QI q (by have e' : c = 60 := e; rw [e']; decide)) (fun n60 => ?_)
  refine br.i (fun e => QI q (by have e' : c = 61 := e; rw [e']; decide)) (fun n61 => ?_)
  refine br.i (fun e => QI q (by have e' : c = 62 := e; rw [e']; decide)) (fun n62 => ?_)
  refine QI q ?_
  unfold sgc
  rw [if_neg (show ¬ c = 60 from n60)]
  rw [if_neg (show ¬ c = 62 from n62)]
  rw [if_neg (show ¬ c = 61 from n61)]
  rw [if_neg (show ¬ c = 35 from n35)]
  rw [if_neg (show ¬ c = 43 from n43)]
  rw [if_neg (show ¬ c = 45 from n45)]
  rw [if_neg (show ¬ c = 42 from n42)]
  rw [if_neg (show ¬ c = 47 from n47)]
  rw [if_neg (show ¬ c = 40 from n40)]
  rw [if_neg (show ¬ c = 41 from n41)]
  rw [if_neg (show ¬ c = 59 from n59)]
theorem c_put {c s v : Int} (e3 : g 79 3 = m) (m0 : 0 ≤ m ∧ m < 301) (q : ∀ g1 : Hp, (∀ o, o ≠ 79 → o ≠ 80 → o ≠ 81 → o ≠ 82 → g1 o = g o) → (∀ j, j ≠ 3 → g1 79 j = g 79 j) → g1 79 3 = m + 1 → g1 80 = aset (g 80) m c → g1 81 = aset (g 81) m s → g1 82 = aset (g 82) m v → Q none g1) : Runs D 71 0 [vA 79, vI c, vI s, vI v] [] g Q := by
  have K : ∀ g1 : Hp, g1 = hup (hup (hup (hup g 80 m c) 81 m s) 82 m v) 79 3 (m + 1) → Q none g1 := by
    intro g1 e
    subst e
    refine q _ (fun o a b d f => ?_) (fun j a => ?_) hup_eq ?_ ?_ ?_
    · rw [hup_o a, hup_o f, hup_o d, hup_o b]
    · rw [hup_nj a, hup_o (by decide), hup_o (by decide), hup_o (by decide)]
    · rw [hup_o (by decide), hup_o (by decide), hup_o (by decide), hup_s]
    · rw [hup_o (by decide), hup_o (by decide), hup_s, hup_o (by decide)]
    · rw [hup_o (by decide), hup_s, hup_o (by decide), hup_o (by decide)]
  rw [← e3] at K m0
  have bb : 0 ≤ g 79 3 ∧ g 79 3 < (301 : Int) := m0
  have hB : -2147483648 ≤ g 79 3 + 1 ∧ g 79 3 + 1 < 2147483648 := by omega
  refine Runs.go 60 [] ?_
  refine br.f (show ¬ (301 : Int) ≤ g 79 3 by omega) ?_
  exact ⟨bb, ⟨bb, ⟨bb, ⟨hB, K _ rfl⟩⟩⟩⟩
theorem scI.blank (I : scI h g en m p) (hp : p < h 84 4) (hb : blk (h 88 p)) : scI h g en m (p + 1) := by
  obtain ⟨i1, i2, i3, i4, i5, i6, i7, i8⟩ := I
  refine ⟨i1, i2, i3, by omega, i5, fun z j a b => ?_, fun z => ⟨(i7 z).1, by have := (i7 z).2.1; omega, fun j a b => ?_⟩, i8⟩
  · by_cases w : j = p
    · rw [w]; exact hb
    · exact i6 z j a (by omega)
  · by_cases w : j = p
    · rw [w]; exact hb
    · exact (i7 z).2.2 j a (by omega)
theorem scI.tok {g1 : Hp} {e c v : Int} (I : scI h g en m p) (hp : p < h 84 4) (nb : ¬ blk (h 88 p)) (t : tkP (h 88) (h 84 4) p e c v) (a1 : ∀ o, o ≠ 79 → o ≠ 80 → o ≠ 81 → o ≠ 82 → g1 o = g o) (a2 : ∀ j, j ≠ 3 → g1 79 j = g 79 j) (a3 : g1 79 3 = m + 1) (a4 : g1 80 = aset (g 80) m c) (a5 : g1 81 = aset (g 81) m p) (a6 : g1 82 = aset (g 82) m v) : scI h g1 (aset en m e) (m + 1) e := by
  obtain ⟨i1, i2, i3, i4, i5, i6, i7, i8⟩ := I
  have lt := t.lt
  have le := t.le
  refine ⟨fun o x y z w => (a1 o x y z w).trans (i1 o x y z w), fun j x => (a2 j x).trans (i2 j x), a3, by omega, fun k k0 k1 => ?_, fun z => by omega, fun _ => ⟨?_, ?_, fun j x y => ?_⟩, fun k k0 k1 => ?_⟩
  · by_cases w : k = m
    · rw [w, a4, a5, a6, aset_eq, aset_eq, aset_eq, aset_eq]
      exact ⟨t, by omega⟩
    · rw [a4, a5, a6, aset_ne w, aset_ne w, aset_ne w, aset_ne w]
      exact i5 k k0 (by omega)
  · by_cases w : m = 0
    · rw [a5, w, aset_eq]
      exact ⟨⟨by omega, by omega⟩, i6 w, fun _ => nb⟩
    · rw [a5, aset_ne (by omega)]
      exact (i7 (by omega)).1
  · rw [show m + 1 - 1 = m by omega, aset_eq]
    exact Int.le_refl _
  · rw [show m + 1 - 1 = m by omega, aset_eq] at x
    omega
  · by_cases w : k + 1 = m
    · have q := i7 (by omega)
      rw [a5, w, aset_eq, aset_ne (by omega)]
      rw [show m - 1 = k by omega] at q
      exact ⟨⟨q.2.1, by omega⟩, q.2.2, fun _ => nb⟩
    · rw [a5, aset_ne w, aset_ne (by omega)]
      exact i8 k k0 (by omega)
theorem scI.fin {g1 : Hp} (T : tpC h (h 88) (h 84 4)) (I : scI h g en m (h 84 4)) (a1 : ∀ o, o ≠ 79 → o ≠ 80 → o ≠ 81 → o ≠ 82 → g1 o = g o) (a3 : g1 79 3 = m + 1) (a4 : g1 80 = aset (g 80) m 48) (a5 : g1 81 = aset (g 81) m (h 84 4)) (a6 : g1 82 = aset (g 82) m 0) : tS g1 (m + 1) (aset en m (h 84 4)) := by
  obtain ⟨i1, i2, i3, i4, i5, i6, i7, i8⟩ := I
  have t1 := T.1
  have e84 : g1 84 = h 84 := (a1 84 (by decide) (by decide) (by decide) (by decide)).trans (i1 84 (by decide) (by decide) (by decide) (by decide))
  have e88 : g1 88 = h 88 := (a1 88 (by decide) (by decide) (by decide) (by decide)).trans (i1 88 (by decide) (by decide) (by decide) (by decide))
  unfold tS
  rw [e84, e88, show m + 1 - 1 = m by omega]
  refine ⟨⟨by omega, t1⟩, ⟨by rw [a4, aset_eq], by rw [a5, aset_eq], by rw [aset_eq], by rw [a6, aset_eq]⟩, fun k k0 k1 => ?_, fun i x y => (T.2 i x y).1, ?_, fun k k0 k1 => ?_⟩
  · rw [a4, a5, a6, aset_ne (by omega), aset_ne (by omega), aset_ne (by omega), aset_ne (by omega)]
    exact i5 k k0 k1
  · by_cases w : m = 0
    · rw [a5, w, aset_eq]
      exact ⟨⟨by omega, Int.le_refl _⟩, i6 w, fun z => by omega⟩
    · rw [a5, aset_ne (by omega)]
      exact (i7 (by omega)).1
  · by_cases w : k + 1 = m
    · have q := i7 (by omega)
      rw [a5, w, aset_eq, aset_ne (by omega)]
      rw [show m - 1 = k by omega] at q
      exact ⟨⟨q.2.1, Int.le_refl _⟩, q.2.2, fun z => by omega⟩
    · rw [a5, aset_ne w, aset_ne (by omega)]
      exact i8 k k0 (by omega)
theorem c_scan (T : tpC h (h 88) (h 84 4)) (q : ∀ h1 N en, (∀ o, o ≠ 79 → o ≠ 80 → o ≠ 81 → o ≠ 82 → h1 o = h o) → (∀ j, j ≠ 3 → h1 79 j = h 79 j) → h1 79 3 = N → tS h1 N en → Q none h1) : Runs (D + 2) 70 0 [vA 79, vA 83, vI (h 84 4), none, none, none, none] [] h Q := by
  have t1 := T.1
  have L : ∀ (f : Nat) (g : Hp) (en : Int → Int) (m p i : Int) (u v : AV), h 84 4 - p ≤ f → 0 ≤ i → i ≤ p → scI h g en m p → Runs (D + 2) 70 10 [vA 79, vA 83, vI (h 84 4), vI p, vI i, u, v] [] g Q := by
    intro f
    induction f with
    | zero =>
      intro g en m p i u v hf i0 ip I
      have i4 := I.2.2.2.1
      have ep : p = h 84 4 := by omega
      have F : Runs (D + 2) 70 211 [vA 79, vA 83, vI (h 84 4), vI p, vI i, u, v] [] g Q := by
        refine Runs.go 20 [] ?_
        refine c_put I.2.2.1 (by omega) (fun g1 a1 a2 a3 a4 a5 a6 => ?_)
        rw [ep] at I
        exact q g1 (m + 1) (aset en m (h 84 4)) (fun o x y z w => (a1 o x y z w).trans (I.1 o x y z w)) (fun j x => (a2 j x).trans (I.2.1 j x)) a3 (I.fin T a1 a3 a4 a5 a6)
      refine Runs.go 20 [211] ?_
      refine br.i (fun _ => F) (fun _ => ?_)
      exact br.t (by omega) F
    | succ f ih =>
      intro g en m p i u v hf i0 ip I
      have i4 := I.2.2.2.1
      have F : p = h 84 4 → Runs (D + 2) 70 211 [vA 79, vA 83, vI (h 84 4), vI p, vI i, u, v] [] g Q := by
        intro ep
        refine Runs.go 20 [] ?_
        refine c_put I.2.2.1 (by omega) (fun g1 a1 a2 a3 a4 a5 a6 => ?_)
        rw [ep] at I
        exact q g1 (m + 1) (aset en m (h 84 4)) (fun o x y z w => (a1 o x y z w).trans (I.1 o x y z w)) (fun j x => (a2 j x).trans (I.2.1 j x)) a3 (I.fin T a1 a3 a4 a5 a6)
      by_cases pl : p = h 84 4
      · refine Runs.go 20 [211] ?_
        refine br.i (fun _ => F pl) (fun _ => ?_)
        exact br.t (by omega) (F pl)
      have bp := T.2 p (by omega) (by omega)
      have cp := sb_c bp.1
      have e83 : g 83 = h 83 := I.1 83 (by decide) (by decide) (by decide) (by decide)
      have Tg : tpC g (h 88) (h 84 4) := ⟨t1, fun j x y => by rw [e83]; exact T.2 j x y⟩
      have ev : g 83 p = sb (h 88 p) := by rw [e83]; exact bp.2
      -- the next round
      have N : ∀ (g1 : Hp) (en1 : Int → Int) (m1 p1 : Int) (u v : AV), p < p1 → scI h g1 en1 m1 p1 → Runs (D + 2) 70 205 [vA 79, vA 83, vI (h 84 4), vI p1, vI i, u, v] [] g1 Q := by
        intro g1 en1 m1 p1 u v hp I1
        refine Runs.go 10 [10] ?_
        exact ⟨by omega, ih g1 en1 m1 p1 (i + 1) u v (by omega) (by omega) (by omega) I1⟩
      have P : ∀ (e c vv : Int), ¬ blk (h 88 p) → tkP (h 88) (h 84 4) p e c vv → ∀ Q' : aPO, (∀ g1, scI h g1 (aset en m e) (m + 1) e → Q' none g1) → Runs (D + 1) 71 0 [vA 79, vI c, vI p, vI vv] [] g Q' := by
        intro e c vv nb t Q' hq
        exact c_put I.2.2.1 (by omega) (fun g1 a1 a2 a3 a4 a5 a6 => hq g1 (I.tok (by omega) nb t a1 a2 a3 a4 a5 a6))
      refine Runs.go 40 [42, 48] ?_
      refine br.f (by omega) (br.f (by omega) ?_)
      refine ⟨⟨by omega, show p < (300 : Int) by omega⟩, ?_⟩
      have B : blk (h 88 p) → Runs (D + 2) 70 42 [vA 79, vA 83, vI (h 84 4), vI p, vI i, vI (g 83 p), v] [] g Q := by
        intro hb
        refine Runs.go 10 [205] ?_
        exact ⟨by omega, N g en m (p + 1) _ _ (by omega) (I.blank (by omega) hb)⟩
      have X : ¬ blk (h 88 p) → Runs (D + 2) 70 48 [vA 79, vA 83, vI (h 84 4), vI p, vI i, vI (g 83 p), v] [] g Q := by
        intro nb
        rw [ev]
        refine Runs.go 60 [84, 205] ?_
        refine c_isLet ?_
        refine br.j (fun z => ?_) (fun z => ?_)
        · have lt : ltr (h 88 p) := cp.1.mp (b2i_nz z)
          refine c_runL Tg (by omega) (by omega) (fun e e1 e2 e3 e4 => ?_)
          have pe : p < e := by
            by_cases w : p = e
            · exact absurd lt (w ▸ e4 (by omega))
            · omega
          refine c_wordCode Tg (by omega) pe e2 (fun c c0 c1 c2 => ?_)
          refine P e c 0 nb (Or.inl ⟨⟨⟨pe, e2⟩, e3, e4⟩, ⟨c0, c1⟩, c2, rfl⟩) _ (fun g1 I1 => ?_)
          exact N g1 _ _ e _ _ pe I1
        · have nl : ¬ ltr (h 88 p) := fun y => b2i_z z (cp.1.mpr y)
          refine Runs.go 60 [121, 205] ?_
          refine c_isDig ?_
          refine br.j (fun z2 => ?_) (fun z2 => ?_)
          · have dg : dgt (h 88 p) := cp.2.1.mp (b2i_nz z2)
            refine c_runD Tg (by omega) (by omega) (fun e e1 e2 e3 e4 => ?_)
            have pe : p < e := by
              by_cases w : p = e
              · exact absurd dg (w ▸ e4 (by omega))
              · omega
            refine c_number2 Tg (by omega) (by omega) e2 e3 ?_
            refine P e 46 _ nb (Or.inr (Or.inl ⟨⟨⟨pe, e2⟩, e3, e4⟩, rfl, rfl⟩)) _ (fun g1 I1 => ?_)
            exact N g1 _ _ e _ _ pe I1
          · have nd : ¬ dgt (h 88 p) := fun y => b2i_z z2 (cp.2.1.mpr y)
            have c60 := cp.2.2.2 60 (by decide) (by decide)
            have c62 := cp.2.2.2 62 (by decide) (by decide)
            have S0 : ¬ (p + 1 < h 84 4 ∧ h 88 (p + 1) = 61 ∧ (h 88 p = 60 ∨ h 88 p = 62)) → Runs (D + 2) 70 159 [vA 79, vA 83, vI (h 84 4), vI p, vI i, vI (sb (h 88 p)), vI 0] [] g Q := by
              intro ns
              refine Runs.go 40 [205] ?_
              refine br.t rfl ?_
              refine c_signCode bp.1 ?_
              refine P (p + 1) _ 0 nb (Or.inr (Or.inr ⟨⟨nl, nd, nb, by omega, rfl⟩, Or.inr ⟨ns, rfl, rfl⟩⟩)) _ (fun g1 I1 => ?_)
              refine br.t rfl ⟨by omega, N g1 _ _ (p + 1) _ _ (by omega) I1⟩
            have S1 : p + 1 < h 84 4 → h 88 (p + 1) = 61 → (h 88 p = 60 ∨ h 88 p = 62) → Runs (D + 2) 70 159 [vA 79, vA 83, vI (h 84 4), vI p, vI i, vI (sb (h 88 p)), vI 1] [] g Q := by
              intro s1 s2 s3
              have J : ∀ c : Int, (h 88 p = 60 ∧ c = 34 ∨ h 88 p = 62 ∧ c = 36) → Runs (D + 2) 70 187 [vA 79, vA 83, vI (h 84 4), vI p, vI i, vI (sb (h 88 p)), vI 1] [vI c, vA 79] g Q := by
                intro c hc
                refine Runs.go 40 [205] ?_
                refine P (p + 2) c 0 nb (Or.inr (Or.inr ⟨⟨nl, nd, nb, by omega, rfl⟩, Or.inl ⟨s1, s2, hc, rfl⟩⟩)) _ (fun g1 I1 => ?_)
                refine br.f (by decide) ⟨by omega, N g1 _ _ (p + 2) _ _ (by omega) I1⟩
              refine Runs.go 20 [187] ?_
              refine br.f (by decide) ?_
              refine br.i (fun y => J 36 ?_) (fun y => J 34 ?_)
              · have y' : ¬ sb (h 88 p) = 60 := y
                rw [c60] at y'
                omega
              · have y' : sb (h 88 p) = 60 := Decidable.not_not.mp y
                rw [c60] at y'
                omega
            refine Runs.go 40 [159] ?_
            refine ⟨by omega, ?_⟩
            refine br.i (fun y => S0 (fun w => by omega)) (fun y => ?_)
            have bq := T.2 (p + 1) (by omega) (by omega)
            have cq := (sb_c bq.1).2.2.2 61 (by decide) (by decide)
            have eq2 : g 83 (p + 1) = sb (h 88 (p + 1)) := by rw [e83]; exact bq.2
            refine ⟨by omega, ⟨⟨by omega, show p + 1 < (300 : Int) by omega⟩, ?_⟩⟩
            refine br.i (fun y2 => S0 (fun w => ?_)) (fun y2 => ?_)
            · have y2' : ¬ g 83 (p + 1) = 61 := y2
              rw [eq2, cq] at y2'
              exact y2' w.2.1
            · have y2' : g 83 (p + 1) = 61 := Decidable.not_not.mp y2
              rw [eq2, cq] at y2'
              refine br.i (fun y3 => S1 (by omega) y2' (Or.inl (c60.mp y3))) (fun y3 => ?_)
              refine br.i (fun y4 => S0 (fun w => ?_)) (fun y4 => S1 (by omega) y2' (Or.inr (c62.mp (Decidable.not_not.mp y4))))
              rcases w.2.2 with x | x
              · exact y3 (c60.mpr x)
              · exact y4 (c62.mpr x)
      refine br.i (fun z => B ?_) (fun z1 => ?_)
      · have z' : g 83 p = 32 := z
        rw [ev] at z'
        exact cp.2.2.1.mp (Or.inl z')
      · refine br.i (fun z => X ?_) (fun z => B ?_)
        · have z' : ¬ g 83 p = 10 := z
          have z1' : ¬ g 83 p = 32 := z1
          rw [ev] at z' z1'
          intro y
          rcases cp.2.2.1.mpr y with x | x
          · exact z1' x
          · exact z' x
        · have z' : g 83 p = 10 := Decidable.not_not.mp z
          rw [ev] at z'
          exact cp.2.2.1.mp (Or.inr z')
  refine Runs.go 10 [10] ?_
  refine L (h 84 4).toNat (hup h 79 3 0) (fun _ => 0) 0 0 0 none none (by omega) (by decide) (by decide) ⟨fun o a _ _ _ => hup_o a, fun j a => hup_nj a, hup_eq, by omega, fun k a b => by omega, fun _ j a b => by omega, fun z => absurd z (by decide), fun k a b => by omega⟩
end S2
