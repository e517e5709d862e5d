/-! LAWS, second half -/
theorem nat4 {t m : Int} (h : 0 ≤ t ∧ t < m) (h4 : m ≤ 4) : ∃ u : Nat, u < 4 ∧ (u : Int) < m ∧ t = u := ⟨t.toNat, by omega, by omega, by omega⟩
theorem r_says {d : Nat} {t s wo top : Int} {h : Hp} {Q : aPO} {L : aL} (w : Wf (h 85)) (tx : cTx h L (h 85 1)) (ht : -1 ≤ t ∧ t < h 85 1) (hs : 0 ≤ s ∧ s < 3) (nm : nOk (h 90)) (h1 : 0 ≤ top ∧ top ≤ 9999) (h2 : -100000 ≤ wo ∧ wo ≤ 100000)
    (k : ∀ h1, (∀ o, o ≠ 91 → o ≠ 92 → h1 o = h o) → Q (vI (pSay (pLw L t s) wo top (r9 (h 90)) (r3 (fun i => h 85 (66 + i))))) h1) : Runs (d + 4) 231 0 [vA 84, vI t, vI s, vI wo, vI top, none] [] h Q := by
  by_cases t0 : t < 0
  · refine Runs.go 60 [] ?_
    refine br.t t0 ?_
    refine r_cut (by omega) ?_
    have K := k h (fun _ _ _ => rfl)
    unfold pLw at K
    rw [if_neg (by omega)] at K
    exact K
  · obtain ⟨u, u4, um, e⟩ := nat4 (t := t) (m := h 85 1) (by omega) w.p1.2
    subst e
    have T := tx u u4 um
    have lw : pLw L u s = L u s := by unfold pLw; rw [if_pos (by omega)]
    rw [lw] at k
    have n0 := T.1.2
    have hd : ∀ (m : Int), 0 ≤ m → m ≤ h 87 (705 * u) → (∀ i, 0 ≤ i → i < m → h 87 (705 * u + 1 + 4 * i) ≠ s) → Runs (d + 4) 231 3 [vA 84, vI u, vI s, vI wo, vI top, vI m] [] h Q → Runs (d + 4) 231 3 [vA 84, vI u, vI s, vI wo, vI top, vI 0] [] h Q := by
      intro m m0 mn ne r
      refine downI (R := fun i => Runs (d + 4) 231 3 [vA 84, vI u, vI s, vI wo, vI top, vI i] [] h Q) (x := 0) (n := m) m0 r (fun i i0 i3 r => ?_)
      refine Runs.go 30 [3] ?_
      refine br.f (by omega) ?_
      refine ⟨by omega, ⟨⟨by omega, show _ < (2820 : Int) by omega⟩, ?_⟩⟩
      refine br.f (show ¬ h 87 (705 * u) ≤ i by omega) ?_
      refine ⟨by omega, ⟨by omega, ⟨by omega, ⟨by omega, ⟨⟨by omega, show _ < (2820 : Int) by omega⟩, ?_⟩⟩⟩⟩⟩
      exact br.t (ne i i0 i3) ⟨by omega, r⟩
    refine Runs.go 10 [3] ?_
    rcases hl : L u s with _ | F
    · rw [hl] at k
      refine hd (h 87 (705 * u)) n0.1 (by omega) (T.2.2.1 s hs.1 hs.2 hl).2 ?_
      refine Runs.go 60 [] ?_
      refine br.f (by omega) ?_
      refine ⟨by omega, ⟨⟨by omega, show _ < (2820 : Int) by omega⟩, ?_⟩⟩
      refine br.t (show h 87 (705 * u) ≤ h 87 (705 * u) by omega) ?_
      exact r_cut (by omega) (k h (fun _ _ _ => rfl))
    · rw [hl] at k
      obtain ⟨-, fr, -, -, m, m0, ms, mf, lr⟩ := T.2.2.2 s F hs.1 hs.2 hl
      refine hd m m0.1 (by omega) mf ?_
      refine Runs.go 60 [] ?_
      refine br.f (by omega) ?_
      refine ⟨by omega, ⟨⟨by omega, show _ < (2820 : Int) by omega⟩, ?_⟩⟩
      refine br.f (show ¬ h 87 (705 * u) ≤ m by omega) ?_
      refine ⟨by omega, ⟨by omega, ⟨by omega, ⟨by omega, ⟨⟨by omega, show _ < (2820 : Int) by omega⟩, ?_⟩⟩⟩⟩⟩
      refine br.f (fun z => z ms) ?_
      refine lr d h _ (fun _ _ _ => rfl) nm (bOk_a w) (fun h2 e2 => ?_)
      refine r_cut (by omega) (k h2 e2)
def rulO (t : Int) : Option Nat := if t < 0 then none else some (52 + 6 * t.toNat)
abbrev rul (t : Int) : AV := some (.inr (.inr (rulO t)))
theorem c_ruling {d : Nat} {h : Hp} {Q : aPO} {a : aA} {n : Int} (I : CG h 2 a n) (hn : n ≤ 30000) (k : Q (rul (a 2)) h) : Runs (d + 1) 40 0 [vA 1] [] h Q := by
  have w := I.wf hn
  have q1 := w.p1
  have q2 := w.p2
  have e : h 2 5 = a 2 := I.num.2.2.2.2.2.1
  have K : ∀ i : Int, i = a 2 → 0 ≤ a 2 → Runs (d + 1) 40 32 [vA 1] [vI i, vA 51] h Q := by
    intro i ei c2
    have : a 2 = 0 ∨ a 2 = 1 ∨ a 2 = 2 ∨ a 2 = 3 := by omega
    rcases this with z | z | z | z <;> rw [ei, z] <;> rw [z] at k <;> (refine Runs.go 20 [] ?_; exact ⟨by decide, k⟩)
  refine Runs.go 30 [32] ?_
  refine ⟨by decide, ?_⟩
  refine sp_between ?_
  have e2 : b2i (0 ≤ h 2 5 ∧ h 2 5 ≤ 4 - 1) = b2i (0 ≤ a 2) := b2i_c (by omega)
  refine br.i (fun c => ?_) (fun c => ?_)
  · have c1 : b2i (0 ≤ h 2 5 ∧ h 2 5 ≤ 4 - 1) = 0 := c
    rw [e2] at c1
    have z : rulO (a 2) = none := by unfold rulO; rw [if_pos (by have := b2i_z c1; omega)]
    unfold rul at k
    rw [z] at k
    exact k
  · have c1 : ¬ b2i (0 ≤ h 2 5 ∧ h 2 5 ≤ 4 - 1) = 0 := c
    rw [e2] at c1
    have c2 := b2i_nz c1
    exact K _ e c2
section LW
variable {d : Nat} {t : Int} {h : Hp} {Q : aPO} {L : aL} {m : Int}
theorem c_dries (tx : cTx h L m) (ht : -1 ≤ t ∧ t < m) (h4 : m ≤ 4) (nm : nOk (h 49)) (bm : bOk (h 7)) (k : ∀ h1, (∀ o, o ≠ 50 → h1 o = h o) → Q (vI (pSay (pLw L t 0) (if h 49 2 = 1 then 3 else 1) 99 (r9 (h 49)) (r3 (h 7)))) h1) : Runs (d + 4) 61 0 [vA 48, rul t, vA 7] [] h Q := by
  have D : ∀ r, pLw L t 0 = none → r = (if h 49 2 = 1 then (3 : Int) else 1) → Q (vI r) h := by
    intro r e er
    have K := k h (fun _ _ => rfl)
    rw [e] at K
    refine QI K ?_
    rw [er]
    by_cases c : h 49 2 = 1
    · rw [if_pos c]; rfl
    · rw [if_neg c]; rfl
  by_cases t0 : t < 0
  · have el : pLw L t 0 = none := by unfold pLw; rw [if_neg (by omega)]
    have er : rul t = vN := by unfold rul rulO; rw [if_pos t0]
    rw [er]
    refine Runs.go 60 [] ?_
    refine ⟨by decide, ?_⟩
    exact br.i (fun c => D _ el (by rw [if_neg c])) (fun c => D _ el (by rw [if_pos (Decidable.not_not.mp c)]))
  · obtain ⟨u, u4, um, e⟩ := nat4 (t := t) (m := m) (by omega) h4
    subst e
    have T := tx u u4 um
    have er : rul u = vA (52 + 6 * u) := by unfold rul rulO; rw [if_neg (by omega)]; rfl
    have el : pLw L u 0 = L u 0 := by unfold pLw; rw [if_pos (by omega)]
    rw [er]
    rw [el] at D k
    rcases hl : L u 0 with _ | F
    · have z := (T.2.2.1 0 (by decide) (by decide) hl).1
      have : u = 0 ∨ u = 1 ∨ u = 2 ∨ u = 3 := by omega
      rcases this with y | y | y | y <;> subst y <;> (refine Runs.go 60 [] ?_; refine ⟨by decide, ?_⟩; refine br.f (fun y => y z) ?_; refine ⟨by decide, ?_⟩; exact br.i (fun c => D _ hl (by rw [if_neg c])) (fun c => D _ hl (by rw [if_pos (Decidable.not_not.mp c)])))
    · rw [hl] at k
      obtain ⟨z, fr, -, lc, -⟩ := T.2.2.2 0 F (by decide) (by decide) hl
      have : u = 0 ∨ u = 1 ∨ u = 2 ∨ u = 3 := by omega
      rcases this with y | y | y | y <;> subst y <;> (refine Runs.go 60 [] ?_; refine ⟨by decide, ?_⟩; refine br.t z ?_; refine lc d h _ (fun _ _ _ => rfl) nm bm (fun h2 e2 => ?_); exact c_clamp (by decide) (k h2 e2))
theorem c_errs (tx : cTx h L m) (ht : -1 ≤ t ∧ t < m) (h4 : m ≤ 4) (nm : nOk (h 49)) (bm : bOk (h 7)) (k : ∀ h1, (∀ o, o ≠ 50 → h1 o = h o) → Q (vI (pSay (pLw L t 1) 1 10 (r9 (h 49)) (r3 (h 7)))) h1) : Runs (d + 4) 62 0 [vA 48, rul t, vA 7] [] h Q := by
  have D : pLw L t 1 = none → Q (vI 1) h := by
    intro e
    have K := k h (fun _ _ => rfl)
    rw [e] at K
    exact K
  by_cases t0 : t < 0
  · have el : pLw L t 1 = none := by unfold pLw; rw [if_neg (by omega)]
    have er : rul t = vN := by unfold rul rulO; rw [if_pos t0]
    rw [er]
    refine Runs.go 60 [] ?_
    exact D el
  · obtain ⟨u, u4, um, e⟩ := nat4 (t := t) (m := m) (by omega) h4
    subst e
    have T := tx u u4 um
    have er : rul u = vA (52 + 6 * u) := by unfold rul rulO; rw [if_neg (by omega)]; rfl
    have el : pLw L u 1 = L u 1 := by unfold pLw; rw [if_pos (by omega)]
    rw [er]
    rw [el] at D k
    rcases hl : L u 1 with _ | F
    · have z := (T.2.2.1 1 (by decide) (by decide) hl).1
      have : u = 0 ∨ u = 1 ∨ u = 2 ∨ u = 3 := by omega
      rcases this with y | y | y | y <;> subst y <;> (refine Runs.go 60 [] ?_; refine ⟨by decide, ?_⟩; refine br.f (fun y => y z) ?_; exact D hl)
    · rw [hl] at k
      obtain ⟨z, fr, -, lc, -⟩ := T.2.2.2 1 F (by decide) (by decide) hl
      have : u = 0 ∨ u = 1 ∨ u = 2 ∨ u = 3 := by omega
      rcases this with y | y | y | y <;> subst y <;> (refine Runs.go 60 [] ?_; refine ⟨by decide, ?_⟩; refine br.t z ?_; refine lc d h _ (fun _ _ _ => rfl) nm bm (fun h2 e2 => ?_); exact c_clamp (by decide) (k h2 e2))
theorem c_brims {n : Int} (hn : 0 ≤ n ∧ n < 3) (k : Q (vI (h 7 n)) h) : Runs d 67 0 [vI 24, vI n, vA 7] [] h Q := by
  refine Runs.go 60 [] ?_
  refine br.t rfl ?_
  refine br.f (by omega) ?_
  refine br.f (show ¬ (3 : Int) ≤ n by omega) ?_
  exact ⟨hn, k⟩
theorem c_fine (tx : cTx h L m) (ht : -1 ≤ t ∧ t < m) (h4 : m ≤ 4) (nm : nOk (h 49)) (bm : bOk (h 7)) (hk : h 49 5 < 3) (hr : h 49 4 ≤ 200) (k : ∀ h1, (∀ o, o ≠ 50 → h1 o = h o) → Q (vI (pSay (pLw L t 2) (h 49 6 - h 7 (h 49 5) * h 49 4) 9999 (r9 (h 49)) (r3 (h 7)))) h1) : Runs (d + 4) 63 0 [vA 48, rul t, vA 7] [] h Q := by
  have n4 := nm 4 (by decide) (by decide)
  have n5 := nm 5 (by decide) (by decide)
  have n6 := nm 6 (by decide) (by decide)
  have b := bm (h 49 5) n5.1 hk
  have hm : 0 ≤ h 7 (h 49 5) * h 49 4 ∧ h 7 (h 49 5) * h 49 4 ≤ 9 * 200 := ⟨Int.mul_nonneg b.1 n4.1, Int.mul_le_mul b.2 hr n4.1 (by omega)⟩
  have D : pLw L t 2 = none → Q (vI (max 0 (h 49 6 - h 7 (h 49 5) * h 49 4))) h := by
    intro e
    have K := k h (fun _ _ => rfl)
    rw [e] at K
    refine QI K ?_
    show _ = if (h 49 6 - h 7 (h 49 5) * h 49 4) < 0 then 0 else if 9999 < (h 49 6 - h 7 (h 49 5) * h 49 4) then 9999 else (h 49 6 - h 7 (h 49 5) * h 49 4)
    split
    · omega
    · split <;> omega
  have B : pLw L t 2 = none → ∀ tv : AV, Runs (d + 4) 63 14 [vA 48, tv, vA 7] [] h Q := by
    intro e tv
    refine Runs.go 60 [] ?_
    refine ⟨by decide, ⟨by decide, ?_⟩⟩
    refine c_brims ⟨n5.1, hk⟩ ?_
    refine ⟨by decide, ?_⟩
    refine ⟨show -2147483648 ≤ h 7 (h 49 5) * h 49 4 ∧ h 7 (h 49 5) * h 49 4 < 2147483648 by omega, ?_⟩
    refine ⟨show -2147483648 ≤ h 49 6 - h 7 (h 49 5) * h 49 4 ∧ h 49 6 - h 7 (h 49 5) * h 49 4 < 2147483648 by omega, ?_⟩
    exact D e
  by_cases t0 : t < 0
  · have el : pLw L t 2 = none := by unfold pLw; rw [if_neg (by omega)]
    have er : rul t = vN := by unfold rul rulO; rw [if_pos t0]
    rw [er]
    refine Runs.go 30 [14] ?_
    exact B el _
  · obtain ⟨u, u4, um, e⟩ := nat4 (t := t) (m := m) (by omega) h4
    subst e
    have T := tx u u4 um
    have er : rul u = vA (52 + 6 * u) := by unfold rul rulO; rw [if_neg (by omega)]; rfl
    have el : pLw L u 2 = L u 2 := by unfold pLw; rw [if_pos (by omega)]
    rw [er]
    rw [el] at B k
    rcases hl : L u 2 with _ | F
    · have z := (T.2.2.1 2 (by decide) (by decide) hl).1
      have : u = 0 ∨ u = 1 ∨ u = 2 ∨ u = 3 := by omega
      rcases this with y | y | y | y <;> subst y <;> (refine Runs.go 30 [14] ?_; refine ⟨by decide, ?_⟩; refine br.f (fun y => y z) ?_; exact B hl _)
    · rw [hl] at k
      obtain ⟨z, fr, -, lc, -⟩ := T.2.2.2 2 F (by decide) (by decide) hl
      have : u = 0 ∨ u = 1 ∨ u = 2 ∨ u = 3 := by omega
      rcases this with y | y | y | y <;> subst y <;> (refine Runs.go 60 [] ?_; refine ⟨by decide, ?_⟩; refine br.t z ?_; refine lc d h _ (fun _ _ _ => rfl) nm bm (fun h2 e2 => ?_); exact c_clamp (by decide) (k h2 e2))
end LW
/-- by the law that rules now -/
theorem pNm_2 {f : Int → Int} {a : aA} {p k : Int} (e : r9 f = pNm a p k) : f 2 = a (12 + 9 * p + 6) ∧ f 4 = pRoom a p ∧ f 5 = k ∧ f 6 = a (12 + 9 * p + (2 + k)) := by
  have g : ∀ i, 0 ≤ i → i < 9 → f i = pNm a p k i := by
    intro i i0 i9
    have := congrFun e i
    unfold r9 at this
    rw [if_pos ⟨i0, i9⟩] at this
    exact this
  exact ⟨g 2 (by decide) (by decide), g 4 (by decide) (by decide), g 5 (by decide) (by decide), g 6 (by decide) (by decide)⟩
section NOW
variable {d : Nat} {p kd : Int} {h : Hp} {Q : aPO} {L : aL}
theorem c_now {a : aA} {n : Int} (I : CG h 2 a n) (hn : n ≤ 30000) (tx : cTx h L (a 1)) (hp : 0 ≤ p ∧ p < 6) (hk : 0 ≤ kd ∧ kd < 4) :
    ((∀ h1, (∀ o, o ≠ 49 → o ≠ 50 → h1 o = h o) → Q (vI (pDries L (a 2) a p kd)) h1) → Runs (d + 5) 41 0 [vA 1, vI p, vI kd] [] h Q) ∧
    ((∀ h1, (∀ o, o ≠ 49 → o ≠ 50 → h1 o = h o) → Q (vI (pErrs L a p kd)) h1) → Runs (d + 5) 42 0 [vA 1, vI p, vI kd] [] h Q) ∧
    ((∀ h1, (∀ o, o ≠ 49 → o ≠ 50 → h1 o = h o) → kd < 3 → Q (vI (pFine L a p kd)) h1) → kd < 3 → Runs (d + 5) 43 0 [vA 1, vI p, vI kd] [] h Q) := by
  have w := I.wf hn
  have q2 := w.p2
  have q1 := w.p1
  have rm := w.room hp
  have C : ∀ h1 : Hp, (∀ o, o ≠ 49 → h1 o = h o) → CG h1 2 a n ∧ cTx h1 L (a 1) := fun h1 e => ⟨I.fr (fun o _ _ => e o (by omega)), tx.fr (fun o _ _ => e o (by omega)) (e 87 (by omega))⟩
  refine ⟨fun k => ?_, fun k => ?_, fun k k3 => ?_⟩
  · refine Runs.go 60 [] ?_
    refine c_look I hp hk (fun h1 e1 en => ?_)
    obtain ⟨I1, t1⟩ := C h1 e1
    refine c_ruling I1 hn ?_
    refine c_dries (t := a 2) t1 q2 q1.2 (nOk_9 en (pNm_ok w hp hk)) (bOk_h I1) (fun h2 e2 => ?_)
    have K := k h2 (fun o x y => (e2 o y).trans (e1 o x))
    unfold pDries at K
    rw [en, r3_h I1, (pNm_2 en).1]
    exact K
  · refine Runs.go 60 [] ?_
    refine c_look I hp hk (fun h1 e1 en => ?_)
    obtain ⟨I1, t1⟩ := C h1 e1
    refine c_ruling I1 hn ?_
    refine c_errs (t := a 2) t1 q2 q1.2 (nOk_9 en (pNm_ok w hp hk)) (bOk_h I1) (fun h2 e2 => ?_)
    have K := k h2 (fun o x y => (e2 o y).trans (e1 o x))
    unfold pErrs at K
    rw [en, r3_h I1]
    exact K
  · refine Runs.go 60 [] ?_
    refine c_look I hp hk (fun h1 e1 en => ?_)
    obtain ⟨I1, t1⟩ := C h1 e1
    obtain ⟨z2, z4, z5, z6⟩ := pNm_2 en
    refine c_ruling I1 hn ?_
    refine c_fine (t := a 2) t1 q2 q1.2 (nOk_9 en (pNm_ok w hp hk)) (bOk_h I1) (by omega) (by omega) (fun h2 e2 => ?_)
    have K := k h2 (fun o x y => (e2 o y).trans (e1 o x)) k3
    unfold pFine pExc at K
    rw [en, r3_h I1, z4, z5, z6, (I1.brim kd hk.1 k3).1]
    exact K
theorem r_now (w : Wf (h 85)) (tx : cTx h L (h 85 1)) (hp : 0 ≤ p ∧ p < 6) (hk : 0 ≤ kd ∧ kd < 4) :
    (∀ t : Int, (-1 ≤ t ∧ t < h 85 1) → (∀ h1, (∀ o, o < 90 → h1 o = h o) → Q (vI (pDries L t (h 85) p kd)) h1) → Runs (d + 5) 233 0 [vA 84, vI t, vI p, vI kd] [] h Q) ∧
    ((∀ h1, (∀ o, o < 90 → h1 o = h o) → Q (vI (pErrs L (h 85) p kd)) h1) → Runs (d + 5) 234 0 [vA 84, vI p, vI kd] [] h Q) ∧
    ((∀ h1, (∀ o, o < 90 → h1 o = h o) → kd < 3 → Q (vI (pFine L (h 85) p kd)) h1) → kd < 3 → Runs (d + 5) 235 0 [vA 84, vI p, vI kd] [] h Q) := by
  have q2 := w.p2
  have rm := w.room hp
  refine ⟨fun t ht k => ?_, fun k => ?_, fun k k3 => ?_⟩
  · refine Runs.go 60 [24] ?_
    refine r_name w hp hk (fun h1 e1 en => ?_)
    have e5 := e1 85 (by decide)
    have t1 : cTx h1 L (h1 85 1) := by rw [e5]; exact tx.fr (fun o _ _ => e1 o (by omega)) (e1 87 (by omega))
    have w1 : Wf (h1 85) := by rw [e5]; exact w
    have ok1 := nOk_9 en (pNm_ok w hp hk)
    have K : ∀ wo, wo = (if h1 90 2 = 1 then (3 : Int) else 1) → Runs (d + 5) 233 24 [vA 84, vI t, vI p, vI kd] [vI wo, vI 0, vI t, vA 84] h1 Q := by
      intro wo ew
      refine Runs.go 20 [] ?_
      refine r_says w1 t1 (by rw [e5]; exact ht) (by decide) ok1 (by decide) (by rw [ew]; split <;> decide) (fun h2 e2 => ?_)
      have K := k h2 (fun o x => (e2 o (by omega) (by omega)).trans (e1 o (by omega)))
      unfold pDries at K
      rw [en, e5, ew, (pNm_2 en).1]
      exact K
    refine ⟨by decide, ?_⟩
    exact br.i (fun c => K 1 (by rw [if_neg c])) (fun c => K 3 (by rw [if_pos (Decidable.not_not.mp c)]))
  · refine Runs.go 60 [] ?_
    refine r_name w hp hk (fun h1 e1 en => ?_)
    have e5 := e1 85 (by decide)
    have t1 : cTx h1 L (h1 85 1) := by rw [e5]; exact tx.fr (fun o _ _ => e1 o (by omega)) (e1 87 (by omega))
    have w1 : Wf (h1 85) := by rw [e5]; exact w
    refine ⟨by decide, ?_⟩
    refine r_says (t := h1 85 2) w1 t1 (by rw [e5]; exact q2) (by decide) (nOk_9 en (pNm_ok w hp hk)) (by decide) (by decide) (fun h2 e2 => ?_)
    have K := k h2 (fun o x => (e2 o (by omega) (by omega)).trans (e1 o (by omega)))
    unfold pErrs at K
    rw [en, e5]
    exact K
  · refine Runs.go 60 [25] ?_
    refine r_name w hp hk (fun h1 e1 en => ?_)
    have e5 := e1 85 (by decide)
    have t1 : cTx h1 L (h1 85 1) := by rw [e5]; exact tx.fr (fun o _ _ => e1 o (by omega)) (e1 87 (by omega))
    have w1 : Wf (h1 85) := by rw [e5]; exact w
    have ex := w.exc hp (k := kd) (by omega) (room := pRoom (h 85) p) (by omega)
    refine ⟨by decide, ?_⟩
    refine r_roomOf w1 hp ?_
    rw [e5]
    refine r_excess w1 hp (by omega) (by omega) ?_
    rw [e5]
    have K : ∀ t, t = h 85 2 → Runs (d + 5) 235 25 [vA 84, vI p, vI kd] [vI (pExc (h 85) p kd (pRoom (h 85) p)), vI 2, vI t, vA 84] h1 Q := by
      intro t et
      refine Runs.go 20 [] ?_
      refine r_says w1 t1 (by rw [e5, et]; exact q2) (by decide) (nOk_9 en (pNm_ok w hp hk)) (by decide) (by omega) (fun h2 e2 => ?_)
      have K := k h2 (fun o x => (e2 o (by omega) (by omega)).trans (e1 o (by omega))) k3
      unfold pFine at K
      rw [en, e5, et]
      exact K
    refine K _ ?_
    rw [← e5]
end NOW
