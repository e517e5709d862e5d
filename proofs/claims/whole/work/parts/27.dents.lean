/-! CALLS: cases, more dents -/
/-- otherwise over by the standard s: 0 or 1 -/
def csE (a : aA) (s p k : Int) : Int := if b2i (0 < pExc a p k (pRoom a p)) = b2i (0 < pExc a p k (max 1 (s - a (12 + 9 * p + 0)))) then 0 else 1
def csI (a : aA) (s p m : Int) (i : Int) : Int := fI (fun y k => y + csE a s p k) m i
theorem csI_s {a : aA} {s p m i : Int} (h : 0 ≤ i) : csI a s p m (i + 1) = csI a s p m i + csE a s p i := fI_s (st := fun y k => y + csE a s p k) h
theorem csI_r {a : aA} {s p m : Int} : ∀ i, 0 ≤ i → i ≤ 3 → m ≤ csI a s p m i ∧ csI a s p m i ≤ m + i := by
  refine fI_i (st := fun y k => y + csE a s p k) (n := 3) (fun i y => m ≤ y ∧ y ≤ m + i) (by omega) (fun i y i0 i6 z => ?_)
  show m ≤ y + csE a s p i ∧ y + csE a s p i ≤ m + (i + 1)
  have : csE a s p i = 0 ∨ csE a s p i = 1 := by unfold csE; split <;> omega
  omega
def pCs (a : aA) (s : Int) (i : Int) : Int := fI (fun y p => csI a s p y 3) 0 i
theorem pCs_s {a : aA} {s i : Int} (h : 0 ≤ i) : pCs a s (i + 1) = csI a s i (pCs a s i) 3 := fI_s (st := fun y p => csI a s p y 3) h
theorem pCs_r {a : aA} {s : Int} : ∀ i, 0 ≤ i → i ≤ 6 → 0 ≤ pCs a s i ∧ pCs a s i ≤ 3 * i := by
  refine fI_i (st := fun y p => csI a s p y 3) (n := 6) (fun i y => 0 ≤ y ∧ y ≤ 3 * i) (by omega) (fun i y i0 i6 z => ?_)
  show 0 ≤ csI a s i y 3 ∧ csI a s i y 3 ≤ 3 * (i + 1)
  have := csI_r (a := a) (s := s) (p := i) (m := y) 3 (by decide) (by decide)
  omega
theorem c_cases {d : Nat} {s : Int} {h : Hp} {Q : aPO} {a : aA} {n : Int} (I : CG h 2 a n) (hn : n ≤ 30000) (hs : 1 ≤ s ∧ s ≤ 99) (k : Q (vI (pCs a s (a 0))) h) : Runs (d + 2) 32 0 [vA 2, vI s, none, none, none, none, none] [] h Q := by
  have q0 : h 2 0 = a 0 ∧ 0 ≤ a 0 ∧ a 0 ≤ 6 := I.num.1
  have w := I.wf hn
  refine Runs.go 20 [4] ?_
  refine downI (R := fun i => ∀ u v x, Runs (d + 2) 32 4 [vA 2, vI s, vI (pCs a s i), vI i, u, v, x] [] h Q) (x := 0) (n := a 0) q0.2.1 ?_ (fun i i0 i3 r => ?_) _ _ _
  · intro u v x
    refine Runs.go 10 [] ?_
    exact br.t (show h 2 0 ≤ a 0 by omega) k
  · intro u v x
    have p6 : 0 ≤ i ∧ i < 6 := by omega
    have z0 := pCs_r (a := a) (s := s) i i0 (by omega)
    have z1 := w.room p6
    have z2 := w.dent p6
    have e4 : h 4 i = a (12 + 9 * i + 0) := (I.per i p6.1 p6.2).2.1.1
    refine Runs.go 20 [34] ?_
    refine br.f (show ¬ h 2 0 ≤ i by omega) ?_
    refine c_room I p6 ?_
    refine ⟨⟨by omega, show i < (6 : Int) by omega⟩, ?_⟩
    refine sp_roomBy (t := h 4 i) (by omega) (by omega) ?_
    refine downI (R := fun j => Runs (d + 2) 32 34 [vA 2, vI s, vI (csI a s i (pCs a s i) j), vI i, vI (pRoom a i), vI (max 1 (s - h 4 i)), vI j] [] h Q) (x := 0) (n := 3) (by decide) ?_ (fun j j0 j3 r2 => ?_)
    · refine Runs.go 20 [4] ?_
      refine br.t (by omega) ?_
      have r1 := r (vI (pRoom a i)) (vI (max 1 (s - h 4 i))) (vI 3)
      rw [pCs_s i0] at r1
      exact ⟨by omega, r1⟩
    · have z3 := csI_r (a := a) (s := s) (p := i) (m := pCs a s i) j j0 (by omega)
      rw [csI_s j0] at r2
      refine Runs.go 40 [34] ?_
      refine br.f (by omega) ?_
      refine c_above I p6 ⟨j0, j3⟩ (room := pRoom a i) (by omega) ?_
      have E : csE a s i j = if b2i (0 < pExc a i j (pRoom a i)) = b2i (0 < pExc a i j (max 1 (s - h 4 i))) then 0 else 1 := by rw [e4]; rfl
      refine br.i (fun c1 => ?_) (fun c1 => ?_)
      · rw [b2i_f (show ¬ 0 < pExc a i j (pRoom a i) by omega)] at E
        refine c_above I p6 ⟨j0, j3⟩ (room := max 1 (s - h 4 i)) (by omega) ?_
        refine br.i (fun c2 => br.t rfl ⟨by omega, ?_⟩) (fun c2 => br.f (by decide) ⟨by omega, ⟨by omega, ?_⟩⟩)
        · rw [b2i_f (show ¬ 0 < pExc a i j (max 1 (s - h 4 i)) by omega)] at E
          rw [E, if_pos rfl, Int.add_zero] at r2
          exact r2
        · rw [b2i_t (show 0 < pExc a i j (max 1 (s - h 4 i)) by omega)] at E
          rw [E, if_neg (by decide)] at r2
          exact r2
      · rw [b2i_t (show 0 < pExc a i j (pRoom a i) by omega)] at E
        refine c_above I p6 ⟨j0, j3⟩ (room := max 1 (s - h 4 i)) (by omega) ?_
        refine br.i (fun c2 => br.f (by decide) ⟨by omega, ⟨by omega, ?_⟩⟩) (fun c2 => br.t rfl ⟨by omega, ?_⟩)
        · rw [b2i_f (show ¬ 0 < pExc a i j (max 1 (s - h 4 i)) by omega)] at E
          rw [E, if_neg (by decide)] at r2
          exact r2
        · rw [b2i_t (show 0 < pExc a i j (max 1 (s - h 4 i)) by omega)] at E
          rw [E, if_pos rfl, Int.add_zero] at r2
          exact r2
theorem o_cases : op_cases Inv := by
  intro x hx
  refine opR (fun a _ => if 1 ≤ x 1 ∧ x 1 ≤ 99 then pCs a (x 1) (a 0) else -1) (fun h L n Q I hn t k => ?_) (fun h L Q w t k => ?_)
  · refine Runs.go 20 [] ?_
    refine sp_between ?_
    refine br.i (fun c => QI (k _ Same.rf) (by rw [if_neg (b2i_z c)])) (fun c => ?_)
    have c1 := b2i_nz c
    rw [if_pos c1] at k
    exact c_cases I hn c1 (k _ Same.rf)
  · have q0 := w.p0
    refine Runs.go 20 [16] ?_
    refine r_isIn ?_
    refine br.j (fun c => QI (k _ Same.rf) (by rw [if_neg (b2i_z (by omega))])) (fun c => ?_)
    have c1 := b2i_nz c
    rw [if_pos c1] at k
    refine downI (R := fun i => ∀ u, Runs 150 271 16 [vA 84, vI (x 1), vI (pCs (h 85) (x 1) i), vI i, u] [] h Q) (x := 0) (n := h 85 0) q0.1 ?_ (fun i i0 i3 r => ?_) _
    · intro u
      refine Runs.go 10 [] ?_
      exact ⟨by decide, br.t (show h 85 0 ≤ h 85 0 by omega) (k _ Same.rf)⟩
    · intro u
      have p6 : 0 ≤ i ∧ i < 6 := by omega
      have z0 := pCs_r (a := h 85) (s := x 1) i i0 (by omega)
      have z1 := w.room p6
      have z2 := w.dent p6
      refine Runs.go 20 [29] ?_
      refine ⟨by decide, br.f (show ¬ h 85 0 ≤ i by omega) ?_⟩
      refine downI (R := fun j => Runs 150 271 29 [vA 84, vI (x 1), vI (csI (h 85) (x 1) i (pCs (h 85) (x 1) i) j), vI i, vI j] [] h Q) (x := 0) (n := 3) (by decide) ?_ (fun j j0 j3 r2 => ?_)
      · refine Runs.go 20 [16] ?_
        refine br.t (by omega) ?_
        have r1 := r (vI 3)
        rw [pCs_s i0] at r1
        exact ⟨by omega, r1⟩
      · have z3 := csI_r (a := h 85) (s := x 1) (p := i) (m := pCs (h 85) (x 1) i) j j0 (by omega)
        rw [csI_s j0] at r2
        refine Runs.go 40 [29] ?_
        refine br.f (by omega) ?_
        refine r_isOver w p6 ⟨j0, j3⟩ ?_
        refine r_get p6 (by omega) ?_
        refine r_roomBy (t := h 85 (12 + 9 * i + 0)) (by omega) (by omega) ?_
        refine r_excess w p6 ⟨j0, j3⟩ (room := max 1 (x 1 - h 85 (12 + 9 * i + 0))) (by omega) ?_
        have E : csE (h 85) (x 1) i j = if b2i (0 < pExc (h 85) i j (pRoom (h 85) i)) = b2i (0 < pExc (h 85) i j (max 1 (x 1 - h 85 (12 + 9 * i + 0)))) then 0 else 1 := rfl
        refine br.i (fun c1 => ?_) (fun c1 => ?_)
        · rw [b2i_f (show ¬ 0 < pExc (h 85) i j (max 1 (x 1 - h 85 (12 + 9 * i + 0))) by omega)] at E
          refine br.i (fun c2 => ⟨by omega, ⟨by omega, ?_⟩⟩) (fun c2 => ⟨by omega, ⟨by omega, ?_⟩⟩)
          · rw [E, if_pos c2] at r2
            exact r2
          · rw [E, if_neg c2] at r2
            exact r2
        · rw [b2i_t (show 0 < pExc (h 85) i j (max 1 (x 1 - h 85 (12 + 9 * i + 0))) by omega)] at E
          refine br.i (fun c2 => ⟨by omega, ⟨by omega, ?_⟩⟩) (fun c2 => ⟨by omega, ⟨by omega, ?_⟩⟩)
          · rw [E, if_pos c2] at r2
            exact r2
          · rw [E, if_neg c2] at r2
            exact r2
/-- over in nothing, with the dent t -/
def okD (a : aA) (p t : Int) : Prop := (pExc a p 0 (max 1 (a 9 - t)) ≤ 0 ∧ pExc a p 1 (max 1 (a 9 - t)) ≤ 0) ∧ pExc a p 2 (max 1 (a 9 - t)) ≤ 0
def okB (a : aA) (p t : Int) : Bool := decide ((pExc a p 0 (max 1 (a 9 - t)) ≤ 0 ∧ pExc a p 1 (max 1 (a 9 - t)) ≤ 0) ∧ pExc a p 2 (max 1 (a 9 - t)) ≤ 0)
/-- how many dents from t on are so, one behind the other -/
def cntO (a : aA) (p : Int) : Nat → Int → Int
  | 0, _ => 0
  | f + 1, t => bif okB a p t then 1 + cntO a p f (t + 1) else 0
theorem okB_t {a : aA} {p t : Int} (h : okD a p t) : okB a p t = true := decide_eq_true h
theorem okB_f {a : aA} {p t : Int} (h : ¬ okD a p t) : okB a p t = false := decide_eq_false h
theorem cnt_t {a : aA} {p t : Int} {f : Nat} (h : okD a p t) : cntO a p (f + 1) t = 1 + cntO a p f (t + 1) := by
  show (bif okB a p t then 1 + cntO a p f (t + 1) else 0) = _
  rw [okB_t h]; rfl
theorem cnt_f {a : aA} {p t : Int} {f : Nat} (h : ¬ okD a p t) : cntO a p (f + 1) t = 0 := by
  show (bif okB a p t then 1 + cntO a p f (t + 1) else 0) = _
  rw [okB_f h]; rfl
theorem okD_a {a : aA} {p t : Int} : okD a p t ↔ ∀ k, 0 ≤ k → k < 3 → pExc a p k (max 1 (a 9 - t)) ≤ 0 := by
  refine ⟨fun z k k0 k3 => ?_, fun z => ⟨⟨z 0 (by decide) (by decide), z 1 (by decide) (by decide)⟩, z 2 (by decide) (by decide)⟩⟩
  have : k = 0 ∨ k = 1 ∨ k = 2 := by omega
  rcases this with y | y | y <;> subst y
  · exact z.1.1
  · exact z.1.2
  · exact z.2
theorem c_dents {d : Nat} {p : Int} {h : Hp} {Q : aPO} {a : aA} {n : Int} (I : CG h 2 a n) (hn : n ≤ 30000) (h1 : 0 ≤ p ∧ p < 6) (k : Q (vI (-1 + cntO a p (10 - a (12 + 9 * p + 0)).toNat (a (12 + 9 * p + 0)))) h) : Runs (d + 2) 38 0 [vA 2, vI p, none, none, none, none] [] h Q := by
  have w := I.wf hn
  have z2 := w.dent h1
  have z3 := w.p9
  have e4 : h 4 p = a (12 + 9 * p + 0) := (I.per p h1.1 h1.2).2.1.1
  have e9 : h 2 1 = a 9 := I.num.2.1.1
  have M : ∀ (f : Nat) (t m : Int) (u v : AV), 0 ≤ t → t + f = 10 → -1 ≤ m → m ≤ t → Q (vI (m + cntO a p f t)) h → Runs (d + 2) 38 9 [vA 2, vI p, vI m, vI t, u, v] [] h Q := by
    intro f
    induction f with
    | zero =>
      intro t m u v t0 tf m1 m2 k
      refine Runs.go 20 [] ?_
      refine br.t (by omega) ?_
      exact QI k (by unfold cntO; omega)
    | succ f ih =>
      intro t m u v t0 tf m1 m2 k
      refine Runs.go 60 [28] ?_
      refine br.f (by omega) ?_
      refine sp_roomBy (s := h 2 1) (by omega) (by omega) ?_
      have er : max 1 (h 2 1 - t) = max 1 (a 9 - t) := by rw [e9]
      rw [er]
      refine downI (R := fun j => (∀ k, 0 ≤ k → k < j → pExc a p k (max 1 (a 9 - t)) ≤ 0) → Runs (d + 2) 38 28 [vA 2, vI p, vI m, vI t, vI (max 1 (a 9 - t)), vI j] [] h Q) (x := 0) (n := 3) (by decide) ?_ (fun j j0 j3 r => ?_) (fun k _ _ => by omega)
      · intro y
        rw [cnt_t (okD_a.mpr y)] at k
        refine Runs.go 20 [9] ?_
        refine br.t (by omega) ?_
        refine ⟨by omega, ⟨by omega, ?_⟩⟩
        exact ih (t + 1) (m + 1) _ _ (by omega) (by omega) (by omega) (by omega) (QI k (by omega))
      · intro y
        refine Runs.go 20 [28] ?_
        refine br.f (by omega) ?_
        refine c_above I h1 ⟨j0, j3⟩ (room := max 1 (a 9 - t)) (by omega) ?_
        refine br.i (fun c => ⟨by omega, r (fun k k0 k1 => ?_)⟩) (fun c => ?_)
        · by_cases e : k = j
          · rw [e]; exact c
          · exact y k k0 (by omega)
        · rw [cnt_f (fun z => c (okD_a.mp z j j0 j3))] at k
          exact QI k (by omega)
  refine Runs.go 20 [9] ?_
  refine ⟨⟨by omega, show p < (6 : Int) by omega⟩, ?_⟩
  refine M (10 - a (12 + 9 * p + 0)).toNat (h 4 p) (-1) _ _ (by omega) (by omega) (by omega) (by omega) ?_
  rw [e4]
  exact k
theorem bS3 {f : Int → Prop} [DecidablePred f] : bS f 3 = 0 ↔ (¬ f 0 ∧ ¬ f 1) ∧ ¬ f 2 := by
  obtain ⟨v0, v1, v2, -⟩ := pw_v
  have e1 : bS f 1 = if f 0 then 0 + pw 0 else 0 := bS_s (f := f) (i := 0) (by decide)
  have e2 : bS f 2 = if f 1 then bS f 1 + pw 1 else bS f 1 := bS_s (f := f) (i := 1) (by decide)
  have e3 : bS f 3 = if f 2 then bS f 2 + pw 2 else bS f 2 := bS_s (f := f) (i := 2) (by decide)
  rw [v0] at e1
  rw [v1] at e2
  rw [v2] at e3
  rw [e3, e2, e1]
  by_cases x : f 0 <;> by_cases y : f 1 <;> by_cases z : f 2 <;> simp [x, y, z]
def pMD (a : aA) (p : Int) : Int := -1 + cntO a p (10 - a (12 + 9 * p + 0)).toNat (a (12 + 9 * p + 0))
theorem o_moreDents : op_moreDents Inv := by
  intro x hx
  refine opR (fun a _ => if 0 ≤ x 1 ∧ x 1 < a 0 then pMD a (x 1) else -1) (fun h L n Q I hn t k => ?_) (fun h L Q w t k => ?_)
  · have q0 := I.num.1.2
    refine Runs.go 20 [] ?_
    refine c_has I ?_
    refine br.i (fun c => QI (k _ Same.rf) (by rw [if_neg (b2i_z c)])) (fun c => ?_)
    have c1 := b2i_nz c
    rw [if_pos c1] at k
    exact c_dents I hn (by omega) (k _ Same.rf)
  · have q0 := w.p0
    refine Runs.go 20 [22] ?_
    refine r_isOne w ?_
    refine br.i (fun c => QI (k _ Same.rf) (by rw [if_neg (b2i_z c)])) (fun c => ?_)
    have c1 := b2i_nz c
    rw [if_pos c1] at k
    have p6 : 0 ≤ x 1 ∧ x 1 < 6 := by omega
    have z2 := w.dent p6
    have z3 := w.p9
    have ef : (10 - h 85 (12 + 9 * x 1 + 0)).toNat = (9 - h 85 (12 + 9 * x 1 + 0)).toNat + 1 := by omega
    have ov : pOv (h 85) (x 1) 3 = 0 ↔ okD (h 85) (x 1) (h 85 (12 + 9 * x 1 + 0)) := by
      unfold pOv okD
      rw [bS3]
      show ((¬ 0 < pExc (h 85) (x 1) 0 (max 1 (h 85 9 - h 85 (12 + 9 * x 1 + 0))) ∧ ¬ 0 < pExc (h 85) (x 1) 1 (max 1 (h 85 9 - h 85 (12 + 9 * x 1 + 0)))) ∧ ¬ 0 < pExc (h 85) (x 1) 2 (max 1 (h 85 9 - h 85 (12 + 9 * x 1 + 0)))) ↔ _
      omega
    refine r_overs w p6 ?_
    have K := k h Same.rf
    unfold pMD at K
    refine br.j (fun c => ?_) (fun c => ?_)
    · rw [ef, cnt_f (fun z => c (ov.mpr z))] at K
      exact QI K (by omega)
    rw [ef, cnt_t (ov.mp c)] at K
    have M : ∀ (f : Nat) (m : Int) (u v : AV), 1 ≤ m → h 85 (12 + 9 * x 1 + 0) + m + f = 10 → Q (vI (m - 1 + cntO (h 85) (x 1) f (h 85 (12 + 9 * x 1 + 0) + m))) h → Runs 150 270 22 [vA 84, vI (x 1), vI (m - 1), vI m, u, v] [] h Q := by
      intro f
      induction f with
      | zero =>
        intro m u v m1 mf k
        refine Runs.go 20 [] ?_
        refine r_get p6 (by omega) ?_
        refine ⟨by omega, br.t (by omega) ?_⟩
        exact QI k (by unfold cntO; omega)
      | succ f ih =>
        intro m u v m1 mf k
        refine Runs.go 20 [41] ?_
        refine r_get p6 (by omega) ?_
        refine ⟨by omega, br.f (by omega) ?_⟩
        refine downI (R := fun j => ∀ y : Int, (y = 0 ∨ y = 1) → (y = 1 ↔ ∀ k, 0 ≤ k → k < j → pExc (h 85) (x 1) k (max 1 (h 85 9 - (h 85 (12 + 9 * x 1 + 0) + m))) ≤ 0) → Runs 150 270 41 [vA 84, vI (x 1), vI (m - 1), vI m, vI y, vI j] [] h Q) (x := 0) (n := 3) (by decide) ?_ (fun j j0 j3 r => ?_) 1 (by omega) ⟨fun _ k _ _ => by omega, fun _ => rfl⟩
        · intro y y01 yo
          rw [← okD_a] at yo
          refine Runs.go 20 [22] ?_
          refine br.t (by omega) ?_
          refine br.j (fun c => ?_) (fun c => ?_)
          · rw [cnt_f (fun z => c (by rw [yo.mpr z]; decide))] at k
            exact QI k (by omega)
          · rw [cnt_t (yo.mp (by omega))] at k
            refine ⟨by omega, ?_⟩
            have r := ih (m + 1) (vI y) (vI 3) (by omega) (by omega) (QI k (by rw [show h 85 (12 + 9 * x 1 + 0) + (m + 1) = h 85 (12 + 9 * x 1 + 0) + m + 1 by omega]; omega))
            rw [show m + 1 - 1 = m by omega] at r
            exact r
        · intro y y01 yo
          refine Runs.go 40 [41] ?_
          refine br.f (by omega) ?_
          have G : ∀ y2 : Int, (y2 = 0 ∨ y2 = 1) → (y2 = 1 ↔ (y = 1 ∧ pExc (h 85) (x 1) j (max 1 (h 85 9 - (h 85 (12 + 9 * x 1 + 0) + m))) ≤ 0)) → Runs 150 270 41 [vA 84, vI (x 1), vI (m - 1), vI m, vI y2, vI (j + 1)] [] h Q := by
            intro y2 h2 e2
            refine r y2 h2 (e2.trans ⟨fun z k k0 k1 => ?_, fun z => ⟨yo.mpr (fun k k0 k1 => z k k0 (by omega)), z j j0 (by omega)⟩⟩)
            by_cases e : k = j
            · rw [e]; exact z.2
            · exact yo.mp z.1 k k0 (by omega)
          refine br.i (fun c => ⟨by omega, G 0 (by omega) (by omega)⟩) (fun c => ?_)
          refine ⟨by decide, ?_⟩
          refine r_get p6 (by omega) ?_
          refine ⟨by omega, ?_⟩
          refine r_roomBy (s := h 85 9) (t := h 85 (12 + 9 * x 1 + 0) + m) (by omega) (by omega) ?_
          refine r_excess w p6 ⟨j0, j3⟩ (room := max 1 (h 85 9 - (h 85 (12 + 9 * x 1 + 0) + m))) (by omega) ?_
          exact br.i (fun c2 => ⟨by omega, G 0 (by omega) (by omega)⟩) (fun c2 => ⟨by omega, G 1 (by omega) (by omega)⟩)
    exact M (9 - h 85 (12 + 9 * x 1 + 0)).toNat 1 _ _ (by omega) (by omega) (QI K (by omega))
