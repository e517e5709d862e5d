/-! CALLS: within -/
/-- the drops of a kind that the deeds of a set are -/
def pS (a : aA) (s k : Int) (i : Int) : Int := fI (fun y j => if iAnd (iShr s j) 1 = 1 ∧ a (70 + 2 * j) = k then y + a (70 + 2 * j + 1) else y) 0 i
theorem pS_s {a : aA} {s k i : Int} (h : 0 ≤ i) : pS a s k (i + 1) = if iAnd (iShr s i) 1 = 1 ∧ a (70 + 2 * i) = k then pS a s k i + a (70 + 2 * i + 1) else pS a s k i := fI_s (st := fun y j => if iAnd (iShr s j) 1 = 1 ∧ a (70 + 2 * j) = k then y + a (70 + 2 * j + 1) else y) h
theorem Wf.plan {a : aA} (w : Wf a) {i : Int} (h : 0 ≤ i ∧ i < 8) : (0 ≤ a (70 + 2 * i) ∧ a (70 + 2 * i) ≤ 2) ∧ 0 ≤ a (70 + 2 * i + 1) ∧ a (70 + 2 * i + 1) ≤ 99 := by
  obtain ⟨g, n, I, hn⟩ := w
  have z := I.plan.2 i h.1 h.2
  exact ⟨z.1.2, z.2.2⟩
theorem pS_r {a : aA} (w : Wf a) {s k : Int} : ∀ i, 0 ≤ i → i ≤ 8 → 0 ≤ pS a s k i ∧ pS a s k i ≤ 99 * i := by
  refine fI_i (st := fun y j => if iAnd (iShr s j) 1 = 1 ∧ a (70 + 2 * j) = k then y + a (70 + 2 * j + 1) else y) (n := 8) (fun i s => 0 ≤ s ∧ s ≤ 99 * i) (by omega) (fun i y i0 i6 z => ?_)
  have q := w.plan ⟨i0, i6⟩
  show 0 ≤ (if iAnd (iShr s i) 1 = 1 ∧ a (70 + 2 * i) = k then y + a (70 + 2 * i + 1) else y) ∧ (if iAnd (iShr s i) 1 = 1 ∧ a (70 + 2 * i) = k then y + a (70 + 2 * i + 1) else y) ≤ 99 * (i + 1)
  by_cases c : iAnd (iShr s i) 1 = 1 ∧ a (70 + 2 * i) = k
  · rw [if_pos c]; omega
  · rw [if_neg c]; omega
theorem has0 {j : Int} (h : 0 ≤ j ∧ j < 8) : iAnd (iShr 0 j) 1 = 0 := by
  have T : ∀ j : Fin 8, iAnd (iShr 0 j.val) 1 = 0 := by decide +kernel
  have := T ⟨j.toNat, by omega⟩
  simp only [Int.toNat_of_nonneg h.1] at this
  exact this
theorem pS_0 {a : aA} {k : Int} : ∀ i, 0 ≤ i → i ≤ 8 → pS a 0 k i = 0 := by
  refine fI_i (st := fun y j => if iAnd (iShr 0 j) 1 = 1 ∧ a (70 + 2 * j) = k then y + a (70 + 2 * j + 1) else y) (n := 8) (fun i s => s = 0) rfl (fun i y i0 i6 z => ?_)
  show (if iAnd (iShr 0 i) 1 = 1 ∧ a (70 + 2 * i) = k then y + a (70 + 2 * i + 1) else y) = 0
  rw [if_neg (fun c => by have := has0 (j := i) ⟨i0, i6⟩; omega)]
  exact z
/-- too much of a kind -/
def bad (a : aA) (p s k : Int) : Prop := 0 < pS a s k (a 4) ∧ 0 < pExc a p k (pRoom a p) + pS a s k (a 4)
def wOk (a : aA) (p s : Int) : Prop := (¬ bad a p s 0 ∧ ¬ bad a p s 1) ∧ ¬ bad a p s 2
def wOkB (a : aA) (p s : Int) : Bool := decide ((¬ (0 < pS a s 0 (a 4) ∧ 0 < pExc a p 0 (pRoom a p) + pS a s 0 (a 4)) ∧ ¬ (0 < pS a s 1 (a 4) ∧ 0 < pExc a p 1 (pRoom a p) + pS a s 1 (a 4))) ∧ ¬ (0 < pS a s 2 (a 4) ∧ 0 < pExc a p 2 (pRoom a p) + pS a s 2 (a 4)))
theorem wOk_t {a : aA} {p s : Int} (h : wOk a p s) : wOkB a p s = true := decide_eq_true h
theorem wOk_f {a : aA} {p s : Int} (h : ¬ wOk a p s) : wOkB a p s = false := decide_eq_false h
theorem wOk_b {a : aA} {p s : Int} (h : wOkB a p s = true) : wOk a p s := by
  unfold wOkB at h
  have z := of_decide_eq_true h
  exact z
theorem wOk_a {a : aA} {p s : Int} : wOk a p s ↔ ∀ k, 0 ≤ k → k < 3 → ¬ bad a p s k := by
  refine ⟨fun z k k0 k3 => ?_, fun z => ⟨⟨z 0 (by decide) (by decide), z 1 (by decide) (by decide)⟩, z 2 (by decide) (by decide)⟩⟩
  have : k = 0 ∨ k = 1 ∨ k = 2 := by omega
  rcases this with y | y | y <;> subst y
  · exact z.1.1
  · exact z.1.2
  · exact z.2
def pT (a : aA) (s : Int) : Int := pS a s 0 (a 4) + pS a s 1 (a 4) + pS a s 2 (a 4)
def wiS (a : aA) (p : Int) (i : Int) : Int := fI (fun b s => if s = 0 then b else if wOkB a p s = true ∧ (popc b < popc s ∨ (popc s = popc b ∧ pT a b < pT a s)) then s else b) 0 i
theorem wiS_s {a : aA} {p i : Int} (h : 0 < i) : wiS a p (i + 1) = if wOkB a p i = true ∧ (popc (wiS a p i) < popc i ∨ (popc i = popc (wiS a p i) ∧ pT a (wiS a p i) < pT a i)) then i else wiS a p i := by
  have e := fI_s (st := fun b s => if s = 0 then b else if wOkB a p s = true ∧ (popc b < popc s ∨ (popc s = popc b ∧ pT a b < pT a s)) then s else b) (x := (0 : Int)) (i := i) (by omega)
  rw [if_neg (by omega)] at e
  exact e
theorem wiS_r {a : aA} (w : Wf a) {p : Int} : ∀ i, 0 ≤ i → i ≤ 256 → (0 ≤ wiS a p i ∧ wiS a p i < 256) ∧ wOk a p (wiS a p i) := by
  have q4 := w.p4
  refine fI_i (st := fun b s => if s = 0 then b else if wOkB a p s = true ∧ (popc b < popc s ∨ (popc s = popc b ∧ pT a b < pT a s)) then s else b) (n := 256) (fun i y => (0 ≤ y ∧ y < 256) ∧ wOk a p y) ⟨by decide, ?_⟩ (fun i y i0 i6 z => ?_)
  · rw [wOk_a]
    intro k k0 k3 c
    unfold bad at c
    rw [pS_0 (a 4) q4.1 q4.2] at c
    omega
  · split
    · exact z
    · split
      · rename_i c
        exact ⟨⟨by omega, by omega⟩, wOk_b c.1⟩
      · exact z
section WI2
variable {d : Nat} {h : Hp} {Q : aPO} {a : aA} {n p s : Int}
theorem c_dropsOf {kd : Int} (I : CG h 2 a n) (hn : n ≤ 30000) (k : Q (vI (pS a s kd (a 4))) h) : Runs d 6 0 [vA 11, vI s, vI kd, none, none] [] h Q := by
  have w := I.wf hn
  have q4 := w.p4
  have e4 : h 11 3 = a 4 := I.plan.1.1
  refine Runs.go 10 [5] ?_
  refine downI (R := fun i => Runs d 6 5 [vA 11, vI s, vI kd, vI (pS a s kd i), vI i] [] h Q) (x := 0) (n := a 4) q4.1 ?_ (fun i i0 i3 r => ?_)
  · refine Runs.go 10 [] ?_
    exact br.t (show h 11 3 ≤ a 4 by omega) k
  · obtain ⟨d1, d2⟩ := I.plan.2 i i0 (by omega)
    have f1 : h 12 i = a (70 + 2 * i) := d1.1
    have f2 : h 13 i = a (70 + 2 * i + 1) := d2.1
    have z := pS_r w (s := s) (k := kd) i i0 (by omega)
    have pr := w.plan (i := i) (by omega)
    have b8 : 0 ≤ i ∧ i < (8 : Int) := by omega
    rw [pS_s i0] at r
    refine Runs.go 50 [5] ?_
    refine br.f (show ¬ h 11 3 ≤ i by omega) ?_
    refine br.i (fun y => ?_) (fun y => ?_)
    · rw [if_neg (fun q => y q.1)] at r
      exact ⟨by omega, r⟩
    refine ⟨b8, ?_⟩
    refine br.i (fun z2 => ?_) (fun z2 => ?_)
    · have z' : h 12 i ≠ kd := z2
      rw [if_neg (fun q => z' (by rw [f1]; exact q.2))] at r
      exact ⟨by omega, r⟩
    · have z' : h 12 i = kd := Decidable.not_not.mp z2
      rw [if_pos ⟨Decidable.not_not.mp y, by rw [← f1]; exact z'⟩, ← f2] at r
      exact ⟨b8, ⟨show -2147483648 ≤ pS a s kd i + h 13 i ∧ pS a s kd i + h 13 i < 2147483648 by omega, ⟨by omega, r⟩⟩⟩
theorem c_stays (I : CG h 2 a n) (hn : n ≤ 30000) (hp : 0 ≤ p ∧ p < 6) (k : Q (vI (b2i (wOkB a p s = true))) h) : Runs (d + 2) 5 0 [vA 2, vI p, vI s, none, none, none] [] h Q := by
  have w := I.wf hn
  have q4 := w.p4
  have rm := w.room hp
  refine Runs.go 10 [9] ?_
  refine c_room I hp ?_
  refine downI (R := fun i => ∀ u : AV, (∀ k, 0 ≤ k → k < i → ¬ bad a p s k) → Runs (d + 2) 5 9 [vA 2, vI p, vI s, vI (pRoom a p), vI i, u] [] h Q) (x := 0) (n := 3) (by decide) ?_ (fun i i0 i3 r => ?_) none (fun k _ _ => by omega)
  · intro u y
    rw [b2i_t (wOk_t (wOk_a.mpr y))] at k
    refine Runs.go 10 [] ?_
    exact br.t (by omega) ⟨by omega, k⟩
  · intro u y
    have z := pS_r w (s := s) (k := i) (a 4) q4.1 q4.2
    have ex := w.exc hp (k := i) ⟨i0, i3⟩ (room := pRoom a p) (by omega)
    have N : ¬ bad a p s i → ∀ k, 0 ≤ k → k < i + 1 → ¬ bad a p s k := by
      intro b k k0 k1
      by_cases e : k = i
      · rw [e]; exact b
      · exact y k k0 (by omega)
    refine Runs.go 50 [9] ?_
    refine br.f (by omega) ?_
    refine c_dropsOf I hn ?_
    refine br.i (fun c => ⟨by omega, r _ (N (fun q => by have := q.1; omega))⟩) (fun c => ?_)
    refine c_above I hp ⟨i0, i3⟩ (room := pRoom a p) (by omega) ?_
    refine ⟨by omega, ?_⟩
    refine br.i (fun c2 => ⟨by omega, r _ (N (fun q => by have := q.2; omega))⟩) (fun c2 => ⟨by omega, ?_⟩)
    rw [b2i_f (fun q => by rw [wOk_f (fun z => wOk_a.mp z i i0 i3 ⟨by omega, by omega⟩)] at q; cases q)] at k
    exact k
theorem pw_c {m : Int} (h : 0 ≤ m ∧ m ≤ 8) : 1 ≤ iShl 1 m ∧ iShl 1 m ≤ 256 := by
  obtain ⟨a0, a1, a2, a3, a4, a5, a6, a7, a8⟩ := pw_v
  unfold pw at a0 a1 a2 a3 a4 a5 a6 a7 a8
  have : m = 0 ∨ m = 1 ∨ m = 2 ∨ m = 3 ∨ m = 4 ∨ m = 5 ∨ m = 6 ∨ m = 7 ∨ m = 8 := by omega
  rcases this with z | z | z | z | z | z | z | z | z <;> subst z <;> omega
theorem c_mostDeeds (I : CG h 2 a n) (hn : n ≤ 30000) (hp : 0 ≤ p ∧ p < 6) (k : Q (vI (wiS a p (iShl 1 (a 4)))) h) : Runs (d + 3) 4 0 [vA 2, vI p, none, none, none, none, none, none] [] h Q := by
  have w := I.wf hn
  have q4 := w.p4
  have e4 : h 11 3 = a 4 := I.plan.1.1
  have pc := pw_c q4
  have t0 : pT a 0 = 0 := by unfold pT; rw [pS_0 (a 4) q4.1 q4.2, pS_0 (a 4) q4.1 q4.2, pS_0 (a 4) q4.1 q4.2]; rfl
  have tr : ∀ s, 0 ≤ pT a s ∧ pT a s ≤ 2376 := by
    intro s
    have z0 := pS_r w (s := s) (k := 0) (a 4) q4.1 q4.2
    have z1 := pS_r w (s := s) (k := 1) (a 4) q4.1 q4.2
    have z2 := pS_r w (s := s) (k := 2) (a 4) q4.1 q4.2
    unfold pT
    omega
  have R0 : ∀ b c e : Int, b = wiS a p 1 → c = popc (wiS a p 1) → e = pT a (wiS a p 1) → Runs (d + 3) 4 10 [vA 2, vI p, vI b, vI c, vI e, vI 1, none, none] [] h Q := by
    intro b c e eb ec ee
    subst eb ec ee
    refine downI (R := fun i => ∀ u v : AV, Runs (d + 3) 4 10 [vA 2, vI p, vI (wiS a p i), vI (popc (wiS a p i)), vI (pT a (wiS a p i)), vI i, u, v] [] h Q) (x := 1) (n := iShl 1 (a 4)) pc.1 ?_ (fun i i0 i3 r => ?_) none none
    · intro u v
      refine Runs.go 20 [] ?_
      exact br.t (show iShl 1 (h 11 3) ≤ iShl 1 (a 4) by rw [e4]; exact Int.le_refl _) k
    · intro u v
      have p1 := popc_r (s := i)
      have z0 := pS_r w (s := i) (k := 0) (a 4) q4.1 q4.2
      have z1 := pS_r w (s := i) (k := 1) (a 4) q4.1 q4.2
      have z2 := pS_r w (s := i) (k := 2) (a 4) q4.1 q4.2
      have G : ∀ (b c e : Int) (u v : AV), b = wiS a p (i + 1) → c = popc (wiS a p (i + 1)) → e = pT a (wiS a p (i + 1)) → Runs (d + 3) 4 107 [vA 2, vI p, vI b, vI c, vI e, vI i, u, v] [] h Q := by
        intro b c e u v eb ec ee
        subst eb ec ee
        refine Runs.go 10 [10] ?_
        exact ⟨by omega, r _ _⟩
      have ws := wiS_s (a := a) (p := p) (i := i) (by omega)
      refine Runs.go 60 [107] ?_
      refine br.f (show ¬ iShl 1 (h 11 3) ≤ i by rw [e4]; omega) ?_
      refine c_bitCount (by omega) ?_
      refine br.i (fun y => ?_) (fun y => ?_)
      · rw [if_neg (by omega)] at ws
        exact G _ _ _ _ _ ws.symm (by rw [ws]) (by rw [ws])
      refine c_stays I hn hp ?_
      refine br.j (fun z => ?_) (fun z => ?_)
      · rw [if_neg (fun q => b2i_z (Decidable.not_not.mp z) q.1)] at ws
        exact G _ _ _ _ _ ws.symm (by rw [ws]) (by rw [ws])
      have ok := b2i_nz z
      refine c_dropsOf I hn ?_
      refine c_dropsOf I hn ?_
      refine ⟨by omega, ?_⟩
      refine c_dropsOf I hn ?_
      refine ⟨by omega, ?_⟩
      have eT : pS a i 0 (a 4) + pS a i 1 (a 4) + pS a i 2 (a 4) = pT a i := rfl
      refine br.i (fun c => ?_) (fun c => ?_)
      · rw [if_pos ⟨ok, Or.inl (by omega)⟩] at ws
        exact G _ _ _ _ _ ws.symm (by rw [ws]) (by rw [ws]; rfl)
      refine br.i (fun c2 => ?_) (fun c2 => ?_)
      · rw [if_neg (by omega)] at ws
        exact G _ _ _ _ _ ws.symm (by rw [ws]) (by rw [ws])
      · rw [if_pos ⟨ok, Or.inr ⟨by omega, by omega⟩⟩] at ws
        exact G _ _ _ _ _ ws.symm (by rw [ws]) (by rw [ws]; rfl)
  refine Runs.go 20 [10] ?_
  exact R0 0 0 0 rfl (show (0 : Int) = popc 0 by decide) (by rw [show wiS a p 1 = 0 from rfl, t0])
theorem r_dropsOf (w : Wf (h 85)) (hp : 0 ≤ p ∧ p < 6) (k : Q (vI (if wOkB (h 85) p s = true then pT (h 85) s else -1)) h) : Runs (d + 2) 277 0 [vA 84, vI p, vI s, none, none, none, none] [] h Q := by
  have q4 := w.p4
  have rm := w.room hp
  generalize ha : h 85 = a at *
  have wh : Wf (h 85) := by rw [ha]; exact w
  have e4 : h 85 4 = a 4 := by rw [ha]
  have sT : ∀ i, 0 ≤ i → i ≤ 3 → 0 ≤ fI (fun y k => y + pS a s k (a 4)) 0 i ∧ fI (fun y k => y + pS a s k (a 4)) 0 i ≤ 792 * i := by
    refine fI_i (st := fun y k => y + pS a s k (a 4)) (n := 3) (fun i y => 0 ≤ y ∧ y ≤ 792 * i) (by omega) (fun i y i0 i3 z => ?_)
    have q := pS_r w (s := s) (k := i) (a 4) q4.1 q4.2
    show 0 ≤ y + pS a s i (a 4) ∧ y + pS a s i (a 4) ≤ 792 * (i + 1)
    omega
  have sE : fI (fun y k => y + pS a s k (a 4)) 0 3 = pT a s := by
    unfold pT
    show 0 + pS a s 0 (a 4) + pS a s 1 (a 4) + pS a s 2 (a 4) = _
    rw [Int.zero_add]
  refine Runs.go 10 [5] ?_
  refine downI (R := fun i => ∀ u v : AV, (∀ k, 0 ≤ k → k < i → ¬ bad a p s k) → Runs (d + 2) 277 5 [vA 84, vI p, vI s, vI (fI (fun y k => y + pS a s k (a 4)) 0 i), vI i, u, v] [] h Q) (x := 0) (n := 3) (by decide) ?_ (fun i i0 i3 r => ?_) none none (fun k _ _ => by omega)
  · intro u v y
    rw [if_pos (wOk_t (wOk_a.mpr y)), ← sE] at k
    refine Runs.go 10 [] ?_
    exact br.t (by omega) k
  · intro u v y
    have z := pS_r w (s := s) (k := i) (a 4) q4.1 q4.2
    have ex := wh.exc hp (k := i) ⟨i0, i3⟩ (room := pRoom (h 85) p) (by rw [ha]; omega)
    rw [ha] at ex
    have sti := sT i i0 (by omega)
    have N : ¬ bad a p s i → ∀ k, 0 ≤ k → k < i + 1 → ¬ bad a p s k := by
      intro b k k0 k1
      by_cases e : k = i
      · rw [e]; exact b
      · exact y k k0 (by omega)
    refine Runs.go 20 [17] ?_
    refine br.f (by omega) ?_
    refine downI (R := fun j => Runs (d + 2) 277 17 [vA 84, vI p, vI s, vI (fI (fun y k => y + pS a s k (a 4)) 0 i), vI i, vI (pS a s i j), vI j] [] h Q) (x := 0) (n := a 4) q4.1 ?_ (fun j j0 j3 r2 => ?_)
    · have G : ¬ bad a p s i → Runs (d + 2) 277 108 [vA 84, vI p, vI s, vI (fI (fun y k => y + pS a s k (a 4)) 0 i), vI i, vI (pS a s i (a 4)), vI (a 4)] [] h Q := by
        intro b
        have R := r (vI (pS a s i (a 4))) (vI (a 4)) (N b)
        rw [fI_s (st := fun y k => y + pS a s k (a 4)) i0] at R
        refine Runs.go 10 [5] ?_
        exact ⟨by omega, ⟨by omega, R⟩⟩
      refine Runs.go 30 [108] ?_
      refine ⟨by decide, br.t (show h 85 4 ≤ a 4 by omega) ?_⟩
      refine br.i (fun c => G (fun q => by have := q.1; omega)) (fun c => ?_)
      refine r_roomOf wh hp ?_
      rw [ha]
      refine r_excess wh hp ⟨i0, i3⟩ (room := pRoom a p) (by omega) ?_
      rw [ha]
      refine ⟨by omega, ?_⟩
      refine br.i (fun c2 => G (fun q => by have := q.2; omega)) (fun c2 => ?_)
      rw [if_neg (fun q => by rw [wOk_f (fun z => wOk_a.mp z i i0 i3 ⟨by omega, by omega⟩)] at q; cases q)] at k
      exact k
    · have pr := w.plan (i := j) (by omega)
      have zz := pS_r w (s := s) (k := i) j j0 (by omega)
      have c1 : h 85 (70 + 2 * j) = a (70 + 2 * j) := by rw [ha]
      have c2 : h 85 (70 + 2 * j + 1) = a (70 + 2 * j + 1) := by rw [ha]
      rw [pS_s j0] at r2
      refine Runs.go 50 [17] ?_
      refine ⟨by decide, br.f (show ¬ h 85 4 ≤ j by omega) ?_⟩
      refine r_has ?_
      refine br.i (fun c => ?_) (fun c => ?_)
      · rw [if_neg (fun q => b2i_z c q.1)] at r2
        exact ⟨by omega, ⟨by omega, by rw [Int.add_zero]; exact r2⟩⟩
      refine ⟨by omega, ⟨by omega, ⟨⟨by omega, show 70 + 2 * j < (3856 : Int) by omega⟩, ?_⟩⟩⟩
      refine br.i (fun c3 => ?_) (fun c3 => ?_)
      · have c' : h 85 (70 + 2 * j) ≠ i := c3
        rw [if_neg (fun q => c' (by rw [c1]; exact q.2))] at r2
        exact ⟨by omega, ⟨by omega, by rw [Int.add_zero]; exact r2⟩⟩
      · have c' : h 85 (70 + 2 * j) = i := Decidable.not_not.mp c3
        rw [if_pos ⟨b2i_nz c, by rw [← c1]; exact c'⟩, ← c2] at r2
        exact ⟨by omega, ⟨by omega, ⟨by omega, ⟨⟨by omega, show 70 + 2 * j + 1 < (3856 : Int) by omega⟩, ⟨show -2147483648 ≤ pS a s i j + h 85 (70 + 2 * j + 1) ∧ pS a s i j + h 85 (70 + 2 * j + 1) < 2147483648 by omega, ⟨by omega, r2⟩⟩⟩⟩⟩⟩
end WI2
theorem o_within : op_within Inv := by
  intro x hx
  refine opR (fun a _ => if 0 ≤ x 1 ∧ x 1 < a 0 then wiS a (x 1) (iShl 1 (a 4)) else -1) (fun h L n Q I hn t k => ?_) (fun h L Q w t k => ?_)
  · have q0 := I.num.1.2
    have K := k h Same.rf
    refine Runs.go 40 [] ?_
    refine c_has I ?_
    refine br.i (fun y => QI K (by rw [if_neg (b2i_z y)])) (fun y1 => ?_)
    have k1 := b2i_nz y1
    rw [if_pos k1] at K
    exact c_mostDeeds I hn (by omega) K
  · have q0 := w.p0
    have q4 := w.p4
    have K := k h Same.rf
    refine Runs.go 40 [14] ?_
    refine r_isOne w ?_
    refine br.j (fun y => QI K (by rw [if_neg (b2i_z (Decidable.not_not.mp y))])) (fun y1 => ?_)
    have k1 := b2i_nz y1
    rw [if_pos k1] at K
    have p6 : 0 ≤ x 1 ∧ x 1 < 6 := by omega
    have pc := pw_c q4
    have R0 : ∀ b : Int, b = wiS (h 85) (x 1) 1 → Runs 150 278 14 [vA 84, vI (x 1), vI b, vI 1, none] [] h Q := by
      intro b eb
      subst eb
      refine downI (R := fun i => ∀ u : AV, Runs 150 278 14 [vA 84, vI (x 1), vI (wiS (h 85) (x 1) i), vI i, u] [] h Q) (x := 1) (n := iShl 1 (h 85 4)) pc.1 ?_ (fun i i0 i3 r => ?_) none
      · intro u
        refine Runs.go 20 [] ?_
        exact ⟨by decide, br.t (show iShl 1 (h 85 4) ≤ iShl 1 (h 85 4) by exact Int.le_refl _) K⟩
      · intro u
        have rg := wiS_r w (p := x 1) i (by omega) (by omega)
        have rok := wOk_t rg.2
        have G : ∀ (b : Int) (u : AV), b = wiS (h 85) (x 1) (i + 1) → Runs 150 278 78 [vA 84, vI (x 1), vI b, vI i, u] [] h Q := by
          intro b u eb
          subst eb
          refine Runs.go 10 [14] ?_
          exact ⟨by omega, r _⟩
        rw [wiS_s (by omega)] at G
        have tn : ∀ s, wOkB (h 85) (x 1) s = true → 0 ≤ pT (h 85) s := by
          intro s _
          have z0 := pS_r w (s := s) (k := 0) (h 85 4) q4.1 q4.2
          have z1 := pS_r w (s := s) (k := 1) (h 85 4) q4.1 q4.2
          have z2 := pS_r w (s := s) (k := 2) (h 85 4) q4.1 q4.2
          unfold pT
          omega
        refine Runs.go 60 [78] ?_
        refine ⟨by decide, br.f (show ¬ iShl 1 (h 85 4) ≤ i by omega) ?_⟩
        refine r_dropsOf w p6 ?_
        by_cases c : wOkB (h 85) (x 1) i = true
        · rw [if_pos c]
          have t0 := tn i c
          refine br.f (by omega) ?_
          refine r_bits (by omega) ?_
          refine r_bits (by omega) ?_
          refine br.i (fun y => G _ _ ?_) (fun y => ?_)
          · rw [if_neg (by omega)]
          refine r_bits (by omega) ?_
          refine r_bits (by omega) ?_
          refine br.i (fun y2 => G _ _ ?_) (fun y2 => ?_)
          · rw [if_pos ⟨c, Or.inl (by omega)⟩]
          refine r_dropsOf w p6 ?_
          rw [if_pos rok]
          refine br.i (fun y3 => G _ _ ?_) (fun y3 => G _ _ ?_)
          · rw [if_pos ⟨c, Or.inr ⟨by omega, by omega⟩⟩]
          · rw [if_neg (by omega)]
        · rw [if_neg c]
          refine br.t rfl (G _ _ ?_)
          rw [if_neg (fun q => c q.1)]
    exact R0 0 rfl
