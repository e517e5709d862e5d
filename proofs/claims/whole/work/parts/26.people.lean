/-! CALLS: the readers that go through people -/
theorem br.t {c A B : Prop} (z : c) (a : A) : br c A B := ⟨fun _ => a, fun y => absurd z y⟩
theorem br.f {c A B : Prop} (z : ¬ c) (b : B) : br c A B := ⟨fun y => absurd y z, fun _ => b⟩
def pSober (a : aA) (x : Int) (i : Int) : Int := bS (fun p => a (12 + 9 * p + (2 + x)) = 0) i
theorem o_sober : op_sober Inv := by
  intro x hx
  refine opR (fun a _ => if 0 ≤ x 1 ∧ x 1 ≤ 3 then pSober a (x 1) (a 0) else -1) (fun h L n Q I hn t k => ?_) (fun h L Q w t k => ?_)
  · have q0 := I.num.1
    refine Runs.go 20 [15] ?_
    refine sp_between ?_
    refine br.j (fun c => QI (k _ Same.rf) (by rw [if_neg (b2i_z (by omega))])) (fun c => ?_)
    have c1 := b2i_nz c
    rw [if_pos c1] at k
    refine downI (R := fun i => Runs 150 155 15 [vA 0, vI (x 1), vI (pSober (h 85) (x 1) i), vI i] [] h Q) (x := 0) (n := h 85 0) q0.2.1 ?_ (fun i i0 i3 r => ?_)
    · refine Runs.go 10 [] ?_
      refine br.t (show h 2 0 ≤ h 85 0 by omega) ?_
      exact k _ Same.rf
    · refine Runs.go 50 [15] ?_
      refine br.f (show ¬ h 2 0 ≤ i by omega) ?_
      refine c_amount I (by omega) (by omega) ?_
      refine br.i (fun c => ?_) (fun c => ?_)
      · rw [pSober, ← bS_n (f := fun p => h 85 (12 + 9 * p + (2 + x 1)) = 0) (i := i) (by omega) c] at r
        exact ⟨by omega, r⟩
      · rw [pSober, ← bS_or (f := fun p => h 85 (12 + 9 * p + (2 + x 1)) = 0) (i := i) (by omega) (show _ = (0 : Int) by omega)] at r
        exact ⟨by omega, r⟩
  · have q0 := w.p0
    refine Runs.go 20 [15] ?_
    refine r_isIn ?_
    refine br.j (fun c => QI (k _ Same.rf) (by rw [if_neg (b2i_z (by omega))])) (fun c => ?_)
    have c1 := b2i_nz c
    rw [if_pos c1] at k
    refine downI (R := fun i => Runs 150 265 15 [vA 84, vI (x 1), vI (pSober (h 85) (x 1) i), vI i] [] h Q) (x := 0) (n := h 85 0) q0.1 ?_ (fun i i0 i3 r => ?_)
    · refine Runs.go 10 [] ?_
      refine ⟨by decide, br.t (show h 85 0 ≤ h 85 0 by omega) ?_⟩
      exact k _ Same.rf
    · refine Runs.go 50 [15] ?_
      refine ⟨by decide, br.f (show ¬ h 85 0 ≤ i by omega) ?_⟩
      refine ⟨by omega, ?_⟩
      refine r_get (by omega) (by omega) ?_
      refine br.i (fun c => ?_) (fun c => ?_)
      · rw [pSober, ← bS_or0 (f := fun p => h 85 (12 + 9 * p + (2 + x 1)) = 0) (i := i) (by omega) c] at r
        exact ⟨by omega, r⟩
      · rw [pSober, ← bS_or (f := fun p => h 85 (12 + 9 * p + (2 + x 1)) = 0) (i := i) (by omega) (show _ = (0 : Int) by omega)] at r
        exact ⟨by omega, r⟩
/-- what all have together -/
def pTog (a : aA) (k : Int) (i : Int) : Int := fI (fun s p => s + a (12 + 9 * p + (2 + k))) 0 i
theorem pTog_s {a : aA} {k i : Int} (h : 0 ≤ i) : pTog a k (i + 1) = pTog a k i + a (12 + 9 * i + (2 + k)) := fI_s (st := fun s p => s + a (12 + 9 * p + (2 + k))) h
theorem pTog_r {a : aA} (w : Wf a) {k : Int} (hk : 0 ≤ k ∧ k < 4) : ∀ i, 0 ≤ i → i ≤ 6 → 0 ≤ pTog a k i ∧ pTog a k i ≤ 999 * i := by
  refine fI_i (st := fun s p => s + a (12 + 9 * p + (2 + k))) (n := 6) (fun i s => 0 ≤ s ∧ s ≤ 999 * i) (by omega) (fun i y i0 i6 z => ?_)
  have q := w.drop (p := i) ⟨i0, i6⟩ hk
  show 0 ≤ y + a (12 + 9 * i + (2 + k)) ∧ y + a (12 + 9 * i + (2 + k)) ≤ 999 * (i + 1)
  omega
def pHv (a : aA) (i : Int) : Int := fI (fun f k => if pTog a f (a 0) < pTog a k (a 0) then k else f) 0 i
theorem pHv_s {a : aA} {i : Int} (h : 0 ≤ i) : pHv a (i + 1) = if pTog a (pHv a i) (a 0) < pTog a i (a 0) then i else pHv a i := fI_s (st := fun f k => if pTog a f (a 0) < pTog a k (a 0) then k else f) h
theorem pHv_r {a : aA} : ∀ i, 0 ≤ i → i ≤ 4 → 0 ≤ pHv a i ∧ pHv a i < 4 := by
  refine fI_i (st := fun f k => if pTog a f (a 0) < pTog a k (a 0) then k else f) (n := 4) (fun i s => 0 ≤ s ∧ s < 4) (by omega) (fun i y i0 i6 z => ?_)
  show 0 ≤ (if _ then i else y) ∧ (if _ then i else y) < 4
  split <;> omega
theorem c_heaviest {d : Nat} {h : Hp} {Q : aPO} {a : aA} {n : Int} (I : CG h 2 a n) (hn : n ≤ 30000) (k : Q (vI (pHv a 4)) h) : Runs (d + 1) 39 0 [vA 2, none, none, none, none, none] [] h Q := by
  have q0 : h 2 0 = a 0 ∧ 0 ≤ a 0 ∧ a 0 ≤ 6 := I.num.1
  have w := I.wf hn
  refine Runs.go 20 [6] ?_
  refine downI (R := fun i => ∀ u v, Runs (d + 1) 39 6 [vA 2, vI (pHv a i), vI (if i = 0 then 0 else pTog a (pHv a i) (a 0)), vI i, u, v] [] h Q) (x := 0) (n := 4) (by decide) ?_ (fun i i0 i3 r => ?_) _ _
  · intro u v
    refine Runs.go 10 [] ?_
    refine br.t (by omega) ?_
    exact k
  · intro u v
    refine Runs.go 10 [17] ?_
    refine br.f (by omega) ?_
    refine downI (R := fun j => Runs (d + 1) 39 17 [vA 2, vI (pHv a i), vI (if i = 0 then 0 else pTog a (pHv a i) (a 0)), vI i, vI (pTog a i j), vI j] [] h Q) (x := 0) (n := a 0) q0.2.1 ?_ (fun j j0 j3 r2 => ?_)
    · refine Runs.go 20 [6] ?_
      refine br.t (show h 2 0 ≤ a 0 by omega) ?_
      have z1 := pTog_r w (k := i) ⟨i0, i3⟩ (a 0) (by omega) (by omega)
      have r1 := r (vI (pTog a i (a 0))) (vI (a 0))
      rw [pHv_s i0] at r1
      by_cases e : i = 0
      · subst e
        have e0 : pHv a 0 = 0 := rfl
        rw [e0, if_neg (show ¬ (0 : Int) + 1 = 0 by omega), if_neg (by omega)] at r1
        rw [e0, if_pos rfl]
        refine br.i (fun c => ⟨by omega, ?_⟩) (fun c => ⟨by omega, ?_⟩)
        · have y : pTog a 0 (a 0) = 0 := by omega
          rw [y] at r1
          rw [y]
          exact r1
        · exact r1
      · rw [if_neg (show ¬ i + 1 = 0 by omega)] at r1
        rw [if_neg e]
        refine br.i (fun c => ⟨by omega, ?_⟩) (fun c => ⟨by omega, ?_⟩)
        · rw [if_neg (by omega)] at r1
          exact r1
        · rw [if_pos (by omega)] at r1
          exact r1
    · refine Runs.go 20 [17] ?_
      refine br.f (show ¬ h 2 0 ≤ j by omega) ?_
      refine c_amount I (by omega) (by omega) ?_
      have z1 := pTog_r w (k := i) ⟨i0, i3⟩ j (by omega) (by omega)
      have z2 := w.drop (p := j) (k := i) (by omega) (by omega)
      rw [pTog_s j0] at r2
      exact ⟨by omega, ⟨by omega, r2⟩⟩
theorem o_heaviest : op_heaviest Inv := by
  intro x hx
  refine opR (fun a _ => pHv a 4) (fun h L n Q I hn t k => ?_) (fun h L Q w t k => ?_)
  · refine Runs.go 20 [] ?_
    exact c_heaviest I hn (k _ Same.rf)
  · have q0 := w.p0
    have K : ∀ (d : Nat) (kd : Int) (Q : aPO), (0 ≤ kd ∧ kd < 4) → Q (vI (pTog (h 85) kd (h 85 0))) h → Runs (d + 1) 266 0 [vA 84, vI kd, none, none] [] h Q := by
      intro d kd Q hk k
      refine Runs.go 20 [4] ?_
      refine downI (R := fun j => Runs (d + 1) 266 4 [vA 84, vI kd, vI (pTog (h 85) kd j), vI j] [] h Q) (x := 0) (n := h 85 0) q0.1 ?_ (fun j j0 j3 r2 => ?_)
      · refine Runs.go 20 [4] ?_
        exact ⟨by decide, br.t (show h 85 0 ≤ h 85 0 by omega) k⟩
      · refine Runs.go 20 [4] ?_
        refine ⟨by decide, br.f (show ¬ h 85 0 ≤ j by omega) ?_⟩
        refine ⟨by omega, ?_⟩
        refine r_get (by omega) (by omega) ?_
        have z1 := pTog_r w (k := kd) hk j (by omega) (by omega)
        have z2 := w.drop (p := j) (k := kd) (by omega) (by omega)
        rw [pTog_s j0] at r2
        exact ⟨by omega, ⟨by omega, r2⟩⟩
    refine Runs.go 20 [4] ?_
    have e1 : pHv (h 85) 1 = 0 := by
      have e0 : pHv (h 85) 0 = 0 := rfl
      have := pHv_s (a := h 85) (i := 0) (by omega)
      rw [e0, if_neg (by omega)] at this
      exact this
    have R0 : Runs 150 267 4 [vA 84, vI (pHv (h 85) 1), vI 1] [] h Q := by
      refine downI (R := fun i => Runs 150 267 4 [vA 84, vI (pHv (h 85) i), vI i] [] h Q) (x := 1) (n := 4) (by decide) ?_ (fun i i0 i3 r => ?_)
      · refine Runs.go 20 [4] ?_
        exact br.t (by omega) (k _ Same.rf)
      · refine Runs.go 20 [4] ?_
        refine br.f (by omega) ?_
        refine K _ _ _ (by omega) ?_
        refine K _ _ _ (pHv_r i (by omega) (by omega)) ?_
        rw [pHv_s (by omega)] at r
        refine br.i (fun c => ⟨by omega, ?_⟩) (fun c => ⟨by omega, ?_⟩)
        · rw [if_neg (by omega)] at r
          exact r
        · rw [if_pos (by omega)] at r
          exact r
    rw [e1] at R0
    exact R0
/-- a set has k -/
def pHas (s k : Int) : Prop := iAnd (iShr s k) 1 = 1
theorem c_has' {s k : Int} : (iAnd (iShr s k) 1 = 1) = pHas s k := rfl
/-- drops above the brims of the kinds of a set -/
def pTears (a : aA) (p s : Int) (i : Int) : Int := fI (fun y k => if iAnd (iShr s k) 1 = 1 then y + max 0 (pExc a p k (pRoom a p)) else y) 0 i
theorem pTears_s {a : aA} {p s i : Int} (h : 0 ≤ i) : pTears a p s (i + 1) = if iAnd (iShr s i) 1 = 1 then pTears a p s i + max 0 (pExc a p i (pRoom a p)) else pTears a p s i := fI_s (st := fun y k => if iAnd (iShr s k) 1 = 1 then y + max 0 (pExc a p k (pRoom a p)) else y) h
theorem pTears_r {a : aA} (w : Wf a) {p s : Int} (hp : 0 ≤ p ∧ p < 6) : ∀ i, 0 ≤ i → i ≤ 3 → 0 ≤ pTears a p s i ∧ pTears a p s i ≤ 999 * i := by
  refine fI_i (st := fun y k => if iAnd (iShr s k) 1 = 1 then y + max 0 (pExc a p k (pRoom a p)) else y) (n := 3) (fun i s => 0 ≤ s ∧ s ≤ 999 * i) (by omega) (fun i y i0 i6 z => ?_)
  have q := w.room hp
  have r := w.exc hp (k := i) ⟨i0, i6⟩ (room := pRoom a p) (by omega)
  show 0 ≤ (if iAnd (iShr s i) 1 = 1 then y + max 0 (pExc a p i (pRoom a p)) else y) ∧ (if iAnd (iShr s i) 1 = 1 then y + max 0 (pExc a p i (pRoom a p)) else y) ≤ 999 * (i + 1)
  by_cases c : iAnd (iShr s i) 1 = 1
  · rw [if_pos c]; omega
  · rw [if_neg c]; omega
theorem c_tearsFor {d : Nat} {p s : Int} {h : Hp} {Q : aPO} {a : aA} {n : Int} (I : CG h 2 a n) (hn : n ≤ 30000) (h1 : 0 ≤ p ∧ p < 6) (k : Q (vI (pTears a p s 3)) h) : Runs (d + 2) 34 0 [vA 2, vI p, vI s, none, none, none] [] h Q := by
  have w := I.wf hn
  have q := w.room h1
  refine Runs.go 10 [12] ?_
  refine c_room I h1 ?_
  refine downI (R := fun i => Runs (d + 2) 34 12 [vA 2, vI p, vI s, vI (pRoom a p), vI (pTears a p s i), vI i] [] h Q) (x := 0) (n := 3) (by decide) ?_ (fun i i0 i3 r => ?_)
  · refine Runs.go 10 [] ?_
    exact br.t (by omega) k
  · refine Runs.go 50 [12] ?_
    refine br.f (by omega) ?_
    rw [pTears_s i0] at r
    refine br.i (fun c => ?_) (fun c => ?_)
    · rw [if_neg c] at r
      exact ⟨by omega, r⟩
    · refine c_above I h1 ⟨i0, i3⟩ (room := pRoom a p) (by omega) ?_
      have z := w.exc h1 (k := i) ⟨i0, i3⟩ (room := pRoom a p) (by omega)
      have z2 := pTears_r w (s := s) h1 i i0 (by omega)
      rw [if_pos (Decidable.not_not.mp c)] at r
      exact ⟨by omega, ⟨by omega, r⟩⟩
/-- all kinds -/
def pExA (a : aA) (p : Int) (i : Int) : Int := fI (fun y k => y + (if 0 < pExc a p k (pRoom a p) then pExc a p k (pRoom a p) else 0)) 0 i
theorem pExA_s {a : aA} {p i : Int} (h : 0 ≤ i) : pExA a p (i + 1) = pExA a p i + (if 0 < pExc a p i (pRoom a p) then pExc a p i (pRoom a p) else 0) := fI_s (st := fun y k => y + (if 0 < pExc a p k (pRoom a p) then pExc a p k (pRoom a p) else 0)) h
theorem has7 {k : Int} (h : 0 ≤ k ∧ k < 3) : iAnd (iShr 7 k) 1 = 1 := by
  have : k = 0 ∨ k = 1 ∨ k = 2 := by omega
  rcases this with z | z | z <;> subst z <;> decide +kernel
theorem pExA_t {a : aA} {p : Int} : ∀ i, 0 ≤ i → i ≤ 3 → pExA a p i = pTears a p 7 i := by
  refine fI_c (n := 3) (fun i y i0 i3 => ?_)
  show y + _ = if _ then _ else _
  rw [if_pos (has7 ⟨i0, i3⟩)]
  split <;> omega
theorem r_excessOf {d : Nat} {p : Int} {h : Hp} {Q : aPO} (w : Wf (h 85)) (h1 : 0 ≤ p ∧ p < 6) (k : Q (vI (pTears (h 85) p 7 3)) h) : Runs (d + 3) 268 0 [vA 84, vI p, none, none] [] h Q := by
  have q := w.room h1
  rw [← pExA_t 3 (by decide) (by decide)] at k
  refine Runs.go 10 [4] ?_
  refine downI (R := fun i => Runs (d + 3) 268 4 [vA 84, vI p, vI (pExA (h 85) p i), vI i] [] h Q) (x := 0) (n := 3) (by decide) ?_ (fun i i0 i3 r => ?_)
  · refine Runs.go 10 [] ?_
    exact br.t (by omega) k
  · refine Runs.go 50 [4] ?_
    refine br.f (by omega) ?_
    refine r_isOver w h1 ⟨i0, i3⟩ ?_
    have z := w.exc h1 (k := i) ⟨i0, i3⟩ (room := pRoom (h 85) p) (by omega)
    have z2 := pTears_r w (s := 7) h1 i i0 (by omega)
    rw [← pExA_t i i0 (by omega)] at z2
    rw [pExA_s i0] at r
    refine br.i (fun c => ?_) (fun c => ?_)
    · rw [if_neg (b2i_z c)] at r
      exact ⟨by omega, ⟨by omega, r⟩⟩
    · rw [if_pos (b2i_nz c)] at r
      refine r_roomOf w h1 ?_
      refine r_excess w h1 ⟨i0, i3⟩ (room := pRoom (h 85) p) (by omega) ?_
      exact ⟨by omega, ⟨by omega, r⟩⟩
def pWo (a : aA) (i : Int) : Int × Int := fI (fun s p => if s.2 < pTears a p 7 3 then (p, pTears a p 7 3) else s) (-1, 0) i
theorem pWo_s {a : aA} {i : Int} (h : 0 ≤ i) : pWo a (i + 1) = if (pWo a i).2 < pTears a i 7 3 then (i, pTears a i 7 3) else pWo a i := fI_s (st := fun (s : Int × Int) p => if s.2 < pTears a p 7 3 then (p, pTears a p 7 3) else s) h
theorem c_worst {d : Nat} {h : Hp} {Q : aPO} {a : aA} {n : Int} (I : CG h 2 a n) (hn : n ≤ 30000) (k : Q (vI (pWo a (a 0)).1) h) : Runs (d + 3) 37 0 [vA 2, none, none, none, none] [] h Q := by
  have q0 : h 2 0 = a 0 ∧ 0 ≤ a 0 ∧ a 0 ≤ 6 := I.num.1
  refine Runs.go 20 [6] ?_
  refine downI (R := fun i => ∀ u, Runs (d + 3) 37 6 [vA 2, vI (pWo a i).1, vI (pWo a i).2, vI i, u] [] h Q) (x := 0) (n := a 0) q0.2.1 ?_ (fun i i0 i3 r => ?_) _
  · intro u
    refine Runs.go 10 [] ?_
    exact br.t (show h 2 0 ≤ a 0 by omega) k
  · intro u
    refine Runs.go 50 [6] ?_
    refine br.f (show ¬ h 2 0 ≤ i by omega) ?_
    refine c_tearsFor I hn (by omega) ?_
    have r1 := r (vI (pTears a i 7 3))
    rw [pWo_s i0] at r1
    refine br.i (fun c => ⟨by omega, ?_⟩) (fun c => ⟨by omega, ?_⟩)
    · rw [if_neg (by omega)] at r1
      exact r1
    · rw [if_pos (by omega)] at r1
      exact r1
theorem o_worst : op_worst Inv := by
  intro x hx
  refine opR (fun a _ => (pWo a (a 0)).1) (fun h L n Q I hn t k => ?_) (fun h L Q w t k => ?_)
  · refine Runs.go 20 [] ?_
    exact c_worst I hn (k _ Same.rf)
  · have q0 := w.p0
    refine Runs.go 20 [6] ?_
    refine downI (R := fun i => Runs 150 269 6 [vA 84, vI (pWo (h 85) i).1, vI (pWo (h 85) i).2, vI i] [] h Q) (x := 0) (n := h 85 0) q0.1 ?_ (fun i i0 i3 r => ?_)
    · refine Runs.go 10 [] ?_
      exact ⟨by decide, br.t (show h 85 0 ≤ h 85 0 by omega) (k _ Same.rf)⟩
    · refine Runs.go 50 [6] ?_
      refine ⟨by decide, br.f (show ¬ h 85 0 ≤ i by omega) ?_⟩
      refine r_excessOf w (by omega) ?_
      rw [pWo_s i0] at r
      refine br.i (fun c => ?_) (fun c => ⟨by omega, ?_⟩)
      · rw [if_pos (by omega)] at r
        refine r_excessOf w (by omega) ?_
        exact ⟨by omega, r⟩
      · rw [if_neg (by omega)] at r
        exact r
