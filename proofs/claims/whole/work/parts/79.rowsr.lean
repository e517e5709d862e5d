/-! CALLS: round, the reference's rows -/
section RR
variable {h : Hp} {Q : aPO} {d : Nat} {n : Nat}
/-- the row at 94 is f, over its first n -/
def rwA (n : Nat) (h : Hp) (f : Int → Int) : Prop := ∀ j, 0 ≤ j → j < (n : Int) → h 94 j = f j
theorem rwA_swp {f : Int → Int} {x y : Int} (A : rwA n h f) (hx : 0 ≤ x ∧ x < (n : Int)) (hy : 0 ≤ y ∧ y < (n : Int)) : rwA n (hup (hup h 94 x (h 94 y)) 94 y (h 94 x)) (swp f x y) := by
  intro j j0 j1
  unfold swp
  rw [hup_s, hup_s]
  unfold aset
  rw [A x hx.1 hx.2, A y hy.1 hy.2]
  split
  · rfl
  · split
    · rfl
    · exact A j j0 j1
theorem dn1_p {f : Int → Int} : ∀ i : Nat, dn1 f i ≤ i ∧ (0 < dn1 f i → f (dn1 f i) ≤ f ((dn1 f i : Int) + 1)) := by
  intro i
  induction i with
  | zero => exact ⟨Nat.le_refl 0, fun z => absurd z (Nat.lt_irrefl 0)⟩
  | succ i ih =>
    unfold dn1
    split
    · rename_i c
      exact ⟨by omega, fun _ => c⟩
    · exact ⟨by omega, ih.2⟩
theorem dn2_p {f : Int → Int} {v : Int} {i : Nat} (hi : v ≤ f ((i : Int) + 1)) : ∀ k : Nat, i + 1 ≤ k → i + 1 ≤ dn2 f v k ∧ dn2 f v k ≤ k := by
  intro k
  induction k with
  | zero => intro z; omega
  | succ k ih =>
    intro z
    unfold dn2
    split
    · omega
    · rename_i c
      by_cases e : k = i
      · subst e; exact absurd hi c
      · have := ih (by omega)
        omega
theorem r_rvs : ∀ (t : Nat) (h : Hp) (f : Int → Int) (x y : Int) (u v : AV), n ≤ 6 → rwA n h f → 0 ≤ x → x ≤ 7 → y < (n : Int) → y ≤ x + t → -1 ≤ y →
    (∀ h1, rwA n h1 (rvs t f x y) → (∀ o, o ≠ 94 → h1 o = h o) → Q (vI 1) h1) → ∀ z1 z2 z3 z4 : Int, Runs d 287 107 [vA 84, vI z1, vI z2, vI z3, vI z4, vI x, vI y] [] h Q := by
  intro t
  induction t with
  | zero =>
    intro h f x y u v hn A x0 x7 y1 yt y0 k z1 z2 z3 z4
    refine Runs.go 10 [] ?_
    refine br.t (by omega) ?_
    exact ⟨by omega, k h A (fun o _ => rfl)⟩
  | succ t ih =>
    intro h f x y u v hn A x0 x7 y1 yt y0 k z1 z2 z3 z4
    unfold rvs at k
    refine Runs.go 60 [107] ?_
    refine br.i (fun c => ?_) (fun c => ?_)
    · rw [if_pos c] at k
      exact ⟨by omega, k h A (fun o _ => rfl)⟩
    · rw [if_neg c] at k
      have b1 : 0 ≤ x ∧ x < (6 : Int) := by omega
      have b2 : 0 ≤ y ∧ y < (6 : Int) := by omega
      refine ⟨b1, ⟨b2, ⟨b1, ⟨b2, ?_⟩⟩⟩⟩
      refine ⟨by omega, ⟨by omega, ?_⟩⟩
      refine ih (hup (hup h 94 x (h 94 y)) 94 y (h 94 x)) (swp f x y) (x + 1) (y + -1) u v hn (rwA_swp A (by omega) (by omega)) (by omega) (by omega) (by omega) (by omega) (by omega) (fun h1 q1 q2 => k h1 q1 (fun o o1 => ?_)) _ _ _ _
      rw [q2 o o1, hup_o o1, hup_o o1]
/-- the next row -/
theorem r_next {f : Int → Int} (e0 : h 85 0 = (n : Int)) (hn : 2 ≤ n ∧ n ≤ 6) (A : rwA n h f)
    (k0 : nxI n f = 0 → Q (vI 0) h) (k1 : 0 < nxI n f → ∀ h1, rwA n h1 (nxF n f) → (∀ o, o ≠ 94 → h1 o = h o) → Q (vI 1) h1) : Runs d 287 0 [vA 84, none, none, none, none, none, none] [] h Q := by
  have P1 := dn1_p (f := f) (n - 2)
  have K : Runs d 287 38 [vA 84, vI n, vI (nxI n f), none, none, none, none] [] h Q := by
    refine Runs.go 10 [44] ?_
    refine br.j (fun c => ⟨by omega, k0 (by omega)⟩) (fun c => ?_)
    have i0 : 0 < nxI n f := by omega
    have i1 : nxI n f ≤ n - 2 := P1.1
    have ff : f (nxI n f) ≤ f ((nxI n f : Int) + 1) := P1.2 i0
    have P2 := dn2_p (f := f) (v := f (nxI n f)) (i := nxI n f) ff (n - 1) (by omega)
    have k2 := k1 i0
    have k3 : nxI n f + 1 ≤ nxK n f ∧ nxK n f ≤ n - 1 := P2
    unfold nxF at k2
    have ek : nxK n f = dn2 f (f (nxI n f)) (n - 1) := rfl
    generalize nxI n f = i at *
    have b1 : (0 : Int) ≤ (i : Int) ∧ (i : Int) < (6 : Int) := by omega
    have K2 : Runs d 287 69 [vA 84, vI n, vI i, vI (nxK n f), none, none, none] [] h Q := by
      generalize nxK n f = kk at *
      have b2 : (0 : Int) ≤ (kk : Int) ∧ (kk : Int) < (6 : Int) := by omega
      refine Runs.go 60 [107] ?_
      refine ⟨b1, ⟨b2, ⟨b1, ⟨b2, ⟨by omega, ⟨by omega, ?_⟩⟩⟩⟩⟩⟩
      refine r_rvs 6 (hup (hup h 94 i (h 94 kk)) 94 kk (h 94 i)) (swp f i kk) _ _ none none (by omega) (rwA_swp A (by omega) (by omega)) (by omega) (by omega) (by omega) (by omega) (by omega) (fun h1 q1 q2 => k2 h1 q1 (fun o o1 => ?_)) _ _ _ _
      rw [q2 o o1, hup_o o1, hup_o o1]
    have L2 : ∀ m : Nat, i + 1 ≤ m → m ≤ n - 1 → dn2 f (f i) m = nxK n f → Runs d 287 48 [vA 84, vI n, vI i, vI m, none, none, none] [] h Q := by
      intro m
      induction m with
      | zero => intro z; omega
      | succ m ih =>
        intro z1 z2 e
        unfold dn2 at e
        have a1 := A ((m : Int) + 1) (by omega) (by omega)
        have a2 := A (i : Int) (by omega) (by omega)
        have em : ((m + 1 : Nat) : Int) = (m : Int) + 1 := by omega
        rw [em]
        refine Runs.go 30 [48, 69] ?_
        refine ⟨show 0 ≤ (m : Int) + 1 ∧ (m : Int) + 1 < (6 : Int) by omega, ⟨b1, ?_⟩⟩
        refine br.i (fun c => ?_) (fun c => ?_)
        · have c' : h 94 (i : Int) ≤ h 94 ((m : Int) + 1) := c
          rw [a1, a2] at c'
          rw [if_pos c'] at e
          rw [← e, em] at K2
          exact K2
        · have c' : ¬ h 94 (i : Int) ≤ h 94 ((m : Int) + 1) := c
          rw [a1, a2] at c'
          rw [if_neg c'] at e
          refine ⟨by omega, ?_⟩
          have : m ≠ i := fun z => c' (z ▸ ff)
          have R := ih (by omega) (by omega) e
          rw [show (m : Int) + 1 + -1 = (m : Int) by omega]
          exact R
    refine Runs.go 10 [48] ?_
    refine ⟨by omega, ?_⟩
    have R := L2 (n - 1) (by omega) (by omega) ek.symm
    rw [show ((n - 1 : Nat) : Int) = (n : Int) - 1 by omega] at R
    exact R
  have L1 : ∀ m : Nat, m ≤ n - 2 → dn1 f m = nxI n f → Runs d 287 11 [vA 84, vI n, vI m, none, none, none, none] [] h Q := by
    intro m
    induction m with
    | zero =>
      intro z e
      refine Runs.go 10 [38] ?_
      refine br.t (by omega) ?_
      rw [← e] at K
      exact K
    | succ m ih =>
      intro z e
      unfold dn1 at e
      have a1 := A ((m : Int) + 1) (by omega) (by omega)
      have a2 := A ((m : Int) + 1 + 1) (by omega) (by omega)
      have em : ((m + 1 : Nat) : Int) = (m : Int) + 1 := by omega
      rw [em]
      refine Runs.go 30 [11, 38] ?_
      refine br.f (by omega) ?_
      refine ⟨show 0 ≤ (m : Int) + 1 ∧ (m : Int) + 1 < (6 : Int) by omega, ⟨by omega, ⟨show 0 ≤ (m : Int) + 1 + 1 ∧ (m : Int) + 1 + 1 < (6 : Int) by omega, ?_⟩⟩⟩
      refine br.i (fun c => ?_) (fun c => ?_)
      · have c' : h 94 ((m : Int) + 1) ≤ h 94 ((m : Int) + 1 + 1) := c
        rw [a1, a2] at c'
        rw [if_pos c'] at e
        rw [← e, em] at K
        exact K
      · have c' : ¬ h 94 ((m : Int) + 1) ≤ h 94 ((m : Int) + 1 + 1) := c
        rw [a1, a2] at c'
        rw [if_neg c'] at e
        refine ⟨by omega, ?_⟩
        have R := ih (by omega) e
        rw [show (m : Int) + 1 + -1 = (m : Int) by omega]
        exact R
  have N : ∀ y : Int, y = (n : Int) → Runs d 287 7 [vA 84, vI y, none, none, none, none, none] [] h Q := by
    intro y e
    rw [e]
    refine Runs.go 10 [11] ?_
    refine ⟨by omega, ?_⟩
    have R := L1 (n - 2) (by omega) rfl
    rw [show ((n - 2 : Nat) : Int) = (n : Int) - 2 by omega] at R
    exact R
  refine Runs.go 10 [7] ?_
  exact ⟨by decide, N _ e0⟩
/-- the length of the round that lies there -/
theorem r_length {f : Int → Int} (w : Wf (h 85)) (e0 : h 85 0 = (n : Int)) (hn : 2 ≤ n ∧ n ≤ 6) (A : rwA n h f) (fr : ∀ j, 0 ≤ j → j < (n : Int) → 0 ≤ f j ∧ f j < 6) (f0 : f 0 = 0) (k : Q (vI (totL (h 85) n f)) h) : Runs d 286 0 [vA 84, none, none] [] h Q := by
  refine Runs.go 20 [4] ?_
  have R0 : ∀ y : Int, y = plL (h 85) f 0 → Runs d 286 4 [vA 84, vI y, vI 0] [] h Q := by
    intro y e
    rw [e]
    refine downI (R := fun i => Runs d 286 4 [vA 84, vI (plL (h 85) f i), vI i] [] h Q) (x := 0) (n := (n : Int) - 1) (by omega) ?_ (fun i i0 i3 r => ?_)
    · have b := plL_r w (f := f) (n := (n : Int) - 1) (fun j x y => fr j x (by omega)) ((n : Int) - 1) (by omega) (by omega)
      have a1 := A ((n : Int) - 1) (by omega) (by omega)
      have a2 := A 0 (by omega) (by omega)
      have r1 := fr ((n : Int) - 1) (by omega) (by omega)
      have wy := w.way (k := f ((n : Int) - 1) * 6) (by omega)
      have E : h 85 (86 + 6 * h 94 ((n : Int) - 1) + h 94 0) = h 85 (86 + f ((n : Int) - 1) * 6) := by
        rw [a1, a2, f0]
        congr 1
        omega
      refine Runs.go 60 [] ?_
      refine ⟨by decide, br.f (show ¬ h 85 0 ≤ (n : Int) - 1 by omega) ?_⟩
      refine ⟨show 0 ≤ (n : Int) - 1 ∧ (n : Int) - 1 < (6 : Int) by omega, ⟨show -2147483648 ≤ 6 * h 94 ((n : Int) - 1) ∧ 6 * h 94 ((n : Int) - 1) < 2147483648 by omega, ⟨show -2147483648 ≤ 86 + 6 * h 94 ((n : Int) - 1) ∧ 86 + 6 * h 94 ((n : Int) - 1) < 2147483648 by omega, ⟨by omega, ⟨by decide, ?_⟩⟩⟩⟩⟩
      refine br.t (show h 85 0 ≤ (n : Int) - 1 + 1 by omega) ?_
      refine ⟨by decide, ⟨show -2147483648 ≤ 86 + 6 * h 94 ((n : Int) - 1) + h 94 0 ∧ 86 + 6 * h 94 ((n : Int) - 1) + h 94 0 < 2147483648 by omega, ?_⟩⟩
      refine ⟨show 0 ≤ 86 + 6 * h 94 ((n : Int) - 1) + h 94 0 ∧ 86 + 6 * h 94 ((n : Int) - 1) + h 94 0 < (3856 : Int) by omega, ?_⟩
      have T : plL (h 85) f ((n : Int) - 1) + h 85 (86 + 6 * h 94 ((n : Int) - 1) + h 94 0) = totL (h 85) n f := by rw [E]; rfl
      refine ⟨show -2147483648 ≤ plL (h 85) f ((n : Int) - 1) + h 85 (86 + 6 * h 94 ((n : Int) - 1) + h 94 0) ∧ plL (h 85) f ((n : Int) - 1) + h 85 (86 + 6 * h 94 ((n : Int) - 1) + h 94 0) < 2147483648 by omega, ?_⟩
      refine ⟨by omega, ⟨by decide, br.t (show h 85 0 ≤ (n : Int) - 1 + 1 by omega) ?_⟩⟩
      exact QI k T
    · have b := plL_r w (f := f) (n := (n : Int) - 1) (fun j x y => fr j x (by omega)) i i0 (by omega)
      have a1 := A i (by omega) (by omega)
      have a2 := A (i + 1) (by omega) (by omega)
      have r1 := fr i (by omega) (by omega)
      have r2 := fr (i + 1) (by omega) (by omega)
      have wy := w.way (k := f i * 6 + f (i + 1)) (by omega)
      have E : h 85 (86 + 6 * h 94 i + h 94 (i + 1)) = h 85 (86 + (f i * 6 + f (i + 1))) := by
        rw [a1, a2]
        congr 1
        omega
      rw [plL_s i0, ← E] at r
      refine Runs.go 60 [4] ?_
      refine ⟨by decide, br.f (show ¬ h 85 0 ≤ i by omega) ?_⟩
      refine ⟨show 0 ≤ i ∧ i < (6 : Int) by omega, ⟨show -2147483648 ≤ 6 * h 94 i ∧ 6 * h 94 i < 2147483648 by omega, ⟨show -2147483648 ≤ 86 + 6 * h 94 i ∧ 86 + 6 * h 94 i < 2147483648 by omega, ⟨by omega, ⟨by decide, ?_⟩⟩⟩⟩⟩
      refine br.f (show ¬ h 85 0 ≤ i + 1 by omega) ?_
      refine ⟨by omega, ⟨show 0 ≤ i + 1 ∧ i + 1 < (6 : Int) by omega, ⟨show -2147483648 ≤ 86 + 6 * h 94 i + h 94 (i + 1) ∧ 86 + 6 * h 94 i + h 94 (i + 1) < 2147483648 by omega, ?_⟩⟩⟩
      refine ⟨show 0 ≤ 86 + 6 * h 94 i + h 94 (i + 1) ∧ 86 + 6 * h 94 i + h 94 (i + 1) < (3856 : Int) by omega, ?_⟩
      refine ⟨show -2147483648 ≤ plL (h 85) f i + h 85 (86 + 6 * h 94 i + h 94 (i + 1)) ∧ plL (h 85) f i + h 85 (86 + 6 * h 94 i + h 94 (i + 1)) < 2147483648 by omega, ?_⟩
      exact ⟨by omega, r⟩
  exact R0 0 rfl
end RR
