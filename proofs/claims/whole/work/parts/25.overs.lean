/-! OVERS -/
def ov3 (a b c : Int) : Int := b2i (0 < a) + 2 * b2i (0 < b) + 4 * b2i (0 < c)
theorem ov3_or (a b c : Int) : iOr (iOr (iOr 0 (if 0 < a then iShl 1 0 else 0)) (if 0 < b then iShl 1 (0 + 1) else 0)) (if 0 < c then iShl 1 (0 + 1 + 1) else 0) = ov3 a b c := by
  unfold ov3 b2i
  by_cases x : 0 < a <;> by_cases y : 0 < b <;> by_cases z : 0 < c <;> simp only [x, y, z, if_true, if_false] <;> decide
theorem Inv.itOvers {n d : Nat} {p s j : Int} {h : Hp} {Q : aPO} (I : Inv n h) (h1 : 0 ≤ p ∧ p < 6) (h2 : 0 ≤ j ∧ j < 3) (k : Runs (d + 3) 176 4 [vA 84, vI p, vI (iOr s (if 0 < excR h p j (roomR h p) then iShl 1 j else 0)), vI (j + 1)] [] h Q) : Runs (d + 3) 176 4 [vA 84, vI p, vI s, vI j] [] h Q := by
  refine Runs.go 50 [4] ?_
  refine br.i (fun c => absurd c (by omega)) (fun _ => ?_)
  refine I.sIsOver h1 h2 ?_
  refine br.i (fun c => ?_) (fun c => ?_)
  · rw [if_neg (b2i_z c)] at k
    exact ⟨by omega, k⟩
  · rw [if_pos (b2i_nz c)] at k
    exact ⟨by omega, k⟩
theorem Inv.sOvers {n d : Nat} {p : Int} {h : Hp} {Q : aPO} (I : Inv n h) (h1 : 0 ≤ p ∧ p < 6) (k : Q (vI (ov3 (excR h p 0 (roomR h p)) (excR h p 1 (roomR h p)) (excR h p 2 (roomR h p)))) h) : Runs (d + 3) 176 0 [vA 84, vI p, none, none] [] h Q := by
  refine Runs.go 10 [4] ?_
  refine I.itOvers h1 (by decide) (I.itOvers h1 (by decide) (I.itOvers h1 (by decide) ?_))
  refine Runs.go 10 [] ?_
  refine br.i (fun _ => ?_) (fun c => absurd (by decide) c)
  exact QI k (ov3_or _ _ _)
