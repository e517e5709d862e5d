/-! OVERS -/
def ov3 (a b c : Int) : Int := b2i (0 < a) + 2 * b2i (0 < b) + 4 * b2i (0 < c)
theorem ov3_or (a b c : Int) : iOr (iOr (iOr 0 (if 0 < a then iShl 1 0 else 0)) (if 0 < b then iShl 1 (0 + 1) else 0)) (if 0 < c then iShl 1 (0 + 1 + 1) else 0) = ov3 a b c := by
  unfold ov3 b2i
  by_cases x : 0 < a <;> by_cases y : 0 < b <;> by_cases z : 0 < c <;> simp only [x, y, z, if_true, if_false] <;> decide
theorem Inv.itOvers {n d : Nat} {p s j : Int} {h : Hp} {Q : aPO} (I : Inv n h) (h1 : 0 ≤ p ∧ p < 6) (h2 : 0 ≤ j ∧ j < 3) (k : Runs (d + 3) 176 4 [vA 84, vI p, vI (iOr s (if 0 < excR h p j (roomR h p) then iShl 1 j else 0)), vI (j + 1)] [] h Q) : Runs (d + 3) 176 4 [vA 84, vI p, vI s, vI j] [] h Q := by
  refine Runs.go 50 [4] ?_
  refine br.i (fun c => absurd c (by omega)) (fun _ => ?_)
  refine I.sIsOver h1 h2 ?_
  refine br.i (fun c => ?_) (fun c => ?_)
  · rw [if_neg (b2i_z c)] at k
    exact ⟨by omega, k⟩
  · rw [if_pos (b2i_nz c)] at k
    exact ⟨by omega, k⟩
theorem Inv.sOvers {n d : Nat} {p : Int} {h : Hp} {Q : aPO} (I : Inv n h) (h1 : 0 ≤ p ∧ p < 6) (k : Q (vI (ov3 (excR h p 0 (roomR h p)) (excR h p 1 (roomR h p)) (excR h p 2 (roomR h p)))) h) : Runs (d + 3) 176 0 [vA 84, vI p, none, none] [] h Q := by
  refine Runs.go 10 [4] ?_
  refine I.itOvers h1 (by decide) (I.itOvers h1 (by decide) (I.itOvers h1 (by decide) ?_))
  refine Runs.go 10 [] ?_
  refine br.i (fun _ => ?_) (fun c => absurd (by decide) c)
  exact QI k (ov3_or _ _ _)
theorem Inv.cRoom {n d : Nat} {p : Int} {h : Hp} {Q : aPO} (I : Inv n h) (h1 : 0 ≤ p ∧ p < 6) (k : Q (vI (roomR h p)) h) : Runs (d + 1) 8 0 [vA 2, vI p] [] h Q := by
  have a := I.num.2.1
  have b : h 4 p = h 85 (12 + 9 * p + 0) ∧ _ := (I.per p h1.1 h1.2).2.1
  refine sp_room (by omega) (by omega) h1.1 h1.2 (QI k ?_)
  unfold roomC roomR
  rw [a.1, b.1]
theorem Inv.cAmount {n d : Nat} {p j : Int} {h : Hp} {Q : aPO} (I : Inv n h) (h1 : 0 ≤ p ∧ p < 6) (h2 : 0 ≤ j ∧ j < 4) (k : Q (vI (h 85 (12 + 9 * p + (2 + j)))) h) : Runs d 10 0 [vA 2, vI p, vI j] [] h Q :=
  sp_amount h1.1 h1.2 h2.1 h2.2 (QI k ((I.per p h1.1 h1.2).2.2.2.1 j h2.1 h2.2).1)
theorem Inv.cAbove {n d : Nat} {p j room : Int} {h : Hp} {Q : aPO} (I : Inv n h) (h1 : 0 ≤ p ∧ p < 6) (h2 : 0 ≤ j ∧ j < 3) (h8 : 0 ≤ room ∧ room ≤ 200) (k : Q (vI (excR h p j room)) h) : Runs (d + 1) 12 0 [vA 2, vI p, vI j, vI room] [] h Q := by
  have b : h 7 j = h 85 (66 + j) ∧ _ := I.brim j h2.1 h2.2
  have a : h 6 (p * 4 + j) = h 85 (12 + 9 * p + (2 + j)) ∧ _ := (I.per p h1.1 h1.2).2.2.2.1 j h2.1 (by omega)
  refine sp_above h1.1 h1.2 h2.1 h2.2 (by omega) h8 (by omega) (QI k ?_)
  unfold excR
  rw [a.1, b.1]
theorem Inv.itCOvers {n d : Nat} {p s j : Int} {h : Hp} {Q : aPO} (I : Inv n h) (h1 : 0 ≤ p ∧ p < 6) (h2 : 0 ≤ j ∧ j < 3) (k : Runs (d + 3) 13 9 [vA 2, vI p, vI (roomR h p), vI (iOr s (if 0 < excR h p j (roomR h p) then iShl 1 j else 0)), vI (j + 1)] [] h Q)
    (k0 : ¬ 0 < excR h p j (roomR h p) → Runs (d + 3) 13 9 [vA 2, vI p, vI (roomR h p), vI s, vI (j + 1)] [] h Q) : Runs (d + 3) 13 9 [vA 2, vI p, vI (roomR h p), vI s, vI j] [] h Q := by
  have r := I.room h1
  refine Runs.go 50 [9] ?_
  refine br.i (fun c => absurd c (by omega)) (fun _ => ?_)
  refine I.cAbove (room := roomR h p) h1 h2 (by omega) ?_
  refine br.i (fun c => ?_) (fun c => ?_)
  · exact ⟨by omega, k0 (by omega)⟩
  · rw [if_pos (by omega)] at k
    exact ⟨by omega, k⟩
theorem iOr_z (s : Int) (a : 0 ≤ s ∧ s < 8) : iOr s 0 = s := by
  have : s = 0 ∨ s = 1 ∨ s = 2 ∨ s = 3 ∨ s = 4 ∨ s = 5 ∨ s = 6 ∨ s = 7 := by omega
  rcases this with c | c | c | c | c | c | c | c <;> rw [c] <;> decide
theorem Inv.cOvers {n d : Nat} {p : Int} {h : Hp} {Q : aPO} (I : Inv n h) (h1 : 0 ≤ p ∧ p < 6) (k : Q (vI (ov3 (excR h p 0 (roomR h p)) (excR h p 1 (roomR h p)) (excR h p 2 (roomR h p)))) h) : Runs (d + 3) 13 0 [vA 2, vI p, none, none, none] [] h Q := by
  have E : ∀ s, s = ov3 (excR h p 0 (roomR h p)) (excR h p 1 (roomR h p)) (excR h p 2 (roomR h p)) → Runs (d + 3) 13 9 [vA 2, vI p, vI (roomR h p), vI s, vI (0 + 1 + 1 + 1)] [] h Q := by
    intro s e
    refine Runs.go 10 [] ?_
    refine br.i (fun _ => ?_) (fun c => absurd (by decide) c)
    exact QI k e
  refine Runs.go 10 [9] ?_
  refine I.cRoom h1 ?_
  refine I.itCOvers h1 (by decide) (I.itCOvers h1 (by decide) (I.itCOvers h1 (by decide) (E _ ?_) (fun a => E _ ?_)) (fun b => I.itCOvers h1 (by decide) (E _ ?_) (fun a => E _ ?_))) (fun e => I.itCOvers h1 (by decide) (I.itCOvers h1 (by decide) (E _ ?_) (fun a => E _ ?_)) (fun b => I.itCOvers h1 (by decide) (E _ ?_) (fun a => E _ ?_)))
  all_goals rw [← ov3_or]
  all_goals sorry
