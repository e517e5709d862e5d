/-! CALLS: even, a proper side is evener than all on one -/
theorem dSd_lt {a : aA} (w : Wf a) {s P : Int} : ∀ i, 0 ≤ i → i ≤ 6 → (- dSd a P P i ≤ dSd a P s i ∧ dSd a P s i ≤ dSd a P P i) ∧ (∀ k, 0 ≤ k → k < i → bt P k → ¬ bt s k → dSd a P s i < dSd a P P i) ∧ (∀ k, 0 ≤ k → k < i → bt P k → bt s k → - dSd a P P i < dSd a P s i) := by
  refine fI_i (st := fun y p => if bt P p then y + (if bt s p then pRoom a p else - pRoom a p) else y) (n := 6) (fun i y => (- dSd a P P i ≤ y ∧ y ≤ dSd a P P i) ∧ (∀ k, 0 ≤ k → k < i → bt P k → ¬ bt s k → y < dSd a P P i) ∧ (∀ k, 0 ≤ k → k < i → bt P k → bt s k → - dSd a P P i < y)) ⟨⟨show -(0 : Int) ≤ 0 by decide, show (0 : Int) ≤ 0 by decide⟩, fun k x y => by omega, fun k x y => by omega⟩ (fun i y i0 i6 z => ?_)
  have q := w.room ⟨i0, i6⟩
  obtain ⟨z1, z2, z3⟩ := z
  have e := dSd_s (a := a) (P := P) (s := P) i0
  rw [e]
  by_cases c : bt P i
  · rw [if_pos c, if_pos c, if_pos c]
    by_cases g : bt s i
    · rw [if_pos g]
      refine ⟨by omega, fun k x y b1 b2 => ?_, fun k x y b1 b2 => by omega⟩
      have : k ≠ i := fun e => b2 (e ▸ g)
      have := z2 k x (by omega) b1 b2
      omega
    · rw [if_neg g]
      refine ⟨by omega, fun k x y b1 b2 => by omega, fun k x y b1 b2 => ?_⟩
      have : k ≠ i := fun e => g (e ▸ b2)
      have := z3 k x (by omega) b1 b2
      omega
  · rw [if_neg c, if_neg c]
    refine ⟨z1, fun k x y b1 b2 => ?_, fun k x y b1 b2 => ?_⟩
    · have : k ≠ i := fun e => c (e ▸ b1)
      exact z2 k x (by omega) b1 b2
    · have : k ≠ i := fun e => c (e ▸ b1)
      exact z3 k x (by omega) b1 b2
theorem bp_t : ∀ s P : Fin 64, iAnd s.val (iXor P.val (-1)) = 0 → s.val ≠ P.val → s.val ≠ 0 → (∃ k : Fin 6, bt P.val k.val ∧ ¬ bt s.val k.val) ∧ (∃ k : Fin 6, bt P.val k.val ∧ bt s.val k.val) := by decide +kernel
theorem bn_t : ∀ n : Fin 7, ∀ P : Fin 64, ∀ k : Fin 6, (P.val : Int) < iShl 1 n.val → bt P.val k.val → k.val < n.val := by decide +kernel
