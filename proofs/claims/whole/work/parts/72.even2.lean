/-! CALLS: even, both measures are one -/
theorem bt_r {s P k : Int} (hs : 0 ≤ s ∧ s < 64) (hP : 0 ≤ P ∧ P < 64) (hk : 0 ≤ k ∧ k < 6) (e : iAnd s (iXor P (-1)) = 0) : (bt s k → bt P k) ∧ (bt (iAnd P (iXor s (-1))) k ↔ bt P k ∧ ¬ bt s k) := by
  have q := bt_t ⟨k.toNat, by omega⟩ ⟨s.toNat, by omega⟩ ⟨P.toNat, by omega⟩
  simp only [Int.toNat_of_nonneg hs.1, Int.toNat_of_nonneg hP.1, Int.toNat_of_nonneg hk.1] at q
  exact q e
theorem dSd_rSd {a : aA} {s P : Int} (hs : 0 ≤ s ∧ s < 64) (hP : 0 ≤ P ∧ P < 64) (e : iAnd s (iXor P (-1)) = 0) : ∀ i, 0 ≤ i → i ≤ 6 → dSd a P s i = rSd a s i - rSd a (iAnd P (iXor s (-1))) i := by
  refine fI_i (st := fun y p => if bt P p then y + (if bt s p then pRoom a p else - pRoom a p) else y) (n := 6) (fun i y => y = rSd a s i - rSd a (iAnd P (iXor s (-1))) i) rfl (fun i y i0 i6 z => ?_)
  have q := bt_r (k := i) hs hP ⟨i0, i6⟩ e
  show (if bt P i then y + (if bt s i then pRoom a i else - pRoom a i) else y) = _
  rw [rSd_s i0, rSd_s i0]
  by_cases c : bt P i
  · rw [if_pos c]
    by_cases g : bt s i
    · rw [if_pos g, if_pos g, if_neg (fun x => (q.2.mp x).2 g)]
      omega
    · rw [if_neg g, if_neg g, if_pos (q.2.mpr ⟨c, g⟩)]
      omega
  · rw [if_neg c, if_neg (fun x => c (q.1 x)), if_neg (fun x => c (q.2.mp x).1)]
    omega
