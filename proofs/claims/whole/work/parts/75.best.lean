/-! CALLS: even, the evenest side is one -/
def Bst (V : Int → Prop) (D : Int → Int) (P x : Int) : Prop := V x ∧ (1 ≤ x ∧ x ≤ P) ∧ ∀ s, 1 ≤ s → s ≤ P → V s → D x ≤ D s ∧ (s < x → D x < D s)
theorem Bst_one {V : Int → Prop} {D : Int → Int} {P x y : Int} (hx : Bst V D P x) (hy : Bst V D P y) : x = y := by
  have q1 := hx.2.2 y hy.2.1.1 hy.2.1.2 hy.1
  have q2 := hy.2.2 x hx.2.1.1 hx.2.1.2 hx.1
  by_cases c : x < y
  · have := q2.2 c
    omega
  · by_cases c2 : y < x
    · have := q1.2 c2
      omega
    · omega
theorem vl_t : ∀ P : Fin 64, P.val ≠ 0 → (0 < iAnd P.val (-(P.val : Int)) ∧ iAnd P.val (-(P.val : Int)) ≤ P.val ∧ iAnd P.val (iAnd P.val (-(P.val : Int))) ≠ 0 ∧ iAnd P.val (iXor P.val (-1)) = 0) ∧ ∀ s : Fin 64, (iAnd s.val P.val = s.val ↔ iAnd s.val (iXor P.val (-1)) = 0) ∧ ((s.val : Int) < iAnd P.val (-(P.val : Int)) → iAnd s.val (iAnd P.val (-(P.val : Int))) = 0) := by decide +kernel
