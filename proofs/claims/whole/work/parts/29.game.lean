/-! CALLS: the game; the greatest divisor -/
def gI (p q : Int) : Int := (Nat.gcd p.toNat q.toNat : Nat)
theorem gI_0 {p : Int} (h : 0 ≤ p) : gI p 0 = p := by
  unfold gI
  rw [show (0 : Int).toNat = 0 from rfl, Nat.gcd_zero_right]
  omega
theorem gI_s {p q : Int} (h : 0 ≤ p) (h2 : 0 < q) : gI q (p % q) = gI p q := by
  unfold gI
  have e : (p % q).toNat = p.toNat % q.toNat := by
    have := Int.emod_nonneg p (show q ≠ 0 by omega)
    apply Int.ofNat_inj.mp
    rw [Int.toNat_of_nonneg this, Int.natCast_emod, Int.toNat_of_nonneg h, Int.toNat_of_nonneg (by omega)]
  rw [e, Nat.gcd_comm p.toNat, Nat.gcd_rec q.toNat p.toNat, Nat.gcd_comm]
theorem gI_p {p q : Int} (h : 0 < p ∨ 0 < q) : 0 < gI p q := by
  unfold gI
  have : 0 < Nat.gcd p.toNat q.toNat := by
    rcases h with h | h
    · exact Nat.gcd_pos_of_pos_left _ (by omega)
    · exact Nat.gcd_pos_of_pos_right _ (by omega)
  omega
theorem lc0 {x : Int} : lcI x 0 = 0 ↔ x = 0 := by
  unfold lcI
  split
  · omega
  · split <;> omega
theorem r_common {d : Nat} {x y : Int} {h : Hp} {Q : aPO} (h1 : 0 ≤ x) (h2 : 0 ≤ y) (k : Q (vL (gI x y)) h) : Runs d 279 0 [vL x, none, vL y, none, none, none, none, none, none, none] [] h Q := by
  have M : ∀ (m : Nat) (p q : Int) (u v : AV), q.toNat < m → 0 ≤ p → 0 ≤ q → Q (vL (gI p q)) h → Runs d 279 6 [vL x, none, vL y, none, vL p, none, vL q, none, u, v] [] h Q := by
    intro m
    induction m with
    | zero => intro p q u v z; omega
    | succ m ih =>
      intro p q u v z p0 q0 k
      refine Runs.go 20 [6] ?_
      refine br.i (fun c => ?_) (fun c => ?_)
      · have e := lc0.mp c
        rw [e, gI_0 p0] at k
        exact k
      · have e : q ≠ 0 := fun y => c (lc0.mpr y)
        refine ⟨⟨e, Or.inl p0⟩, ?_⟩
        have f := Int.emod_nonneg p e
        have g := Int.emod_lt_of_pos p (show 0 < q by omega)
        have t := Int.tmod_eq_emod_of_nonneg (b := q) p0
        have := ih q (p.tmod q) (vL (p.tmod q)) none (by rw [t]; omega) q0 (by rw [t]; exact f) (by rw [t, gI_s p0 (by omega)]; exact k)
        exact this
  refine Runs.go 20 [6] ?_
  exact M (y.toNat + 1) x y _ _ (by omega) h1 h2 k
theorem gI_half {p q : Int} {m : Nat} (h1 : 0 < q) (h2 : q ≤ p) (h : p * q < 2 ^ (m + 1)) : q * (p % q) < 2 ^ m := by
  have f := Int.emod_nonneg p (show q ≠ 0 by omega)
  have g := Int.emod_lt_of_pos p h1
  have e := Int.mul_ediv_add_emod p q
  have d1 : 1 ≤ p / q := (Int.le_ediv_iff_mul_le h1).mpr (by omega)
  have d2 : q * 1 ≤ q * (p / q) := Int.mul_le_mul_of_nonneg_left d1 (by omega)
  have d3 : q * (q + p % q) ≤ q * p := Int.mul_le_mul_of_nonneg_left (by omega) (by omega)
  have d4 : q * (p % q) ≤ q * q := Int.mul_le_mul_of_nonneg_left (by omega) (by omega)
  have d6 : 0 < q * (q - p % q) := Int.mul_pos h1 (by omega)
  rw [Int.mul_sub] at d6
  rw [Int.mul_add] at d3
  rw [Int.mul_comm p q] at h
  have : (2 : Int) ^ (m + 1) = 2 * 2 ^ m := by rw [Int.pow_succ, Int.mul_comm]
  omega
theorem c_gcd {d : Nat} {x y : Int} {h : Hp} {Q : aPO} (h1 : 0 ≤ x) (h2 : 0 ≤ y) (hm : x * y < 2 ^ 62) (k : Q (vL (gI x y)) h) : Runs d 25 0 [vL x, none, vL y, none, none, none, none] [] h Q := by
  have M : ∀ (m : Nat) (i p q : Int) (u v : AV), 0 ≤ i → i + m ≤ 199 → 0 ≤ q → q ≤ p → p * q < 2 ^ m → Q (vL (gI p q)) h → Runs d 25 3 [vL p, none, vL q, none, vI i, u, v] [] h Q := by
    intro m
    induction m with
    | zero =>
      intro i p q u v i0 im q0 qp z k
      have e : q = 0 := by
        by_cases e : q = 0
        · exact e
        · have := Int.mul_pos (show 0 < p by omega) (show 0 < q by omega)
          have : (2 : Int) ^ 0 = 1 := rfl
          omega
      refine Runs.go 20 [3] ?_
      refine br.f (by omega) ?_
      refine br.t (lc0.mpr e) ?_
      rw [e, gI_0 (by omega)] at k
      exact k
    | succ m ih =>
      intro i p q u v i0 im q0 qp z k
      refine Runs.go 20 [3] ?_
      refine br.f (by omega) ?_
      refine br.i (fun c => ?_) (fun c => ?_)
      · have e := lc0.mp c
        rw [e, gI_0 (by omega)] at k
        exact k
      · have e : q ≠ 0 := fun y => c (lc0.mpr y)
        refine ⟨⟨e, Or.inl (by omega)⟩, ⟨by omega, ?_⟩⟩
        have f := Int.emod_nonneg p e
        have g := Int.emod_lt_of_pos p (show 0 < q by omega)
        have t := Int.tmod_eq_emod_of_nonneg (b := q) (show 0 ≤ p by omega)
        have := ih (i + 1) q (p.tmod q) (vL (p.tmod q)) none (by omega) (by omega) (by rw [t]; exact f) (by rw [t]; omega) (by rw [t]; exact gI_half (by omega) qp z) (by rw [t, gI_s (by omega) (by omega)]; exact k)
        exact this
  have go1 : Runs d 25 3 [vL x, none, vL y, none, vI 0, none, none] [] h Q := by
    by_cases c : y ≤ x
    · exact M 62 0 x y _ _ (by omega) (by omega) h2 c hm k
    · refine Runs.go 20 [3] ?_
      refine br.f (by omega) ?_
      have e : y ≠ 0 := by omega
      refine br.f (fun z => e (lc0.mp z)) ?_
      refine ⟨⟨e, Or.inl (by omega)⟩, ⟨by omega, ?_⟩⟩
      have t := Int.tmod_eq_emod_of_nonneg (b := y) h1
      have t2 : x % y = x := Int.emod_eq_of_lt h1 (by omega)
      have := M 62 (0 + 1) y (x.tmod y) (vL (x.tmod y)) none (by omega) (by omega) (by rw [t, t2]; exact h1) (by rw [t, t2]; omega) (by rw [t, t2, Int.mul_comm]; exact hm) (by rw [t, gI_s h1 (by omega)]; exact k)
      exact this
  refine Runs.go 20 [3] ?_
  exact go1
def pAll (a : aA) : Int := a 162 * a 163 + a 162 * a 164 + a 163 * a 164
def pUp (a : aA) (k : Int) : Int := a (162 + (k + 1) % 3) * a (162 + (k + 2) % 3)
def pUpI (a : aA) (k : Int) (i : Int) : Int := fI (fun u o => u * (if o = k then 1 else a (162 + o))) 1 i
theorem pUpI_s {a : aA} {k i : Int} (h : 0 ≤ i) : pUpI a k (i + 1) = pUpI a k i * (if i = k then 1 else a (162 + i)) := fI_s (st := fun u o => u * (if o = k then 1 else a (162 + o))) h
theorem mul_b {x y p q : Int} (h1 : 1 ≤ x ∧ x ≤ p) (h2 : 1 ≤ y ∧ y ≤ q) : 1 ≤ x * y ∧ x * y ≤ p * q := ⟨by have := Int.mul_le_mul h1.1 h2.1 (by omega) (by omega); omega, Int.mul_le_mul h1.2 h2.2 (by omega) (by omega)⟩
theorem Wf.mul2 {a : aA} (w : Wf a) {i j : Int} (hi : 0 ≤ i ∧ i < 3) (hj : 0 ≤ j ∧ j < 3) : 1 ≤ a (162 + i) * a (162 + j) ∧ a (162 + i) * a (162 + j) ≤ 9801 := mul_b (w.cost hi) (w.cost hj)
theorem pUp_r {a : aA} (w : Wf a) {k : Int} (hk : 0 ≤ k ∧ k ≤ 2) : 1 ≤ pUp a k ∧ pUp a k ≤ 9801 := w.mul2 (by omega) (by omega)
theorem pAll_r {a : aA} (w : Wf a) : 3 ≤ pAll a ∧ pAll a ≤ 29403 := by
  have a1 := w.mul2 (i := 0) (j := 1) (by omega) (by omega)
  have a2 := w.mul2 (i := 0) (j := 2) (by omega) (by omega)
  have a3 := w.mul2 (i := 1) (j := 2) (by omega) (by omega)
  unfold pAll
  have a1' : 1 ≤ a 162 * a 163 ∧ a 162 * a 163 ≤ 9801 := a1
  have a2' : 1 ≤ a 162 * a 164 ∧ a 162 * a 164 ≤ 9801 := a2
  have a3' : 1 ≤ a 163 * a 164 ∧ a 163 * a 164 ≤ 9801 := a3
  omega
theorem pUpI_r {a : aA} (w : Wf a) {k : Int} : ∀ i, 0 ≤ i → i ≤ 3 → 1 ≤ pUpI a k i ∧ ((i = 0 ∧ pUpI a k i ≤ 1) ∨ (i = 1 ∧ pUpI a k i ≤ 99) ∨ (i = 2 ∧ pUpI a k i ≤ 9801) ∨ (i = 3 ∧ pUpI a k i ≤ 970299)) := by
  refine fI_i (st := fun u o => u * (if o = k then 1 else a (162 + o))) (n := 3) (fun i u => 1 ≤ u ∧ ((i = 0 ∧ u ≤ 1) ∨ (i = 1 ∧ u ≤ 99) ∨ (i = 2 ∧ u ≤ 9801) ∨ (i = 3 ∧ u ≤ 970299))) (by omega) (fun i u i0 i6 z => ?_)
  have c : 1 ≤ (if i = k then 1 else a (162 + i)) ∧ (if i = k then 1 else a (162 + i)) ≤ 99 := by
    have := w.cost ⟨i0, i6⟩
    split <;> omega
  show 1 ≤ u * (if i = k then 1 else a (162 + i)) ∧ ((i + 1 = 0 ∧ u * (if i = k then 1 else a (162 + i)) ≤ 1) ∨ (i + 1 = 1 ∧ u * (if i = k then 1 else a (162 + i)) ≤ 99) ∨ (i + 1 = 2 ∧ u * (if i = k then 1 else a (162 + i)) ≤ 9801) ∨ (i + 1 = 3 ∧ u * (if i = k then 1 else a (162 + i)) ≤ 970299))
  rcases z.2 with y | y | y | y
  · have := mul_b (p := 1) ⟨z.1, y.2⟩ c; omega
  · have := mul_b (p := 99) ⟨z.1, y.2⟩ c; omega
  · have := mul_b (p := 9801) ⟨z.1, y.2⟩ c; omega
  · omega
theorem pUpI_e {a : aA} {k : Int} (hk : 0 ≤ k ∧ k ≤ 2) : pUpI a k 3 = pUp a k := by
  have e1 : pUpI a k 1 = 1 * (if 0 = k then 1 else a (162 + 0)) := pUpI_s (a := a) (k := k) (i := 0) (by decide)
  have e2 : pUpI a k 2 = pUpI a k 1 * (if 1 = k then 1 else a (162 + 1)) := pUpI_s (a := a) (k := k) (i := 1) (by decide)
  have e3 : pUpI a k 3 = pUpI a k 2 * (if 2 = k then 1 else a (162 + 2)) := pUpI_s (a := a) (k := k) (i := 2) (by decide)
  rw [e3, e2, e1]
  have : k = 0 ∨ k = 1 ∨ k = 2 := by omega
  unfold pUp
  rcases this with y | y | y <;> subst y
  · rw [if_pos rfl, if_neg (by decide), if_neg (by decide), Int.one_mul, Int.one_mul]; rfl
  · rw [if_neg (by decide), if_pos rfl, if_neg (by decide), Int.one_mul, Int.mul_one, Int.mul_comm]; rfl
  · rw [if_neg (by decide), if_neg (by decide), if_pos rfl, Int.one_mul, Int.mul_one]; rfl
def pGame (a : aA) (k low : Int) : Int := (if low = 0 then pUp a k else pAll a).tdiv (gI (pUp a k) (pAll a))
theorem tdiv_b {x g : Int} (h1 : 0 ≤ x) (h2 : 0 < g) : 0 ≤ x.tdiv g ∧ x.tdiv g ≤ x := by
  rw [Int.tdiv_eq_ediv_of_nonneg h1]
  exact ⟨Int.ediv_nonneg h1 (by omega), Int.ediv_le_self g h1⟩
theorem gI_le {x y : Int} (h1 : 0 < x) : gI x y ≤ x := by
  unfold gI
  have := Nat.gcd_le_left y.toNat (show 0 < x.toNat by omega)
  omega
theorem c_odds {d : Nat} {kd low : Int} {h : Hp} {Q : aPO} {a : aA} {n : Int} (I : CG h 2 a n) (hn : n ≤ 30000) (hk : 0 ≤ kd ∧ kd ≤ 2) (k : Q (vI (pGame a kd low)) h) : Runs (d + 1) 26 0 [vA 8, vI kd, vI low, none, none, none, none] [] h Q := by
  have w := I.wf hn
  have e0 : h 8 0 = a 162 := (I.cost 0 (by decide) (by decide)).1
  have e1 : h 8 1 = a 163 := (I.cost 1 (by decide) (by decide)).1
  have e2 : h 8 2 = a 164 := (I.cost 2 (by decide) (by decide)).1
  have a1 : 1 ≤ a 162 * a 163 ∧ a 162 * a 163 ≤ 9801 := w.mul2 (i := 0) (j := 1) (by omega) (by omega)
  have a2 : 1 ≤ a 162 * a 164 ∧ a 162 * a 164 ≤ 9801 := w.mul2 (i := 0) (j := 2) (by omega) (by omega)
  have a3 : 1 ≤ a 163 * a 164 ∧ a 163 * a 164 ≤ 9801 := w.mul2 (i := 1) (j := 2) (by omega) (by omega)
  rw [← e0, ← e1] at a1
  rw [← e0, ← e2] at a2
  rw [← e1, ← e2] at a3
  have rA := pAll_r w
  have rU := pUp_r w hk
  have eA : h 8 1 * h 8 2 + h 8 0 * h 8 2 + h 8 0 * h 8 1 = pAll a := by
    unfold pAll
    rw [e0, e1, e2]
    omega
  have gp : 0 < gI (pUp a kd) (pAll a) := gI_p (by omega)
  have E : ∀ L : Int, L = pAll a → Runs (d + 1) 26 61 [vA 8, vI kd, vI low, vI L, vI (pUp a kd), vI 3, none] [] h Q := by
    intro L e
    subst e
    refine Runs.go 40 [] ?_
    refine c_gcd (by omega) (by omega) ?_ ?_
    · have := (mul_b (x := pUp a kd) (y := pAll a) rU (q := 29403) (by omega)).2
      have : (2 : Int) ^ 62 = 4611686018427387904 := by decide
      omega
    · refine br.t (fun z => by have := lc0.mp z; omega) ?_
      refine br.i (fun c => ?_) (fun c => ?_)
      · have t := tdiv_b (x := pUp a kd) (by omega) gp
        unfold pGame at k
        rw [if_pos c] at k
        exact ⟨⟨by omega, by omega⟩, ⟨by omega, k⟩⟩
      · have t := tdiv_b (x := pAll a) (by omega) gp
        unfold pGame at k
        rw [if_neg c] at k
        exact ⟨⟨by omega, by omega⟩, ⟨by omega, k⟩⟩
  refine Runs.go 40 [30] ?_
  refine ⟨by decide, ⟨by decide, ?_⟩⟩
  refine ⟨show -2147483648 ≤ h 8 1 * h 8 2 ∧ h 8 1 * h 8 2 < 2147483648 by omega, ?_⟩
  refine ⟨by decide, ⟨by decide, ?_⟩⟩
  refine ⟨show -2147483648 ≤ h 8 0 * h 8 2 ∧ h 8 0 * h 8 2 < 2147483648 by omega, ?_⟩
  refine ⟨show -2147483648 ≤ h 8 1 * h 8 2 + h 8 0 * h 8 2 ∧ h 8 1 * h 8 2 + h 8 0 * h 8 2 < 2147483648 by omega, ?_⟩
  refine ⟨by decide, ⟨by decide, ?_⟩⟩
  refine ⟨show -2147483648 ≤ h 8 0 * h 8 1 ∧ h 8 0 * h 8 1 < 2147483648 by omega, ?_⟩
  refine ⟨show -2147483648 ≤ h 8 1 * h 8 2 + h 8 0 * h 8 2 + h 8 0 * h 8 1 ∧ h 8 1 * h 8 2 + h 8 0 * h 8 2 + h 8 0 * h 8 1 < 2147483648 by omega, ?_⟩
  refine downI (R := fun i => Runs (d + 1) 26 30 [vA 8, vI kd, vI low, vI (h 8 1 * h 8 2 + h 8 0 * h 8 2 + h 8 0 * h 8 1), vI (pUpI a kd i), vI i, none] [] h Q) (x := 0) (n := 3) (by decide) ?_ (fun i i0 i3 r => ?_)
  · refine Runs.go 10 [61] ?_
    refine br.t (by omega) ?_
    rw [pUpI_e hk]
    exact E _ eA
  · have z := pUpI_r w (k := kd) i i0 (by omega)
    have z2 := pUpI_r w (k := kd) (i + 1) (by omega) (by omega)
    have ei : h 8 i = a (162 + i) := (I.cost i i0 i3).1
    rw [pUpI_s i0] at r z2
    refine Runs.go 30 [30] ?_
    refine br.f (by omega) ?_
    refine br.i (fun c => ?_) (fun c => ?_)
    · rw [if_neg c, ← ei] at r z2
      exact ⟨⟨i0, i3⟩, ⟨by omega, ⟨by omega, r⟩⟩⟩
    · rw [if_pos (Decidable.not_not.mp c)] at r z2
      exact ⟨by omega, ⟨by omega, r⟩⟩
theorem o_game : op_game Inv := by
  intro x hx
  refine opR (fun a _ => if 0 ≤ x 1 ∧ x 1 ≤ 2 then pGame a (x 1) (nzI (x 2)) else -1) (fun h L n Q I hn t k => ?_) (fun h L Q w t k => ?_)
  · have K := k h Same.rf
    refine Runs.go 40 [] ?_
    refine sp_isForb ?_
    refine br.i (fun c => QI K (by rw [if_neg (b2i_z c)])) (fun c => ?_)
    rw [if_pos (b2i_nz c)] at K
    exact c_odds I hn (b2i_nz c) K
  · have K := k h Same.rf
    refine Runs.go 100 [94] ?_
    refine r_isKind ?_
    refine br.j (fun c => QI K (by rw [if_neg (b2i_z (Decidable.not_not.mp c))])) (fun c => ?_)
    have hk := b2i_nz c
    rw [if_pos hk] at K
    have a1 : 1 ≤ h 85 162 * h 85 163 ∧ h 85 162 * h 85 163 ≤ 9801 := w.mul2 (i := 0) (j := 1) (by omega) (by omega)
    have a2 : 1 ≤ h 85 162 * h 85 164 ∧ h 85 162 * h 85 164 ≤ 9801 := w.mul2 (i := 0) (j := 2) (by omega) (by omega)
    have a3 : 1 ≤ h 85 163 * h 85 164 ∧ h 85 163 * h 85 164 ≤ 9801 := w.mul2 (i := 1) (j := 2) (by omega) (by omega)
    have rA := pAll_r w
    have rU := pUp_r w hk
    have gp : 0 < gI (pUp (h 85) (x 1)) (pAll (h 85)) := gI_p (by omega)
    have gl := gI_le (x := pUp (h 85) (x 1)) (y := pAll (h 85)) (by omega)
    have G : ∀ U A, U = pUp (h 85) (x 1) → A = pAll (h 85) → Runs 150 303 94 [vA 84, vI (x 1), vI (nzI (x 2)), vI A, vI U] [] h Q := by
      intro U A e1 e2
      subst e1 e2
      refine Runs.go 20 [] ?_
      unfold pGame at K
      refine br.i (fun c => ?_) (fun c => ?_)
      · rw [if_pos c] at K
        refine r_common (by omega) (by omega) ?_
        exact ⟨by omega, ⟨⟨by omega, by omega⟩, K⟩⟩
      · rw [if_neg c] at K
        refine r_common (by omega) (by omega) ?_
        exact ⟨by omega, ⟨⟨by omega, by omega⟩, K⟩⟩
    refine ⟨by decide, ⟨by decide, ?_⟩⟩
    refine ⟨show -2147483648 ≤ h 85 162 * h 85 163 ∧ h 85 162 * h 85 163 < 2147483648 by omega, ?_⟩
    refine ⟨by decide, ⟨by decide, ?_⟩⟩
    refine ⟨show -2147483648 ≤ h 85 162 * h 85 164 ∧ h 85 162 * h 85 164 < 2147483648 by omega, ?_⟩
    refine ⟨show -2147483648 ≤ h 85 162 * h 85 163 + h 85 162 * h 85 164 ∧ h 85 162 * h 85 163 + h 85 162 * h 85 164 < 2147483648 by omega, ?_⟩
    refine ⟨by decide, ⟨by decide, ?_⟩⟩
    refine ⟨show -2147483648 ≤ h 85 163 * h 85 164 ∧ h 85 163 * h 85 164 < 2147483648 by omega, ?_⟩
    refine ⟨show -2147483648 ≤ h 85 162 * h 85 163 + h 85 162 * h 85 164 + h 85 163 * h 85 164 ∧ h 85 162 * h 85 163 + h 85 162 * h 85 164 + h 85 163 * h 85 164 < 2147483648 by omega, ?_⟩
    have m1 : (x 1 + 1).tmod 3 = (x 1 + 1) % 3 := Int.tmod_eq_emod_of_nonneg (by omega)
    have m2 : (x 1 + 2).tmod 3 = (x 1 + 2) % 3 := Int.tmod_eq_emod_of_nonneg (by omega)
    refine ⟨by omega, ⟨by omega, ?_⟩⟩
    rw [m1]
    refine ⟨by omega, ⟨⟨by omega, show _ < (3856 : Int) by omega⟩, ?_⟩⟩
    refine ⟨by omega, ⟨by omega, ?_⟩⟩
    rw [m2]
    refine ⟨by omega, ⟨⟨by omega, show _ < (3856 : Int) by omega⟩, ?_⟩⟩
    have rU' : 1 ≤ h 85 (162 + (x 1 + 1) % 3) * h 85 (162 + (x 1 + 2) % 3) ∧ h 85 (162 + (x 1 + 1) % 3) * h 85 (162 + (x 1 + 2) % 3) ≤ 9801 := rU
    refine ⟨show -2147483648 ≤ h 85 (162 + (x 1 + 1) % 3) * h 85 (162 + (x 1 + 2) % 3) ∧ h 85 (162 + (x 1 + 1) % 3) * h 85 (162 + (x 1 + 2) % 3) < 2147483648 by omega, ?_⟩
    exact G _ _ rfl rfl
