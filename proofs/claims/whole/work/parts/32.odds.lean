/-! CALLS: drops, wrongly, howOften -/
def pDrops (a : aA) (L : aL) (p k x : Int) : Int := if (0 ≤ p ∧ p < a 0) ∧ (0 ≤ k ∧ k ≤ 3) then (if 2 ≤ x ∧ k = 3 then -1 else if x = 0 then a (12 + 9 * p + (2 + k)) else if x = 1 then pDries L (a 2) a p k else if x = 2 then pErrs L a p k else if x = 3 then pFine L a p k else -1) else -1
theorem o_drops : op_drops Inv := by
  intro x hx
  refine opR (fun a L => pDrops a L (x 1) (x 2) (x 3)) (fun h L n Q I hn t k => ?_) (fun h L Q w t k => ?_)
  · have q0 := I.num.1.2
    have kS : ∀ h1 : Hp, (∀ o, o ≠ 49 → o ≠ 50 → h1 o = h o) → Q (vI (pDrops (h 85) L (x 1) (x 2) (x 3))) h1 := fun h1 e => k h1 (fun o s => e o (fun z => s (Or.inl z)) (fun z => s (Or.inr (Or.inl z))))
    have K0 := kS h (fun _ _ _ => rfl)
    refine Runs.go 60 [34] ?_
    refine c_has I ?_
    refine br.i (fun c => QI K0 (by unfold pDrops; rw [if_neg (fun z => b2i_z c z.1)])) (fun c => ?_)
    have p1 := b2i_nz c
    refine sp_between ?_
    refine br.j (fun c => QI K0 (by unfold pDrops; rw [if_neg (fun z => b2i_z (Decidable.not_not.mp c) z.2)])) (fun c => ?_)
    have k1 := b2i_nz c
    unfold pDrops at kS
    rw [if_pos ⟨p1, k1⟩] at kS
    have G : ¬ (2 ≤ x 3 ∧ x 2 = 3) → Runs 150 130 34 [vA 0, vI (x 1), vI (x 2), vI (x 3)] [] h Q := by
      intro c
      rw [if_neg c] at kS
      have N := fun (Q : aPO) => c_now (d := 144) (Q := Q) I hn t (p := x 1) (kd := x 2) (by omega) (by omega)
      refine Runs.go 20 [] ?_
      refine br.i (fun e => ?_) (fun e0 => br.i (fun e => ?_) (fun e1 => br.i (fun e => ?_) (fun e2 => br.i (fun e => ?_) (fun e3 => ?_))))
      · rw [if_pos e] at kS
        exact c_amount I (by omega) (by omega) (kS h (fun _ _ _ => rfl))
      · rw [if_neg e0, if_pos e] at kS
        exact (N _).1 kS
      · rw [if_neg e0, if_neg e1, if_pos e] at kS
        exact (N _).2.1 kS
      · rw [if_neg e0, if_neg e1, if_neg e2, if_pos e] at kS
        exact (N _).2.2 (fun h1 e _ => kS h1 e) (by omega)
      · rw [if_neg e0, if_neg e1, if_neg e2, if_neg e3] at kS
        exact kS h (fun _ _ _ => rfl)
    refine br.i (fun c => G (by omega)) (fun c => ?_)
    refine br.i (fun c2 => G (by omega)) (fun c2 => ?_)
    rw [if_pos ⟨by omega, by omega⟩] at kS
    exact kS h (fun _ _ _ => rfl)
  · have q0 := w.p0
    have kS : ∀ h1 : Hp, (∀ o, o < 90 → h1 o = h o) → Q (vI (pDrops (h 85) L (x 1) (x 2) (x 3))) h1 := fun h1 e => k h1 (fun o s => e o (by unfold scr at s; omega))
    have K0 := kS h (fun _ _ => rfl)
    refine Runs.go 60 [29] ?_
    refine r_isOne w ?_
    refine br.i (fun c => QI K0 (by unfold pDrops; rw [if_neg (fun z => b2i_z c z.1)])) (fun c => ?_)
    have p1 := b2i_nz c
    refine r_isIn ?_
    refine br.i (fun c => QI K0 (by unfold pDrops; rw [if_neg (fun z => b2i_z c z.2)])) (fun c => ?_)
    have k1 := b2i_nz c
    unfold pDrops at kS
    rw [if_pos ⟨p1, k1⟩] at kS
    have G : ¬ (2 ≤ x 3 ∧ x 2 = 3) → Runs 150 258 29 [vA 84, vI (x 1), vI (x 2), vI (x 3)] [] h Q := by
      intro c
      rw [if_neg c] at kS
      have N := fun (Q : aPO) => r_now (d := 144) (Q := Q) w t (p := x 1) (kd := x 2) (by omega) (by omega)
      refine Runs.go 20 [] ?_
      refine br.i (fun e => ?_) (fun e0 => br.i (fun e => ?_) (fun e1 => br.i (fun e => ?_) (fun e2 => br.i (fun e => ?_) (fun e3 => ?_))))
      · rw [if_pos e] at kS
        exact ⟨by omega, r_get (by omega) (by omega) (kS h (fun _ _ => rfl))⟩
      · rw [if_neg e0, if_pos e] at kS
        exact ⟨by decide, (N _).1 (h 85 2) w.p2 kS⟩
      · rw [if_neg e0, if_neg e1, if_pos e] at kS
        exact (N _).2.1 kS
      · rw [if_neg e0, if_neg e1, if_neg e2, if_pos e] at kS
        exact (N _).2.2 (fun h1 e _ => kS h1 e) (by omega)
      · rw [if_neg e0, if_neg e1, if_neg e2, if_neg e3] at kS
        exact kS h (fun _ _ => rfl)
    refine br.i (fun c => G (by omega)) (fun c => ?_)
    refine br.i (fun c2 => G (by omega)) (fun c2 => ?_)
    rw [if_pos ⟨by omega, by omega⟩] at kS
    exact kS h (fun _ _ => rfl)
/-! odds -/
def pwr (b : Int) (i : Int) : Int := fI (fun v _ => v * b) 1 i
theorem pwr_s {b i : Int} (h : 0 ≤ i) : pwr b (i + 1) = pwr b i * b := fI_s (st := fun v _ => v * b) h
theorem pwr_t : ∀ b : Fin 11, ∀ i : Fin 10, 0 ≤ pwr b.val i.val ∧ pwr b.val i.val ≤ 1000000000 := by decide +kernel
theorem pwr_r {b i : Int} (hb : 0 ≤ b ∧ b ≤ 10) (hi : 0 ≤ i ∧ i ≤ 9) : 0 ≤ pwr b i ∧ pwr b i ≤ 1000000000 := by
  have := pwr_t ⟨b.toNat, by omega⟩ ⟨i.toNat, by omega⟩
  simp only [Int.toNat_of_nonneg hb.1, Int.toNat_of_nonneg hi.1] at this
  exact this
def chC (n k : Int) (i : Int) : Int := fI (fun v i => (v * (n - k + (i + 1))).tdiv (i + 1)) 1 i
theorem chC_s {n k i : Int} (h : 0 ≤ i) : chC n k (i + 1) = (chC n k i * (n - k + (i + 1))).tdiv (i + 1) := fI_s (st := fun v i => (v * (n - k + (i + 1))).tdiv (i + 1)) h
def chR (n : Int) (i : Int) : Int := fI (fun v e => (v * (n - e)).tdiv (e + 1)) 1 i
theorem chR_s {n i : Int} (h : 0 ≤ i) : chR n (i + 1) = (chR n i * (n - i)).tdiv (i + 1) := fI_s (st := fun v e => (v * (n - e)).tdiv (e + 1)) h
theorem ch_t : ∀ n : Fin 10, ∀ k : Fin 10, ∀ i : Fin 10, k.val ≤ n.val → i.val ≤ k.val → (0 ≤ chC n.val k.val i.val ∧ chC n.val k.val i.val ≤ 1000) ∧ (0 ≤ chR n.val i.val ∧ chR n.val i.val ≤ 1000) ∧ chC n.val k.val k.val = chR n.val k.val := by decide +kernel
theorem ch_r {n k i : Int} (hn : 0 ≤ n ∧ n ≤ 9) (hk : 0 ≤ k ∧ k ≤ n) (hi : 0 ≤ i ∧ i ≤ k) : (0 ≤ chC n k i ∧ chC n k i ≤ 1000) ∧ (0 ≤ chR n i ∧ chR n i ≤ 1000) ∧ chC n k k = chR n k := by
  have := ch_t ⟨n.toNat, by omega⟩ ⟨k.toNat, by omega⟩ ⟨i.toNat, by omega⟩ (by show k.toNat ≤ n.toNat; omega) (by show i.toNat ≤ k.toNat; omega)
  simp only [Int.toNat_of_nonneg hn.1, Int.toNat_of_nonneg hk.1, Int.toNat_of_nonneg hi.1] at this
  exact this
def wT (o n j : Int) : Int := chR n j * pwr o j * pwr (10 - o) (n - j)
theorem wT_t : ∀ o : Fin 11, ∀ n : Fin 10, ∀ j : Fin 10, j.val ≤ n.val → (0 ≤ chR n.val j.val * pwr o.val j.val ∧ chR n.val j.val * pwr o.val j.val ≤ 1000000000000) ∧ 0 ≤ wT o.val n.val j.val ∧ wT o.val n.val j.val ≤ 1000000000 := by decide +kernel
theorem wT_r {o n j : Int} (ho : 0 ≤ o ∧ o ≤ 10) (hn : 0 ≤ n ∧ n ≤ 9) (hj : 0 ≤ j ∧ j ≤ n) : (0 ≤ chR n j * pwr o j ∧ chR n j * pwr o j ≤ 1000000000000) ∧ 0 ≤ wT o n j ∧ wT o n j ≤ 1000000000 := by
  have := wT_t ⟨o.toNat, by omega⟩ ⟨n.toNat, by omega⟩ ⟨j.toNat, by omega⟩ (by show j.toNat ≤ n.toNat; omega)
  simp only [Int.toNat_of_nonneg ho.1, Int.toNat_of_nonneg hn.1, Int.toNat_of_nonneg hj.1] at this
  exact this
def wS (o n : Int) (j : Int) : Int := fI (fun s j => s + wT o n (n / 2 + 1 + j)) 0 j
theorem wS_s {o n i : Int} (h : 0 ≤ i) : wS o n (i + 1) = wS o n i + wT o n (n / 2 + 1 + i) := fI_s (st := fun s j => s + wT o n (n / 2 + 1 + j)) h
def pW (o n : Int) : Int := wS o n (n - n / 2)
theorem wS_r {o n : Int} (ho : 0 ≤ o ∧ o ≤ 10) (hn : 0 ≤ n ∧ n ≤ 9) : ∀ j, 0 ≤ j → j ≤ n - n / 2 → 0 ≤ wS o n j ∧ wS o n j ≤ 1000000000 * j := by
  refine fI_i (st := fun s j => s + wT o n (n / 2 + 1 + j)) (n := n - n / 2) (fun i s => 0 ≤ s ∧ s ≤ 1000000000 * i) (by omega) (fun i y i0 i6 z => ?_)
  have q := (wT_r ho hn (j := n / 2 + 1 + i) (by omega)).2
  show 0 ≤ y + wT o n (n / 2 + 1 + i) ∧ y + wT o n (n / 2 + 1 + i) ≤ 1000000000 * (i + 1)
  omega
theorem pW_t : ∀ o : Fin 11, ∀ n : Fin 10, 0 ≤ pW o.val n.val ∧ pW o.val n.val ≤ 1000000000 := by decide +kernel
theorem pW_r {o n : Int} (ho : 0 ≤ o ∧ o ≤ 10) (hn : 0 ≤ n ∧ n ≤ 9) : 0 ≤ pW o n ∧ pW o n ≤ 1000000000 := by
  have := pW_t ⟨o.toNat, by omega⟩ ⟨n.toNat, by omega⟩
  simp only [Int.toNat_of_nonneg ho.1, Int.toNat_of_nonneg hn.1] at this
  exact this
theorem pwr10 : ∀ n : Fin 10, 1 ≤ pwr 10 n.val := by decide +kernel
theorem pwr10' {n : Int} (hn : 0 ≤ n ∧ n ≤ 9) : 1 ≤ pwr 10 n := by
  have := pwr10 ⟨n.toNat, by omega⟩
  simp only [Int.toNat_of_nonneg hn.1] at this
  exact this
theorem mul_b0 {x y p q : Int} (h1 : 0 ≤ x ∧ x ≤ p) (h2 : 0 ≤ y ∧ y ≤ q) : 0 ≤ x * y ∧ x * y ≤ p * q := ⟨Int.mul_nonneg h1.1 h2.1, Int.mul_le_mul h1.2 h2.2 h2.1 (by omega)⟩
section OD
variable {d : Nat} {h : Hp} {Q : aPO}
theorem c_power {b n : Int} (hb : 0 ≤ b ∧ b ≤ 10) (hn : 0 ≤ n ∧ n ≤ 9) (k : Q (vL (pwr b n)) h) : Runs d 24 0 [vL b, none, vI n, none, none, none] [] h Q := by
  refine Runs.go 20 [5] ?_
  refine downI (R := fun i => Runs d 24 5 [vL b, none, vI n, vL (pwr b i), none, vI i] [] h Q) (x := 0) (n := n) hn.1 ?_ (fun i i0 i3 r => ?_)
  · refine Runs.go 20 [] ?_
    exact br.t (by omega) k
  · have z := mul_b0 (pwr_r hb (i := i) (by omega)) hb
    rw [pwr_s i0] at r
    refine Runs.go 20 [5] ?_
    exact br.f (by omega) ⟨by omega, ⟨by omega, r⟩⟩
theorem r_power {b n : Int} (hb : 0 ≤ b ∧ b ≤ 10) (hn : 0 ≤ n ∧ n ≤ 9) (k : Q (vL (pwr b n)) h) : Runs d 280 0 [vI b, vI n, none, none, none] [] h Q := by
  refine Runs.go 20 [5] ?_
  refine downI (R := fun i => Runs d 280 5 [vI b, vI n, vL (pwr b i), none, vI i] [] h Q) (x := 0) (n := n) hn.1 ?_ (fun i i0 i3 r => ?_)
  · refine Runs.go 20 [] ?_
    exact br.t (by omega) k
  · have z := mul_b0 (pwr_r hb (i := i) (by omega)) hb
    rw [pwr_s i0] at r
    refine Runs.go 20 [5] ?_
    exact br.f (by omega) ⟨by omega, ⟨by omega, r⟩⟩
theorem c_choices {n m : Int} (hn : 0 ≤ n ∧ n ≤ 9) (hm : 0 ≤ m ∧ m ≤ n) (k : Q (vL (chR n m)) h) : Runs d 23 0 [vI n, vI m, none, none, none] [] h Q := by
  rw [← (ch_r hn hm (i := 0) (by omega)).2.2] at k
  refine Runs.go 20 [5] ?_
  refine downI (R := fun i => Runs d 23 5 [vI n, vI m, vL (chC n m i), none, vI (i + 1)] [] h Q) (x := 0) (n := m) hm.1 ?_ (fun i i0 i3 r => ?_)
  · refine Runs.go 20 [] ?_
    exact br.t (by omega) k
  · have z := (ch_r hn hm (i := i) (by omega)).1
    have y := mul_b0 z (y := n - m + (i + 1)) (q := 10) (by omega)
    rw [chC_s i0] at r
    refine Runs.go 20 [5] ?_
    exact br.f (by omega) ⟨by omega, ⟨by omega, ⟨by omega, ⟨⟨by omega, by omega⟩, ⟨by omega, r⟩⟩⟩⟩⟩
theorem r_ways {n m : Int} (hn : 0 ≤ n ∧ n ≤ 9) (hm : 0 ≤ m ∧ m ≤ n) (k : Q (vL (chR n m)) h) : Runs d 281 0 [vI n, vI m, none, none, none] [] h Q := by
  refine Runs.go 20 [5] ?_
  refine downI (R := fun i => Runs d 281 5 [vI n, vI m, vL (chR n i), none, vI i] [] h Q) (x := 0) (n := m) hm.1 ?_ (fun i i0 i3 r => ?_)
  · refine Runs.go 20 [] ?_
    exact br.t (by omega) k
  · have z := (ch_r hn hm (i := i) (by omega)).2.1
    have y := mul_b0 z (y := n - i) (q := 10) (by omega)
    rw [chR_s i0] at r
    refine Runs.go 20 [5] ?_
    exact br.f (by omega) ⟨by omega, ⟨by omega, ⟨by omega, ⟨⟨by omega, by omega⟩, ⟨by omega, r⟩⟩⟩⟩⟩
theorem c_mostWrong {o n : Int} (ho : 0 ≤ o ∧ o ≤ 10) (hn : 0 ≤ n ∧ n ≤ 9) (k : Q (vL (pW o n)) h) : Runs (d + 1) 22 0 [vI o, vI n, none, none, none] [] h Q := by
  have t := Int.tdiv_eq_ediv_of_nonneg (b := 2) hn.1
  refine Runs.go 20 [9] ?_
  refine ⟨by omega, ⟨by omega, ?_⟩⟩
  rw [t]
  suffices G : Runs (d + 1) 22 9 [vI o, vI n, vL (wS o n 0), none, vI (n / 2 + 1 + 0)] [] h Q by rw [Int.add_zero] at G; exact G
  refine downI (R := fun i => Runs (d + 1) 22 9 [vI o, vI n, vL (wS o n i), none, vI (n / 2 + 1 + i)] [] h Q) (x := 0) (n := n - n / 2) (by omega) ?_ (fun i i0 i3 r => ?_)
  · refine Runs.go 20 [] ?_
    exact br.t (by omega) k
  · have z := wT_r ho hn (j := n / 2 + 1 + i) (by omega)
    have y := wS_r ho hn i i0 (by omega)
    rw [wS_s i0, ← Int.add_assoc] at r
    unfold wT at r z
    refine Runs.go 40 [9] ?_
    refine br.f (by omega) ?_
    refine c_choices hn (by omega) ?_
    refine c_power ho (by omega) ?_
    refine ⟨by omega, ⟨by omega, ⟨by omega, ?_⟩⟩⟩
    refine c_power (by omega) (by omega) ?_
    exact ⟨by omega, ⟨by omega, ⟨by omega, r⟩⟩⟩
theorem r_wrong {o n : Int} (ho : 0 ≤ o ∧ o ≤ 10) (hn : 0 ≤ n ∧ n ≤ 9) (k : Q (vL (pW o n)) h) : Runs (d + 1) 282 0 [vI o, vI n, none, none, none] [] h Q := by
  have t := Int.tdiv_eq_ediv_of_nonneg (b := 2) hn.1
  refine Runs.go 20 [9] ?_
  refine ⟨by omega, ⟨by omega, ?_⟩⟩
  rw [t]
  suffices G : Runs (d + 1) 282 9 [vI o, vI n, vL (wS o n 0), none, vI (n / 2 + 1 + 0)] [] h Q by rw [Int.add_zero] at G; exact G
  refine downI (R := fun i => Runs (d + 1) 282 9 [vI o, vI n, vL (wS o n i), none, vI (n / 2 + 1 + i)] [] h Q) (x := 0) (n := n - n / 2) (by omega) ?_ (fun i i0 i3 r => ?_)
  · refine Runs.go 20 [] ?_
    exact br.t (by omega) k
  · have z := wT_r ho hn (j := n / 2 + 1 + i) (by omega)
    have y := wS_r ho hn i i0 (by omega)
    rw [wS_s i0, ← Int.add_assoc] at r
    unfold wT at r z
    refine Runs.go 40 [9] ?_
    refine br.f (by omega) ?_
    refine r_ways hn (by omega) ?_
    refine r_power ho (by omega) ?_
    refine ⟨by omega, ⟨by omega, ⟨by omega, ?_⟩⟩⟩
    refine r_power (by omega) (by omega) ?_
    exact ⟨by omega, ⟨by omega, ⟨by omega, r⟩⟩⟩
end OD
