/-! CALLS: even -/
def evV (P s : Int) : Prop := iAnd s (iXor P (-1)) = 0 ∧ iAnd s (iAnd P (-P)) ≠ 0
def evD (a : aA) (P s : Int) : Int := if dSd a P s (a 0) < 0 then - dSd a P s (a 0) else dSd a P s (a 0)
noncomputable def evB (a : aA) (P : Int) : Int := Classical.epsilon (fun x => Bst (evV P) (evD a P) P x)
theorem evB_eq {a : aA} {P x : Int} (h : Bst (evV P) (evD a P) P x) : x = evB a P :=
  Bst_one h (Classical.epsilon_spec (p := fun x => Bst (evV P) (evD a P) P x) ⟨x, h⟩)
theorem vl_r {P : Int} (hP : 1 ≤ P ∧ P < 64) : (0 < iAnd P (-P) ∧ iAnd P (-P) ≤ P ∧ iAnd P (iAnd P (-P)) ≠ 0 ∧ iAnd P (iXor P (-1)) = 0) ∧ ∀ s, 0 ≤ s → s < 64 → (iAnd s P = s ↔ iAnd s (iXor P (-1)) = 0) ∧ (s < iAnd P (-P) → iAnd s (iAnd P (-P)) = 0) := by
  have q := vl_t ⟨P.toNat, by omega⟩ (by show P.toNat ≠ 0; omega)
  simp only [Int.toNat_of_nonneg (show 0 ≤ P by omega)] at q
  refine ⟨q.1, fun s s0 s6 => ?_⟩
  have r := q.2 ⟨s.toNat, by omega⟩
  simp only [Int.toNat_of_nonneg s0] at r
  exact r
theorem evD_lt {a : aA} (w : Wf a) {P s : Int} (hP : 1 ≤ P ∧ P < 64) (hn : P < iShl 1 (a 0)) (hs : 1 ≤ s ∧ s < P) (v : evV P s) : evD a P s < evD a P P := by
  have q0 := w.p0
  have l1 := dSd_lt w (s := s) (P := P) (a 0) q0.1 q0.2
  have l2 := dSd_lt w (s := P) (P := P) (a 0) q0.1 q0.2
  have q := bp_t ⟨s.toNat, by omega⟩ ⟨P.toNat, by omega⟩
  simp only [Int.toNat_of_nonneg (show 0 ≤ P by omega), Int.toNat_of_nonneg (show 0 ≤ s by omega)] at q
  obtain ⟨⟨k1, b1, b2⟩, k2, b3, b4⟩ := q v.1 (by omega) (by omega)
  have n1 := bn_t ⟨(a 0).toNat, by omega⟩ ⟨P.toNat, by omega⟩ k1
  have n2 := bn_t ⟨(a 0).toNat, by omega⟩ ⟨P.toNat, by omega⟩ k2
  simp only [Int.toNat_of_nonneg (show 0 ≤ P by omega), Int.toNat_of_nonneg q0.1] at n1 n2
  have m1 := n1 hn b1
  have m2 := n2 hn b3
  have r1 := l1.2.1 k1.val (by omega) (by omega) b1 b2
  have r2 := l1.2.2 k2.val (by omega) (by omega) b3 b4
  have z := l2.1
  unfold evD
  rw [if_neg (show ¬ dSd a P P (a 0) < 0 by omega)]
  split <;> omega
/-- what the class keeps while it goes up to i -/
def evU (a : aA) (P i b : Int) : Prop := evV P b ∧ (1 ≤ b ∧ b ≤ P) ∧ (b = P ∨ b < i) ∧ evD a P b ≤ evD a P P ∧ ∀ s, 1 ≤ s → s < i → evV P s → evD a P b ≤ evD a P s ∧ (s < b → b = P ∨ evD a P b < evD a P s)
theorem evU_0 {a : aA} {P : Int} (hP : 1 ≤ P ∧ P < 64) : evU a P (iAnd P (-P)) P := by
  obtain ⟨⟨v1, v2, v3, v4⟩, v5⟩ := vl_r hP
  refine ⟨⟨v4, v3⟩, by omega, Or.inl rfl, by omega, fun s s1 s2 v => ?_⟩
  exact absurd ((v5 s (by omega) (by omega)).2 s2) v.2
theorem evU_n {a : aA} {P i b : Int} (u : evU a P i b) (h : evV P i → ¬ evD a P i < evD a P b) : evU a P (i + 1) b := by
  obtain ⟨u1, u2, u3, u4, u5⟩ := u
  refine ⟨u1, u2, by omega, u4, fun s s1 s2 v => ?_⟩
  by_cases e : s = i
  · subst e
    have := h v
    exact ⟨by omega, fun c => by omega⟩
  · exact u5 s s1 (by omega) v
theorem evU_y {a : aA} {P i b : Int} (u : evU a P i b) (v : evV P i) (h : evD a P i < evD a P b) (hi : 1 ≤ i ∧ i < P) : evU a P (i + 1) i := by
  obtain ⟨u1, u2, u3, u4, u5⟩ := u
  refine ⟨v, by omega, by omega, by omega, fun s s1 s2 vs => ?_⟩
  by_cases e : s = i
  · subst e
    exact ⟨by omega, fun c => by omega⟩
  · have q := u5 s s1 (by omega) vs
    exact ⟨by omega, fun c => by omega⟩
theorem evU_e {a : aA} (w : Wf a) {P b : Int} (hP : 1 ≤ P ∧ P < 64) (hn : P < iShl 1 (a 0)) (u : evU a P P b) : Bst (evV P) (evD a P) P b := by
  obtain ⟨u1, u2, u3, u4, u5⟩ := u
  refine ⟨u1, u2, fun s s1 s2 v => ?_⟩
  by_cases e : s = P
  · subst e
    exact ⟨u4, fun c => by omega⟩
  · have q := u5 s s1 (by omega) v
    refine ⟨q.1, fun c => ?_⟩
    have r := evD_lt w hP hn (s := s) (by omega) v
    rcases q.2 c with z | z
    · subst z
      omega
    · exact z
/-- what the reference keeps while it goes down to i -/
def evW (a : aA) (P i f : Int) : Prop := evV P f ∧ (1 ≤ f ∧ f ≤ P) ∧ ∀ s, i < s → s ≤ P → evV P s → evD a P f ≤ evD a P s ∧ (s < f → evD a P f < evD a P s)
theorem evW_0 {a : aA} {P : Int} (hP : 1 ≤ P ∧ P < 64) : evW a P P P := by
  obtain ⟨⟨v1, v2, v3, v4⟩, v5⟩ := vl_r hP
  exact ⟨⟨v4, v3⟩, by omega, fun s s1 s2 v => by omega⟩
theorem evW_n {a : aA} {P i f : Int} (u : evW a P i f) (h : evV P i → ¬ evD a P i ≤ evD a P f) : evW a P (i - 1) f := by
  obtain ⟨u1, u2, u5⟩ := u
  refine ⟨u1, u2, fun s s1 s2 v => ?_⟩
  by_cases e : s = i
  · subst e
    have := h v
    exact ⟨by omega, fun c => by omega⟩
  · exact u5 s (by omega) s2 v
theorem evW_y {a : aA} {P i f : Int} (u : evW a P i f) (v : evV P i) (h : evD a P i ≤ evD a P f) (hi : 1 ≤ i ∧ i ≤ P) : evW a P (i - 1) i := by
  obtain ⟨u1, u2, u5⟩ := u
  refine ⟨v, by omega, fun s s1 s2 vs => ?_⟩
  by_cases e : s = i
  · subst e
    exact ⟨by omega, fun c => by omega⟩
  · have q := u5 s (by omega) s2 vs
    exact ⟨by omega, fun c => by omega⟩
theorem evW_e {a : aA} {P f : Int} (u : evW a P 0 f) : Bst (evV P) (evD a P) P f := ⟨u.1, u.2.1, fun s s1 s2 v => u.2.2 s (by omega) s2 v⟩
section EVN
variable {d : Nat} {h : Hp} {Q : aPO} {a : aA} {n P : Int}
theorem r_apartD {s : Int} (w : Wf (h 85)) (hP : 1 ≤ P ∧ P < 64) (hs : 0 ≤ s ∧ s < 64) (v : iAnd s (iXor P (-1)) = 0) (k : Q (vI (evD (h 85) P s)) h) : Runs (d + 3) 298 0 [vA 84, vI s, vI (iAnd P (iXor s (-1))), none] [] h Q := by
  have q0 := w.p0
  refine r_apart w ?_
  rw [← dSd_rSd (a := h 85) hs (by omega) v (h 85 0) q0.1 q0.2]
  exact k
theorem c_evenSide (I : CG h 2 a n) (hn : n ≤ 30000) (hP : 1 ≤ P ∧ P < 64) (hq : P < iShl 1 (a 0)) (k : Q (vI (evB a P)) h) : Runs (d + 3) 35 0 [vA 2, vI P, none, none, none, none] [] h Q := by
  have w := I.wf hn
  obtain ⟨⟨v1, v2, v3, v4⟩, v5⟩ := vl_r hP
  refine Runs.go 20 [10] ?_
  refine ⟨by omega, ?_⟩
  refine downI (R := fun i => ∀ (b : Int) (y : AV), evU a P i b → Runs (d + 3) 35 10 [vA 2, vI P, vI (iAnd P (-P)), vI b, vI i, y] [] h Q) (x := iAnd P (-P)) (n := P) v2 ?_ (fun i i0 i3 r => ?_) P none (evU_0 hP)
  · intro b y u
    refine Runs.go 10 [] ?_
    exact br.t (by omega) (QI k (evB_eq (evU_e w hP hq u)))
  · intro b y u
    have G : ∀ (b : Int) (y : AV), evU a P (i + 1) b → Runs (d + 3) 35 63 [vA 2, vI P, vI (iAnd P (-P)), vI b, vI i, y] [] h Q := by
      intro b y u
      refine Runs.go 10 [10] ?_
      exact ⟨by omega, r _ _ u⟩
    have vs := v5 i (by omega) (by omega)
    refine Runs.go 40 [63] ?_
    refine br.f (by omega) ?_
    refine br.i (fun c => br.t rfl (G _ _ (evU_n u (fun v => absurd (vs.1.mpr v.1) c)))) (fun c => ?_)
    refine br.i (fun c2 => br.t rfl (G _ _ (evU_n u (fun v => absurd c2 v.2)))) (fun c2 => ?_)
    have v : evV P i := ⟨vs.1.mp (Decidable.not_not.mp c), c2⟩
    refine br.f (by decide) ?_
    refine c_diff I hn ?_
    refine c_diff I hn ?_
    refine br.i (fun c3 => G _ _ (evU_n u (fun _ => Int.not_lt.mpr c3))) (fun c3 => G _ _ (evU_y u v (Int.not_le.mp c3) (by omega)))
end EVN
theorem sh64 {n : Int} (h : 0 ≤ n ∧ n ≤ 6) : 1 ≤ iShl 1 n ∧ iShl 1 n ≤ 64 := by
  have c : n = 0 ∨ n = 1 ∨ n = 2 ∨ n = 3 ∨ n = 4 ∨ n = 5 ∨ n = 6 := by omega
  rcases c with c | c | c | c | c | c | c <;> subst c <;> decide +kernel
theorem o_even : op_even Inv := by
  intro x hx
  have hx1 := hx 1
  refine opR (fun a _ => if 1 ≤ x 1 ∧ x 1 < iShl 1 (a 0) then (if nzI (x 2) = 0 then evD a (x 1) (evB a (x 1)) else evB a (x 1)) else -1) (fun h L n Q I hn t k => ?_) (fun h L Q w t k => ?_)
  · have w := I.wf hn
    have q0 := w.p0
    have e0 : h 2 0 = h 85 0 := I.num.1.1
    have sh := sh64 q0
    have K := k h Same.rf
    refine Runs.go 40 [] ?_
    refine br.i (fun y => QI K (by rw [if_neg (by omega)])) (fun y1 => ?_)
    have sl := shr_lt (P := x 1) (n := h 85 0) (by omega) q0
    refine br.j (fun y => QI K ?_) (fun y2 => ?_)
    · have y' : ¬ iShr (x 1) (h 2 0) = 0 := y
      rw [e0] at y'
      rw [if_neg (fun z => y' (sl.mpr z.2))]
    · have y' : iShr (x 1) (h 2 0) = 0 := y2
      rw [e0] at y'
      have k2 := sl.mp y'
      rw [if_pos ⟨by omega, k2⟩] at K
      refine c_evenSide I hn (by omega) k2 ?_
      refine br.i (fun y => ?_) (fun y => ?_)
      · rw [if_pos y] at K
        exact c_diff I hn K
      · rw [if_neg y] at K
        exact K
  · have q0 := w.p0
    have sh := sh64 q0
    have K := k h Same.rf
    refine Runs.go 40 [31] ?_
    refine ⟨by decide, ⟨show -2147483648 ≤ iShl 1 (h 85 0) - 1 ∧ iShl 1 (h 85 0) - 1 < 2147483648 by omega, ?_⟩⟩
    refine r_isIn (y := iShl 1 (h 85 0) - 1) ?_
    refine br.j (fun y => QI K ?_) (fun y => ?_)
    · have y' := b2i_z (Decidable.not_not.mp y)
      rw [if_neg (by omega)]
    have y' := b2i_nz y
    have P1 : 1 ≤ x 1 ∧ x 1 < 64 := by omega
    rw [if_pos (by omega)] at K
    refine ⟨by omega, ?_⟩
    have M : ∀ t : Int, 0 ≤ t → t ≤ x 1 → ∀ f : Int, evW (h 85) (x 1) (x 1 - t) f → Runs 150 299 31 [vA 84, vI (x 1), vI (nzI (x 2)), vI (iAnd (x 1) (-(x 1))), vI f, vI (x 1 - t)] [] h Q := by
      intro t t0 t9
      refine downI (R := fun t => ∀ f : Int, evW (h 85) (x 1) (x 1 - t) f → Runs 150 299 31 [vA 84, vI (x 1), vI (nzI (x 2)), vI (iAnd (x 1) (-(x 1))), vI f, vI (x 1 - t)] [] h Q) (x := t) (n := x 1) t9 ?_ (fun t t0' t3 r => ?_)
      · intro f u
        rw [show x 1 - x 1 = 0 by omega] at u
        have ef := evB_eq (evW_e u)
        have u2 := u.2.1
        refine Runs.go 20 [] ?_
        refine br.t (by omega) ?_
        refine br.i (fun y => ?_) (fun y => ?_)
        · rw [if_pos y, ← ef] at K
          exact r_apartD w P1 (by omega) u.1.1 K
        · rw [if_neg y, ← ef] at K
          exact K
      · intro f u
        have u2 := u.2.1
        have G : ∀ f : Int, evW (h 85) (x 1) (x 1 - t - 1) f → Runs 150 299 83 [vA 84, vI (x 1), vI (nzI (x 2)), vI (iAnd (x 1) (-(x 1))), vI f, vI (x 1 - t)] [] h Q := by
          intro f u
          rw [show x 1 - t - 1 = x 1 - (t + 1) by omega] at u
          have R := r f u
          rw [show x 1 - (t + 1) = x 1 - t + -1 by omega] at R
          refine Runs.go 10 [31] ?_
          exact ⟨by omega, R⟩
        refine Runs.go 40 [83] ?_
        refine br.f (by omega) ?_
        refine br.i (fun c => G _ (evW_n u (fun v => absurd v.1 c))) (fun c => ?_)
        refine br.i (fun c2 => G _ (evW_n u (fun v => absurd c2 v.2))) (fun c2 => ?_)
        have v : evV (x 1) (x 1 - t) := ⟨Decidable.not_not.mp c, c2⟩
        refine r_apartD w P1 (by omega) v.1 ?_
        refine r_apartD w P1 (by omega) u.1.1 ?_
        refine br.i (fun c3 => G _ (evW_n u (fun _ => Int.not_le.mpr c3))) (fun c3 => G _ (evW_y u v (Int.not_lt.mp c3) (by omega)))
    have R := M 0 (by decide) (by omega) (x 1)
    rw [show x 1 - 0 = x 1 by omega] at R
    exact R (evW_0 P1)
