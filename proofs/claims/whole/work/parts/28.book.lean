/-! CALLS: the book -/
def pEx (a : aA) (i : Int) : Int := 1396 + 2 * ((a 11 - min (a 11) 30 + i) % 1230)
def pE (a : aA) (i x : Int) : Int := if x = 0 then a (pEx a i) / 32 else if x = 1 then a (pEx a i) / 4 % 8 else if x = 2 then a (pEx a i) % 4 else a (pEx a i + 1)
theorem CG.ent {h : Hp} {c : Nat} {a : aA} {n : Int} (I : CG h c a n) {i : Int} (h1 : 0 ≤ i ∧ i < min (a 11) 30) : ∃ d p k m : Int, (0 ≤ d ∧ d ≤ 9999) ∧ (0 ≤ p ∧ p ≤ 5) ∧ (0 ≤ k ∧ k ≤ 2) ∧ (0 ≤ m ∧ m ≤ 9999) ∧
    h (c + 8) i = ((d * 6 + p) * 3 + k) * 10000 + m ∧ a (pEx a i) = d * 32 + p * 4 + k ∧ a (pEx a i + 1) = m := I.book.2 i h1.1 h1.2
theorem CG0.ent {h : Hp} {c : Nat} {a : aA} {n : Int} (I : CG0 h c a n) {i : Int} (h1 : 0 ≤ i ∧ i < min (a 11) 30) : ∃ d p k m : Int, (0 ≤ d ∧ d ≤ 9999) ∧ (0 ≤ p ∧ p ≤ 5) ∧ (0 ≤ k ∧ k ≤ 2) ∧ (0 ≤ m ∧ m ≤ 9999) ∧
    h (c + 8) i = ((d * 6 + p) * 3 + k) * 10000 + m ∧ a (pEx a i) = d * 32 + p * 4 + k ∧ a (pEx a i + 1) = m := I.book.2 i h1.1 h1.2
theorem pE_v {a : aA} {i d p k m : Int} (hp : 0 ≤ p ∧ p ≤ 5) (hk : 0 ≤ k ∧ k ≤ 2) (e1 : a (pEx a i) = d * 32 + p * 4 + k) (e2 : a (pEx a i + 1) = m) : pE a i 0 = d ∧ pE a i 1 = p ∧ pE a i 2 = k ∧ pE a i 3 = m := by
  unfold pE
  rw [if_pos rfl, if_neg (by decide), if_pos rfl, if_neg (by decide), if_neg (by decide), if_pos rfl, if_neg (by decide), if_neg (by decide), if_neg (by decide), e1, e2]
  omega
theorem Wf.ent {a : aA} (w : Wf a) {i : Int} (h1 : 0 ≤ i ∧ i < min (a 11) 30) : (0 ≤ pE a i 0 ∧ pE a i 0 ≤ 9999) ∧ (0 ≤ pE a i 1 ∧ pE a i 1 ≤ 5) ∧ (0 ≤ pE a i 2 ∧ pE a i 2 ≤ 2) ∧ (0 ≤ pE a i 3 ∧ pE a i 3 ≤ 9999) ∧ 0 ≤ a (pEx a i) := by
  obtain ⟨g, n, I, hn⟩ := w
  obtain ⟨d, p, k, m, hd, hp, hk, hm, e0, e1, e2⟩ := I.ent h1
  obtain ⟨v0, v1, v2, v3⟩ := pE_v hp hk e1 e2
  rw [v0, v1, v2, v3, e1]
  omega
section BK
variable {d : Nat} {i : Int} {h : Hp} {Q : aPO} {a : aA} {n : Int}
theorem c_fineX (I : CG h 2 a n) (h1 : 0 ≤ i ∧ i < min (a 11) 30) :
    (Q (vI (pE a i 3)) h → Runs d 16 0 [vA 2, vI i] [] h Q) ∧ (Q (vI (pE a i 2)) h → Runs d 17 0 [vA 2, vI i] [] h Q) ∧ (Q (vI (pE a i 1)) h → Runs d 18 0 [vA 2, vI i] [] h Q) ∧ (Q (vI (pE a i 0)) h → Runs d 19 0 [vA 2, vI i] [] h Q) := by
  obtain ⟨y, p, k, m, hd, hp, hk, hm, e0, e1, e2⟩ := I.ent h1
  obtain ⟨v0, v1, v2, v3⟩ := pE_v hp hk e1 e2
  have e3 : h 10 i = ((y * 6 + p) * 3 + k) * 10000 + m := e0
  have ge : 0 ≤ h 10 i := by omega
  have b : 0 ≤ i ∧ i < (30 : Int) := by omega
  refine ⟨fun q => ?_, fun q => ?_, fun q => ?_, fun q => ?_⟩
  · refine Runs.go 20 [] ?_
    refine ⟨b, ⟨by omega, QI q ?_⟩⟩
    rw [v3, Int.tmod_eq_emod_of_nonneg ge, e3]
    omega
  · refine Runs.go 20 [] ?_
    refine ⟨b, ⟨by omega, ⟨by omega, QI q ?_⟩⟩⟩
    rw [v2, Int.tdiv_eq_ediv_of_nonneg ge, Int.tmod_eq_emod_of_nonneg (by omega), e3]
    omega
  · refine Runs.go 20 [] ?_
    refine ⟨b, ⟨by omega, ⟨by omega, QI q ?_⟩⟩⟩
    rw [v1, Int.tdiv_eq_ediv_of_nonneg ge, Int.tmod_eq_emod_of_nonneg (by omega), e3]
    omega
  · refine Runs.go 20 [] ?_
    refine ⟨b, ⟨by omega, QI q ?_⟩⟩
    rw [v0, Int.tdiv_eq_ediv_of_nonneg ge, e3]
    omega
theorem r_shown (w : Wf (h 85)) (k : Q (vI (min (h 85 11) 30)) h) : Runs d 260 0 [vA 84] [] h Q := by
  refine Runs.go 20 [] ?_
  refine ⟨by decide, ?_⟩
  refine br.i (fun c => QI k ?_) (fun c => ⟨by decide, QI k ?_⟩)
  · have c1 : 30 ≤ h 85 11 := c
    omega
  · have c1 : ¬ 30 ≤ h 85 11 := c
    show h 85 11 = _
    omega
theorem r_entry {x : Int} (w : Wf (h 85)) (h1 : 0 ≤ i ∧ i < min (h 85 11) 30) (k : Q (vI (pE (h 85) i x)) h) : Runs (d + 1) 261 0 [vA 84, vI i, vI x, none] [] h Q := by
  have z := w.p11
  have ge := (w.ent h1).2.2.2.2
  have ex : 1396 + 2 * (h 85 11 - min (h 85 11) 30 + i).tmod 1230 = pEx (h 85) i := by
    unfold pEx
    rw [Int.tmod_eq_emod_of_nonneg (by omega)]
  have b : 0 ≤ pEx (h 85) i ∧ pEx (h 85) i < 3855 := by unfold pEx; omega
  have e0 : 0 ≤ (h 85 11 - min (h 85 11) 30 + i).tmod 1230 ∧ (h 85 11 - min (h 85 11) 30 + i).tmod 1230 < 1230 := by
    rw [Int.tmod_eq_emod_of_nonneg (by omega)]
    omega
  refine Runs.go 60 [25] ?_
  refine ⟨by decide, ?_⟩
  refine r_shown w ?_
  refine ⟨show -2147483648 ≤ h 85 11 - min (h 85 11) 30 ∧ h 85 11 - min (h 85 11) 30 < 2147483648 by omega, ?_⟩
  refine ⟨show -2147483648 ≤ h 85 11 - min (h 85 11) 30 + i ∧ h 85 11 - min (h 85 11) 30 + i < 2147483648 by omega, ?_⟩
  refine ⟨by omega, ?_⟩
  refine ⟨show -2147483648 ≤ 2 * (h 85 11 - min (h 85 11) 30 + i).tmod 1230 ∧ 2 * (h 85 11 - min (h 85 11) 30 + i).tmod 1230 < 2147483648 by omega, ?_⟩
  refine ⟨show -2147483648 ≤ 1396 + 2 * (h 85 11 - min (h 85 11) 30 + i).tmod 1230 ∧ 1396 + 2 * (h 85 11 - min (h 85 11) 30 + i).tmod 1230 < 2147483648 by omega, ?_⟩
  have G : ∀ v : Int, v = pEx (h 85) i → Runs (d + 1) 261 25 [vA 84, vI i, vI x, vI v] [] h Q := by
    intro v e
    subst e
    refine Runs.go 60 [] ?_
    refine br.j (fun c => ?_) (fun c => ?_)
    · refine ⟨⟨by omega, show _ < (3856 : Int) by omega⟩, ⟨by omega, QI k ?_⟩⟩
      unfold pE
      rw [if_pos (Decidable.not_not.mp c), Int.tdiv_eq_ediv_of_nonneg ge]
    · refine br.j (fun c2 => ?_) (fun c2 => ?_)
      · refine ⟨⟨by omega, show _ < (3856 : Int) by omega⟩, ⟨by omega, ⟨by omega, QI k ?_⟩⟩⟩
        unfold pE
        rw [if_neg c, if_pos (Decidable.not_not.mp c2), Int.tdiv_eq_ediv_of_nonneg ge, Int.tmod_eq_emod_of_nonneg (by omega)]
      · refine br.j (fun c3 => ?_) (fun c3 => ?_)
        · refine ⟨⟨by omega, show _ < (3856 : Int) by omega⟩, ⟨by omega, QI k ?_⟩⟩
          unfold pE
          rw [if_neg c, if_neg c2, if_pos (Decidable.not_not.mp c3), Int.tmod_eq_emod_of_nonneg ge]
        · refine ⟨by omega, ⟨⟨by omega, show _ < (3856 : Int) by omega⟩, QI k ?_⟩⟩
          unfold pE
          rw [if_neg c, if_neg c2, if_neg c3]
  exact G _ ex
end BK
theorem o_book : op_book Inv := by
  intro x hx
  refine opR (fun a _ => if x 1 = -1 then min (a 11) 30 else if (0 ≤ x 1 ∧ x 1 < min (a 11) 30) ∧ (0 ≤ x 2 ∧ x 2 ≤ 3) then pE a (x 1) (x 2) else -2) (fun h L n Q I hn t k => ?_) (fun h L Q w t k => ?_)
  · have e6 : h 2 6 = min (h 85 11) 30 := I.book.1.1
    have K := k h Same.rf
    refine Runs.go 50 [] ?_
    refine br.j (fun c => QI K ?_) (fun c => ?_)
    · rw [if_pos (Decidable.not_not.mp c)]; exact e6
    rw [if_neg c] at K
    refine br.i (fun c2 => QI K (by rw [if_neg (by omega)])) (fun c2 => ?_)
    refine br.j (fun c3 => QI K ?_) (fun c3 => ?_)
    · have c4 : ¬ x 1 < h 2 6 := c3
      rw [if_neg (by omega)]
    have c4 : x 1 < h 2 6 := c3
    have b : 0 ≤ x 1 ∧ x 1 < min (h 85 11) 30 := by omega
    have V := fun (Q : aPO) (d : Nat) => c_fineX (d := d) (Q := Q) I b
    refine br.i (fun e => (V _ _).2.2.2 ?_) (fun e0 => br.i (fun e => (V _ _).2.2.1 ?_) (fun e1 => br.i (fun e => (V _ _).2.1 ?_) (fun e2 => br.i (fun e => (V _ _).1 ?_) (fun e3 => QI K ?_))))
    · rw [if_pos ⟨b, by omega⟩, e] at K; exact K
    · rw [if_pos ⟨b, by omega⟩, e] at K; exact K
    · rw [if_pos ⟨b, by omega⟩, e] at K; exact K
    · rw [if_pos ⟨b, by omega⟩, e] at K; exact K
    · rw [if_neg (by omega)]
  · have K := k h Same.rf
    have z := w.p11
    refine Runs.go 50 [] ?_
    refine br.j (fun c => ?_) (fun c => ?_)
    · rw [if_pos (Decidable.not_not.mp c)] at K
      exact r_shown w K
    rw [if_neg c] at K
    refine r_shown w ?_
    refine ⟨by omega, ?_⟩
    refine r_isIn (y := min (h 85 11) 30 - 1) ?_
    refine br.i (fun c2 => QI K (by have c3 := b2i_z c2; rw [if_neg (by omega)])) (fun c2 => ?_)
    refine r_isIn ?_
    refine br.i (fun c3 => QI K (by have c4 := b2i_z c3; rw [if_neg (by omega)])) (fun c3 => ?_)
    have b := b2i_nz c2
    have b2 := b2i_nz c3
    rw [if_pos ⟨by omega, b2⟩] at K
    exact r_entry w (by omega) K
def pFd (a : aA) (one : Int) (i : Int) : Int := fI (fun s j => s + if one = -1 ∨ pE a j 1 = one then pE a j 3 else 0) 0 i
theorem pFd_s {a : aA} {one i : Int} (h : 0 ≤ i) : pFd a one (i + 1) = pFd a one i + if one = -1 ∨ pE a i 1 = one then pE a i 3 else 0 := fI_s (st := fun s j => s + if one = -1 ∨ pE a j 1 = one then pE a j 3 else 0) h
theorem pFd_r {a : aA} (w : Wf a) {one : Int} : ∀ i, 0 ≤ i → i ≤ min (a 11) 30 → 0 ≤ pFd a one i ∧ pFd a one i ≤ 9999 * i := by
  refine fI_i (st := fun s j => s + if one = -1 ∨ pE a j 1 = one then pE a j 3 else 0) (n := min (a 11) 30) (fun i s => 0 ≤ s ∧ s ≤ 9999 * i) (by omega) (fun i y i0 i6 z => ?_)
  have q := w.ent ⟨i0, i6⟩
  show 0 ≤ (y + if one = -1 ∨ pE a i 1 = one then pE a i 3 else 0) ∧ (y + if one = -1 ∨ pE a i 1 = one then pE a i 3 else 0) ≤ 9999 * (i + 1)
  split <;> omega
theorem o_fined : op_fined Inv := by
  intro x hx
  refine opR (fun a _ => if x 1 = -1 ∨ (0 ≤ x 1 ∧ x 1 < a 0) then pFd a (x 1) (min (a 11) 30) else -2) (fun h L n Q I hn t k => ?_) (fun h L Q w t k => ?_)
  · have e6 : h 2 6 = min (h 85 11) 30 := I.book.1.1
    have w := I.wf hn
    have z := w.p11
    have K := k h Same.rf
    have G : (x 1 = -1 ∨ (0 ≤ x 1 ∧ x 1 < h 85 0)) → Runs 150 153 23 [vA 0, vI (x 1), vI 0, vI 0] [] h Q := by
      intro c
      rw [if_pos c] at K
      refine downI (R := fun i => Runs 150 153 23 [vA 0, vI (x 1), vI (pFd (h 85) (x 1) i), vI i] [] h Q) (x := 0) (n := min (h 85 11) 30) (by omega) ?_ (fun i i0 i3 r => ?_)
      · refine Runs.go 10 [] ?_
        exact br.t (show h 2 6 ≤ min (h 85 11) 30 by omega) K
      · have V := fun (Q : aPO) (d : Nat) => c_fineX (d := d) (Q := Q) I ⟨i0, i3⟩
        have z1 := pFd_r w (one := x 1) i i0 (by omega)
        have z2 := w.ent ⟨i0, i3⟩
        rw [pFd_s i0] at r
        refine Runs.go 50 [23] ?_
        refine br.f (show ¬ h 2 6 ≤ i by omega) ?_
        refine br.i (fun c2 => ?_) (fun c2 => ?_)
        · rw [if_pos (Or.inl c2)] at r
          refine (V _ _).1 ?_
          exact ⟨by omega, ⟨by omega, r⟩⟩
        · refine (V _ _).2.2.1 ?_
          refine br.i (fun c3 => ?_) (fun c3 => ?_)
          · rw [if_neg (by omega), Int.add_zero] at r
            exact ⟨by omega, r⟩
          · rw [if_pos (Or.inr (Decidable.not_not.mp c3))] at r
            refine (V _ _).1 ?_
            exact ⟨by omega, ⟨by omega, r⟩⟩
    refine Runs.go 20 [23] ?_
    refine br.i (fun c => G (Or.inl c)) (fun c => ?_)
    refine c_has I ?_
    refine br.i (fun c2 => G (Or.inr (b2i_nz c2))) (fun c2 => QI K ?_)
    have c3 := b2i_z (Decidable.not_not.mp c2)
    rw [if_neg (by omega)]
  · have z := w.p11
    have K := k h Same.rf
    have G : (x 1 = -1 ∨ (0 ≤ x 1 ∧ x 1 < h 85 0)) → Runs 150 263 20 [vA 84, vI (x 1), vI 0, vI 0] [] h Q := by
      intro c
      rw [if_pos c] at K
      refine downI (R := fun i => Runs 150 263 20 [vA 84, vI (x 1), vI (pFd (h 85) (x 1) i), vI i] [] h Q) (x := 0) (n := min (h 85 11) 30) (by omega) ?_ (fun i i0 i3 r => ?_)
      · refine Runs.go 10 [] ?_
        refine r_shown w ?_
        exact br.t (by omega) K
      · have z1 := pFd_r w (one := x 1) i i0 (by omega)
        have z2 := w.ent ⟨i0, i3⟩
        rw [pFd_s i0] at r
        refine Runs.go 50 [20] ?_
        refine r_shown w ?_
        refine br.f (by omega) ?_
        refine br.i (fun c2 => ?_) (fun c2 => ?_)
        · rw [if_pos (Or.inl c2)] at r
          refine r_entry w ⟨i0, i3⟩ ?_
          exact ⟨by omega, ⟨by omega, r⟩⟩
        · refine r_entry w ⟨i0, i3⟩ ?_
          refine br.i (fun c3 => ?_) (fun c3 => ?_)
          · rw [if_neg (by omega)] at r
            exact ⟨by omega, ⟨by omega, r⟩⟩
          · rw [if_pos (Or.inr (Decidable.not_not.mp c3))] at r
            refine r_entry w ⟨i0, i3⟩ ?_
            exact ⟨by omega, ⟨by omega, r⟩⟩
    refine Runs.go 20 [20] ?_
    refine br.i (fun c => G (Or.inl c)) (fun c => ?_)
    refine r_isOne w ?_
    refine br.i (fun c2 => G (Or.inr (b2i_nz c2))) (fun c2 => QI K ?_)
    have c3 := b2i_z (Decidable.not_not.mp c2)
    rw [if_neg (by omega)]
def pFs (a : aA) (kd : Int) (i : Int) : Int := fI (fun s j => s + if pE a j 2 = kd then 1 else 0) 0 i
theorem pFs_s {a : aA} {kd i : Int} (h : 0 ≤ i) : pFs a kd (i + 1) = pFs a kd i + if pE a i 2 = kd then 1 else 0 := fI_s (st := fun s j => s + if pE a j 2 = kd then 1 else 0) h
theorem pFs_r {a : aA} {kd : Int} : ∀ i, 0 ≤ i → i ≤ 30 → 0 ≤ pFs a kd i ∧ pFs a kd i ≤ i := by
  refine fI_i (st := fun s j => s + if pE a j 2 = kd then 1 else 0) (n := 30) (fun i s => 0 ≤ s ∧ s ≤ i) (by omega) (fun i y i0 i6 z => ?_)
  show 0 ≤ (y + if pE a i 2 = kd then 1 else 0) ∧ (y + if pE a i 2 = kd then 1 else 0) ≤ i + 1
  split <;> omega
theorem o_fines : op_fines Inv := by
  intro x hx
  refine opR (fun a _ => if 0 ≤ x 1 ∧ x 1 ≤ 2 then pFs a (x 1) (min (a 11) 30) else -2) (fun h L n Q I hn t k => ?_) (fun h L Q w t k => ?_)
  · have e6 : h 2 6 = min (h 85 11) 30 := I.book.1.1
    have w := I.wf hn
    have z := w.p11
    have K := k h Same.rf
    refine Runs.go 20 [14] ?_
    refine sp_isForb ?_
    refine br.j (fun c => QI K (by rw [if_neg (b2i_z (Decidable.not_not.mp c))])) (fun c => ?_)
    rw [if_pos (b2i_nz c)] at K
    refine downI (R := fun i => Runs 150 154 14 [vA 0, vI (x 1), vI (pFs (h 85) (x 1) i), vI i] [] h Q) (x := 0) (n := min (h 85 11) 30) (by omega) ?_ (fun i i0 i3 r => ?_)
    · refine Runs.go 10 [] ?_
      exact br.t (show h 2 6 ≤ min (h 85 11) 30 by omega) K
    · have V := fun (Q : aPO) (d : Nat) => c_fineX (d := d) (Q := Q) I ⟨i0, i3⟩
      have z1 := pFs_r (a := h 85) (kd := x 1) i i0 (by omega)
      rw [pFs_s i0] at r
      refine Runs.go 50 [14] ?_
      refine br.f (show ¬ h 2 6 ≤ i by omega) ?_
      refine (V _ _).2.1 ?_
      refine br.i (fun c2 => ?_) (fun c2 => ?_)
      · rw [if_neg c2, Int.add_zero] at r
        exact ⟨by omega, r⟩
      · rw [if_pos (Decidable.not_not.mp c2)] at r
        exact ⟨by omega, ⟨by omega, r⟩⟩
  · have z := w.p11
    have K := k h Same.rf
    refine Runs.go 20 [14] ?_
    refine r_isKind ?_
    refine br.j (fun c => QI K (by rw [if_neg (b2i_z (Decidable.not_not.mp c))])) (fun c => ?_)
    rw [if_pos (b2i_nz c)] at K
    refine downI (R := fun i => Runs 150 264 14 [vA 84, vI (x 1), vI (pFs (h 85) (x 1) i), vI i] [] h Q) (x := 0) (n := min (h 85 11) 30) (by omega) ?_ (fun i i0 i3 r => ?_)
    · refine Runs.go 10 [] ?_
      refine r_shown w ?_
      exact br.t (by omega) K
    · have z1 := pFs_r (a := h 85) (kd := x 1) i i0 (by omega)
      rw [pFs_s i0] at r
      refine Runs.go 50 [14] ?_
      refine r_shown w ?_
      refine br.f (by omega) ?_
      refine r_entry w ⟨i0, i3⟩ ?_
      refine br.i (fun c2 => ?_) (fun c2 => ?_)
      · rw [if_neg c2] at r
        exact ⟨by omega, ⟨by omega, r⟩⟩
      · rw [if_pos (Decidable.not_not.mp c2)] at r
        exact ⟨by omega, ⟨by omega, r⟩⟩
