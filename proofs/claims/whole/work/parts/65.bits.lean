/-! SETS AS BITS -/
def popc (s : Int) : Int := s % 2 + s / 2 % 2 + s / 4 % 2 + s / 8 % 2 + s / 16 % 2 + s / 32 % 2 + s / 64 % 2 + s / 128 % 2
def bc1 (s : Int) : Int := s - iAnd (iUshr s 1) 1431655765
def bc2 (s : Int) : Int := iAnd (bc1 s) 858993459 + iAnd (iUshr (bc1 s) 2) 858993459
def bc3 (s : Int) : Int := bc2 s + iUshr (bc2 s) 4
def bc4 (s : Int) : Int := iAnd (bc3 s) 252645135
def bc5 (s : Int) : Int := bc4 s + iUshr (bc4 s) 8
def bc6 (s : Int) : Int := bc5 s + iUshr (bc5 s) 16
theorem bc_t : ∀ s : Fin 256, (0 ≤ bc1 s.val ∧ bc1 s.val < 1000) ∧ (0 ≤ bc2 s.val ∧ bc2 s.val < 1000) ∧ (0 ≤ bc3 s.val ∧ bc3 s.val < 1000) ∧ (0 ≤ bc5 s.val ∧ bc5 s.val < 1000) ∧ (0 ≤ bc6 s.val ∧ bc6 s.val < 1000) ∧ iAnd (bc6 s.val) 63 = popc s.val := by decide +kernel
theorem bc_r {s : Int} (h : 0 ≤ s ∧ s < 256) : (0 ≤ bc1 s ∧ bc1 s < 1000) ∧ (0 ≤ bc2 s ∧ bc2 s < 1000) ∧ (0 ≤ bc3 s ∧ bc3 s < 1000) ∧ (0 ≤ bc5 s ∧ bc5 s < 1000) ∧ (0 ≤ bc6 s ∧ bc6 s < 1000) ∧ iAnd (bc6 s) 63 = popc s := by
  have := bc_t ⟨s.toNat, by omega⟩
  simp only [Int.toNat_of_nonneg h.1] at this
  exact this
theorem c_bitCount {d : Nat} {s : Int} {h : Hp} {Q : aPO} (hs : 0 ≤ s ∧ s < 256) (k : Q (vI (popc s)) h) : Runs d 307 0 [vI s] [] h Q := by
  obtain ⟨a1, a2, a3, a5, a6, a7⟩ := bc_r hs
  refine Runs.go 80 [] ?_
  refine ⟨show -2147483648 ≤ bc1 s ∧ bc1 s < 2147483648 by omega, ?_⟩
  refine ⟨show -2147483648 ≤ bc2 s ∧ bc2 s < 2147483648 by omega, ?_⟩
  refine ⟨show -2147483648 ≤ bc3 s ∧ bc3 s < 2147483648 by omega, ?_⟩
  refine ⟨show -2147483648 ≤ bc5 s ∧ bc5 s < 2147483648 by omega, ?_⟩
  refine ⟨show -2147483648 ≤ bc6 s ∧ bc6 s < 2147483648 by omega, ?_⟩
  exact QI k a7
theorem pop_t : ∀ s : Fin 256, s.val ≠ 0 → (0 ≤ iAnd s.val ((s.val : Int) - 1) ∧ iAnd s.val ((s.val : Int) - 1) < s.val) ∧ popc s.val = popc (iAnd s.val ((s.val : Int) - 1)) + 1 := by decide +kernel
theorem pop_r {s : Int} (h : 0 < s ∧ s < 256) : (0 ≤ iAnd s (s - 1) ∧ iAnd s (s - 1) < s) ∧ popc s = popc (iAnd s (s - 1)) + 1 := by
  have := pop_t ⟨s.toNat, by omega⟩ (by show s.toNat ≠ 0; omega)
  simp only [Int.toNat_of_nonneg (show 0 ≤ s by omega)] at this
  exact this
theorem popc_r {s : Int} : 0 ≤ popc s ∧ popc s ≤ 8 := by unfold popc; omega
theorem r_bits {d : Nat} {s : Int} {h : Hp} {Q : aPO} (hs : 0 ≤ s ∧ s < 256) (k : Q (vI (popc s)) h) : Runs d 167 0 [vI s, none, none] [] h Q := by
  have M : ∀ (m : Nat) (c l : Int), l.toNat < m → 0 ≤ l → l ≤ s → c + popc l = popc s → 0 ≤ c → Runs d 167 4 [vI s, vI c, vI l] [] h Q := by
    intro m
    induction m with
    | zero => intro c l z; omega
    | succ m ih =>
      intro c l z l0 ls e c0
      have q := popc_r (s := s)
      have q2 := popc_r (s := l)
      refine Runs.go 20 [4] ?_
      refine br.i (fun y => ?_) (fun y => ?_)
      · have y' : l = 0 := y
        subst y'
        have : popc 0 = 0 := by decide
        exact QI k (by omega)
      · have y' : l ≠ 0 := y
        obtain ⟨r1, r2⟩ := pop_r (s := l) (by omega)
        refine ⟨by omega, ⟨by omega, ?_⟩⟩
        exact ih (c + 1) (iAnd l (l - 1)) (by omega) r1.1 (by omega) (by omega) (by omega)
  refine Runs.go 10 [4] ?_
  exact M (s.toNat + 1) 0 s (by omega) hs.1 (Int.le_refl s) (by omega) (by decide)
theorem r_has {d : Nat} {s k : Int} {h : Hp} {Q : aPO} (q : Q (vI (b2i (iAnd (iShr s k) 1 = 1))) h) : Runs d 166 0 [vI s, vI k] [] h Q := by
  refine Runs.go 20 [] ?_
  refine br.i (fun y => ⟨by omega, QI q (b2i_f y).symm⟩) (fun y => ⟨by omega, QI q (b2i_t (Decidable.not_not.mp y)).symm⟩)
/-! CALLS: against -/
theorem sub_t : ∀ s : Fin 8, ∀ v : Fin 8, (iAnd s.val v.val = s.val ↔ iAnd s.val (iXor v.val (-1)) = 0) ∧ (iAnd s.val v.val = s.val → ∀ k : Fin 3, iAnd (iShr s.val k.val) 1 = 1 → iAnd (iShr v.val k.val) 1 = 1) := by decide +kernel
theorem sub_r {s v : Int} (hs : 0 ≤ s ∧ s < 8) (hv : 0 ≤ v ∧ v < 8) : (iAnd s v = s ↔ iAnd s (iXor v (-1)) = 0) ∧ (iAnd s v = s → ∀ k, 0 ≤ k → k < 3 → iAnd (iShr s k) 1 = 1 → iAnd (iShr v k) 1 = 1) := by
  have := sub_t ⟨s.toNat, by omega⟩ ⟨v.toNat, by omega⟩
  simp only [Int.toNat_of_nonneg hs.1, Int.toNat_of_nonneg hv.1] at this
  refine ⟨this.1, fun e k k0 k3 z => ?_⟩
  have q := this.2 e ⟨k.toNat, by omega⟩
  simp only [Int.toNat_of_nonneg k0] at q
  exact q z
def pNe (a : aA) (p s : Int) (i : Int) : Int := fI (fun y k => y + (if iAnd (iShr s k) 1 = 1 then pExc a p k (pRoom a p) else 0)) 0 i
theorem pNe_s {a : aA} {p s i : Int} (h : 0 ≤ i) : pNe a p s (i + 1) = pNe a p s i + (if iAnd (iShr s i) 1 = 1 then pExc a p i (pRoom a p) else 0) := fI_s (st := fun y k => y + (if iAnd (iShr s k) 1 = 1 then pExc a p k (pRoom a p) else 0)) h
theorem pNe_r {a : aA} (w : Wf a) {p s : Int} (hp : 0 ≤ p ∧ p < 6) : ∀ i, 0 ≤ i → i ≤ 3 → -1800 * i ≤ pNe a p s i ∧ pNe a p s i ≤ 999 * i := by
  refine fI_i (st := fun y k => y + (if iAnd (iShr s k) 1 = 1 then pExc a p k (pRoom a p) else 0)) (n := 3) (fun i s => -1800 * i ≤ s ∧ s ≤ 999 * i) (by omega) (fun i y i0 i6 z => ?_)
  have q := w.room hp
  have r := w.exc hp (k := i) ⟨i0, i6⟩ (room := pRoom a p) (by omega)
  show -1800 * (i + 1) ≤ y + (if iAnd (iShr s i) 1 = 1 then pExc a p i (pRoom a p) else 0) ∧ y + (if iAnd (iShr s i) 1 = 1 then pExc a p i (pRoom a p) else 0) ≤ 999 * (i + 1)
  by_cases c : iAnd (iShr s i) 1 = 1
  · rw [if_pos c]; omega
  · rw [if_neg c]; omega
theorem pOv_r {a : aA} {p : Int} : 0 ≤ pOv a p 3 ∧ pOv a p 3 < 8 := bS_r (f := fun k => 0 < pExc a p k (pRoom a p)) (i := 3) (by decide)
theorem pNe_t {a : aA} {p s : Int} (hs : 0 ≤ s ∧ s < 8) (h : iAnd s (pOv a p 3) = s) : pNe a p s 3 = pTears a p s 3 := by
  refine fI_c (n := 3) (fun i y i0 i3 => ?_) 3 (by decide) (by decide)
  show y + (if iAnd (iShr s i) 1 = 1 then pExc a p i (pRoom a p) else 0) = if iAnd (iShr s i) 1 = 1 then y + max 0 (pExc a p i (pRoom a p)) else y
  by_cases c : iAnd (iShr s i) 1 = 1
  · have z := (sub_r hs pOv_r).2 h i i0 i3 c
    have z2 : 0 < pExc a p i (pRoom a p) := (bS3_has (f := fun k => 0 < pExc a p k (pRoom a p)) ⟨i0, i3⟩).mp z
    rw [if_pos c, if_pos c]
    omega
  · rw [if_neg c, if_neg c]
    omega
def agC (a : aA) (p t b s : Int) : Prop := (iAnd s (pOv a p 3) = s ∧ pTears a p s 3 ≤ t) ∧ (popc b < popc s ∨ (popc s = popc b ∧ pTears a p s 3 < pTears a p b 3))
def agS (a : aA) (p t : Int) (i : Int) : Int := fI (fun b s => if s = 0 then b else if (iAnd s (pOv a p 3) = s ∧ pTears a p s 3 ≤ t) ∧ (popc b < popc s ∨ (popc s = popc b ∧ pTears a p s 3 < pTears a p b 3)) then s else b) 0 i
theorem agS_s {a : aA} {p t i : Int} (h : 0 < i) : agS a p t (i + 1) = if (iAnd i (pOv a p 3) = i ∧ pTears a p i 3 ≤ t) ∧ (popc (agS a p t i) < popc i ∨ (popc i = popc (agS a p t i) ∧ pTears a p i 3 < pTears a p (agS a p t i) 3)) then i else agS a p t i := by
  have e := fI_s (st := fun b s => if s = 0 then b else if (iAnd s (pOv a p 3) = s ∧ pTears a p s 3 ≤ t) ∧ (popc b < popc s ∨ (popc s = popc b ∧ pTears a p s 3 < pTears a p b 3)) then s else b) (x := (0 : Int)) (i := i) (by omega)
  rw [if_neg (by omega)] at e
  exact e
theorem agS_1 {a : aA} {p t : Int} : agS a p t 1 = 0 := rfl
theorem agS_r {a : aA} {p t : Int} : ∀ i, 0 ≤ i → i ≤ 8 → (0 ≤ agS a p t i ∧ agS a p t i < 8) ∧ iAnd (agS a p t i) (pOv a p 3) = agS a p t i := by
  refine fI_i (st := fun b s => if s = 0 then b else if (iAnd s (pOv a p 3) = s ∧ pTears a p s 3 ≤ t) ∧ (popc b < popc s ∨ (popc s = popc b ∧ pTears a p s 3 < pTears a p b 3)) then s else b) (n := 8) (fun i y => (0 ≤ y ∧ y < 8) ∧ iAnd y (pOv a p 3) = y) ⟨by decide, ?_⟩ (fun i y i0 i6 z => ?_)
  · have q := pOv_r (a := a) (p := p)
    generalize pOv a p 3 = v at *
    have T : ∀ v : Fin 8, iAnd 0 v.val = 0 := by decide +kernel
    have := T ⟨v.toNat, by omega⟩
    simp only [Int.toNat_of_nonneg q.1] at this
    exact this
  · split
    · exact z
    · split
      · rename_i c
        exact ⟨⟨by omega, by omega⟩, c.1.1⟩
      · exact z
