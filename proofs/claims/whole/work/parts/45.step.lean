/-! CHANGES behind a step -/
section WP
variable {h h1 : Hp} {c : Nat} {a a1 : aA} {n m : Int}
theorem CG.wPer0 (I : CG h c a n) (eo : ∀ o, c ≤ o → o ≤ c + 22 → o ≠ c + 2 → o ≠ c + 3 → o ≠ c + 4 → h1 o = h o) (ea : ∀ j, ¬ (12 ≤ j ∧ j < 66) → a1 j = a j) (eT : ∀ p, 0 ≤ p → p < 6 → a1 (12 + 9 * p + 7) = a (12 + 9 * p + 7) ∧ a1 (12 + 9 * p + 8) = a (12 + 9 * p + 8)) (nPer : cPer h1 c a1) (nNow : cNow a1) : CG h1 c a1 n := by
  obtain ⟨i1, i2, i3, i4, i5, i6, i7, i8, i9, i10, i11⟩ := I
  have q0 := i1.1.2
  have q3 := i10.1.2.2
  exact ⟨i1.cg (fun j _ _ => congrFun (eo c (by omega) (by omega) (by omega) (by omega) (by omega)) j) (fun j _ _ _ => ea j (by omega)),
    nPer,
    i3.cg (fun j _ _ => congrFun (eo (c + 5) (by omega) (by omega) (by omega) (by omega) (by omega)) j) (fun j _ _ => ea j (by omega)),
    i4.cg (fun j _ _ => congrFun (eo (c + 6) (by omega) (by omega) (by omega) (by omega) (by omega)) j) (fun j _ _ => ea j (by omega)),
    i5.cg (fun j _ _ => congrFun (eo (c + 7) (by omega) (by omega) (by omega) (by omega) (by omega)) j) (fun j _ _ => ea j (by omega)),
    i6.cg (congrFun (eo (c + 9) (by omega) (by omega) (by omega) (by omega) (by omega)) 3) (fun i _ _ j _ _ => congrFun (eo (c + i) (by omega) (by omega) (by omega) (by omega) (by omega)) j) (ea 4 (by omega)) (fun j _ _ => ea j (by omega)),
    i7.cg (congrFun (eo (c + 13) (by omega) (by omega) (by omega) (by omega) (by omega)) 3) (fun i _ _ j _ _ => congrFun (eo (c + i) (by omega) (by omega) (by omega) (by omega) (by omega)) j) (ea 5 (by omega)) (fun j _ _ => ea j (by omega)),
    i8.cg (congrFun (eo (c + 17) (by omega) (by omega) (by omega) (by omega) (by omega)) 3) (fun i _ _ j _ _ => congrFun (eo (c + i) (by omega) (by omega) (by omega) (by omega) (by omega)) j) (ea 6 (by omega)) (fun j _ _ => ea j (by omega)),
    i9.cg (congrFun (eo c (by omega) (by omega) (by omega) (by omega) (by omega)) 6) (fun j _ _ => congrFun (eo (c + 8) (by omega) (by omega) (by omega) (by omega) (by omega)) j) (ea 11 (by omega)) (fun j _ _ => ea j (by omega)),
    i10.cg (congrFun (eo (c + 21) (by omega) (by omega) (by omega) (by omega) (by omega)) 1) (congrFun (eo (c + 21) (by omega) (by omega) (by omega) (by omega) (by omega)) 2) (fun j _ _ => congrFun (eo (c + 22) (by omega) (by omega) (by omega) (by omega) (by omega)) j) q0.2 (Int.le_of_eq (ea 0 (by omega)).symm) (ea 3 (by omega)) (ea 11 (by omega)) (fun p _ _ => eT p (by omega) (by omega)) (fun j _ _ => ea j (by omega)),
    nNow⟩
theorem CG.wNum (I : CG h c a n) (eo : ∀ o, c ≤ o → o ≤ c + 22 → o ≠ c → h1 o = h o) (ea : ∀ j, ¬ (8 ≤ j ∧ j < 11) → a1 j = a j) (e6 : h1 c 6 = h c 6) (nNum : cNum h1 c a1) : CG h1 c a1 n := by
  obtain ⟨i1, i2, i3, i4, i5, i6, i7, i8, i9, i10, i11⟩ := I
  have q0 := i1.1.2
  have q3 := i10.1.2.2
  exact ⟨nNum,
    i2.cg (fun i _ _ j _ _ => congrFun (eo (c + i) (by omega) (by omega) (by omega)) j) (fun j _ _ => congrFun (eo (c + 4) (by omega) (by omega) (by omega)) j) (fun j _ _ => ea j (by omega)),
    i3.cg (fun j _ _ => congrFun (eo (c + 5) (by omega) (by omega) (by omega)) j) (fun j _ _ => ea j (by omega)),
    i4.cg (fun j _ _ => congrFun (eo (c + 6) (by omega) (by omega) (by omega)) j) (fun j _ _ => ea j (by omega)),
    i5.cg (fun j _ _ => congrFun (eo (c + 7) (by omega) (by omega) (by omega)) j) (fun j _ _ => ea j (by omega)),
    i6.cg (congrFun (eo (c + 9) (by omega) (by omega) (by omega)) 3) (fun i _ _ j _ _ => congrFun (eo (c + i) (by omega) (by omega) (by omega)) j) (ea 4 (by omega)) (fun j _ _ => ea j (by omega)),
    i7.cg (congrFun (eo (c + 13) (by omega) (by omega) (by omega)) 3) (fun i _ _ j _ _ => congrFun (eo (c + i) (by omega) (by omega) (by omega)) j) (ea 5 (by omega)) (fun j _ _ => ea j (by omega)),
    i8.cg (congrFun (eo (c + 17) (by omega) (by omega) (by omega)) 3) (fun i _ _ j _ _ => congrFun (eo (c + i) (by omega) (by omega) (by omega)) j) (ea 6 (by omega)) (fun j _ _ => ea j (by omega)),
    i9.cg e6 (fun j _ _ => congrFun (eo (c + 8) (by omega) (by omega) (by omega)) j) (ea 11 (by omega)) (fun j _ _ => ea j (by omega)),
    i10.cg (congrFun (eo (c + 21) (by omega) (by omega) (by omega)) 1) (congrFun (eo (c + 21) (by omega) (by omega) (by omega)) 2) (fun j _ _ => congrFun (eo (c + 22) (by omega) (by omega) (by omega)) j) q0.2 (Int.le_of_eq (ea 0 (by omega)).symm) (ea 3 (by omega)) (ea 11 (by omega)) (fun p _ _ => ⟨ea _ (by omega), ea _ (by omega)⟩) (fun j _ _ => ea j (by omega)),
    i11.cg q3 i10.hp q0.2 (fun j _ _ _ => ea j (by omega))⟩
theorem CG.wLaw (I : CG h c a n) (eo : ∀ o, c ≤ o → o ≤ c + 22 → o ≠ c → h1 o = h o) (ea : ∀ j, ¬ (j = 2) → a1 j = a j) (e6 : h1 c 6 = h c 6) (nNum : cNum h1 c a1) : CG h1 c a1 n := by
  obtain ⟨i1, i2, i3, i4, i5, i6, i7, i8, i9, i10, i11⟩ := I
  have q0 := i1.1.2
  have q3 := i10.1.2.2
  exact ⟨nNum,
    i2.cg (fun i _ _ j _ _ => congrFun (eo (c + i) (by omega) (by omega) (by omega)) j) (fun j _ _ => congrFun (eo (c + 4) (by omega) (by omega) (by omega)) j) (fun j _ _ => ea j (by omega)),
    i3.cg (fun j _ _ => congrFun (eo (c + 5) (by omega) (by omega) (by omega)) j) (fun j _ _ => ea j (by omega)),
    i4.cg (fun j _ _ => congrFun (eo (c + 6) (by omega) (by omega) (by omega)) j) (fun j _ _ => ea j (by omega)),
    i5.cg (fun j _ _ => congrFun (eo (c + 7) (by omega) (by omega) (by omega)) j) (fun j _ _ => ea j (by omega)),
    i6.cg (congrFun (eo (c + 9) (by omega) (by omega) (by omega)) 3) (fun i _ _ j _ _ => congrFun (eo (c + i) (by omega) (by omega) (by omega)) j) (ea 4 (by omega)) (fun j _ _ => ea j (by omega)),
    i7.cg (congrFun (eo (c + 13) (by omega) (by omega) (by omega)) 3) (fun i _ _ j _ _ => congrFun (eo (c + i) (by omega) (by omega) (by omega)) j) (ea 5 (by omega)) (fun j _ _ => ea j (by omega)),
    i8.cg (congrFun (eo (c + 17) (by omega) (by omega) (by omega)) 3) (fun i _ _ j _ _ => congrFun (eo (c + i) (by omega) (by omega) (by omega)) j) (ea 6 (by omega)) (fun j _ _ => ea j (by omega)),
    i9.cg e6 (fun j _ _ => congrFun (eo (c + 8) (by omega) (by omega) (by omega)) j) (ea 11 (by omega)) (fun j _ _ => ea j (by omega)),
    i10.cg (congrFun (eo (c + 21) (by omega) (by omega) (by omega)) 1) (congrFun (eo (c + 21) (by omega) (by omega) (by omega)) 2) (fun j _ _ => congrFun (eo (c + 22) (by omega) (by omega) (by omega)) j) q0.2 (Int.le_of_eq (ea 0 (by omega)).symm) (ea 3 (by omega)) (ea 11 (by omega)) (fun p _ _ => ⟨ea _ (by omega), ea _ (by omega)⟩) (fun j _ _ => ea j (by omega)),
    i11.cg q3 i10.hp q0.2 (fun j _ _ _ => ea j (by omega))⟩
theorem CG.wBook {m : Int} (I : CG h c a n) (eo : ∀ o, c ≤ o → o ≤ c + 22 → o ≠ c → o ≠ c + 8 → h1 o = h o) (ea : ∀ j, ¬ (j = 11) → ¬ (1396 ≤ j ∧ j < 3856) → a1 j = a j) (nNum : cNum h1 c a1) (nBook : cBook h1 c a1 m) (nSteps : cSteps h1 c a1) (nNow : cNow a1) : CG h1 c a1 m := by
  obtain ⟨i1, i2, i3, i4, i5, i6, i7, i8, i9, i10, i11⟩ := I
  have q0 := i1.1.2
  have q3 := i10.1.2.2
  exact ⟨nNum,
    i2.cg (fun i _ _ j _ _ => congrFun (eo (c + i) (by omega) (by omega) (by omega) (by omega)) j) (fun j _ _ => congrFun (eo (c + 4) (by omega) (by omega) (by omega) (by omega)) j) (fun j _ _ => ea j (by omega) (by omega)),
    i3.cg (fun j _ _ => congrFun (eo (c + 5) (by omega) (by omega) (by omega) (by omega)) j) (fun j _ _ => ea j (by omega) (by omega)),
    i4.cg (fun j _ _ => congrFun (eo (c + 6) (by omega) (by omega) (by omega) (by omega)) j) (fun j _ _ => ea j (by omega) (by omega)),
    i5.cg (fun j _ _ => congrFun (eo (c + 7) (by omega) (by omega) (by omega) (by omega)) j) (fun j _ _ => ea j (by omega) (by omega)),
    i6.cg (congrFun (eo (c + 9) (by omega) (by omega) (by omega) (by omega)) 3) (fun i _ _ j _ _ => congrFun (eo (c + i) (by omega) (by omega) (by omega) (by omega)) j) (ea 4 (by omega) (by omega)) (fun j _ _ => ea j (by omega) (by omega)),
    i7.cg (congrFun (eo (c + 13) (by omega) (by omega) (by omega) (by omega)) 3) (fun i _ _ j _ _ => congrFun (eo (c + i) (by omega) (by omega) (by omega) (by omega)) j) (ea 5 (by omega) (by omega)) (fun j _ _ => ea j (by omega) (by omega)),
    i8.cg (congrFun (eo (c + 17) (by omega) (by omega) (by omega) (by omega)) 3) (fun i _ _ j _ _ => congrFun (eo (c + i) (by omega) (by omega) (by omega) (by omega)) j) (ea 6 (by omega) (by omega)) (fun j _ _ => ea j (by omega) (by omega)),
    nBook,
    nSteps,
    nNow⟩
theorem PK.cg (h3 : a 3 ≤ 30) (e0 : a1 0 = a 0) (e3 : a1 3 = a 3) (e11 : a1 11 = a 11) (ea : ∀ j, 166 ≤ j → j < 1396 → a1 j = a j) (p : PK a m) : PK a1 m := by
  unfold PK at *
  rw [e0, e3, e11, ea _ (by omega) (by omega), ea _ (by omega) (by omega)]
  exact p
theorem PK.le {m2 : Int} (hm : m ≤ m2) (p : PK a m) : PK a m2 := ⟨p.1, by have := p.2; omega⟩
theorem PK.now (p : PK a m) : cNow a := by
  intro q q3 q0 q1
  rw [p.1.2] at q0
  omega
theorem CG.setPer (I : CG h c a n) (p : PK a m) (eo : ∀ o, c ≤ o → o ≤ c + 22 → o ≠ c + 2 → o ≠ c + 3 → o ≠ c + 4 → h1 o = h o) (ea : ∀ j, ¬ (12 ≤ j ∧ j < 66) → a1 j = a j)
    (eT : ∀ p, 0 ≤ p → p < 6 → a1 (12 + 9 * p + 7) = a (12 + 9 * p + 7) ∧ a1 (12 + 9 * p + 8) = a (12 + 9 * p + 8)) (nP : cPer h1 c a1) : CG h1 c a1 n ∧ PK a1 m := by
  have q := p.cg (a1 := a1) I.steps.1.2.2 (ea _ (by omega)) (ea _ (by omega)) (ea _ (by omega)) (fun j _ _ => ea j (by omega))
  exact ⟨I.wPer0 eo ea eT nP q.now, q⟩
theorem CG.setNum (I : CG h c a n) (eo : ∀ o, c ≤ o → o ≤ c + 22 → o ≠ c → h1 o = h o) (ea : ∀ j, ¬ (8 ≤ j ∧ j < 11) → a1 j = a j) (e6 : h1 c 6 = h c 6) (nN : cNum h1 c a1) : CG h1 c a1 n ∧ (PK a m → PK a1 m) :=
  ⟨I.wNum eo ea e6 nN, fun p => p.cg (a1 := a1) I.steps.1.2.2 (ea _ (by omega)) (ea _ (by omega)) (ea _ (by omega)) (fun j _ _ => ea j (by omega))⟩
theorem cPer.amt {p k v : Int} (I : cPer h c a) (hp : 0 ≤ p ∧ p < 6) (hk : 0 ≤ k ∧ k < 4) (hv : 0 ≤ v ∧ v ≤ 999) : cPer (hup h (c + 4) (p * 4 + k) v) c (aset a (12 + 9 * p + (2 + k)) v) := by
  intro q q0 q6
  have J := I q q0 q6
  unfold cOne at *
  rw [hup_o (show c + 1 ≠ c + 4 by omega), hup_o (show c + 2 ≠ c + 4 by omega), hup_o (show c + 3 ≠ c + 4 by omega), aset_ne (show 12 + 9 * q + 6 ≠ 12 + 9 * p + (2 + k) by omega), aset_ne (show 12 + 9 * q + 0 ≠ 12 + 9 * p + (2 + k) by omega), aset_ne (show 12 + 9 * q + 1 ≠ 12 + 9 * p + (2 + k) by omega), aset_ne (show 12 + 9 * q + 7 ≠ 12 + 9 * p + (2 + k) by omega), aset_ne (show 12 + 9 * q + 8 ≠ 12 + 9 * p + (2 + k) by omega)]
  refine ⟨J.1, J.2.1, J.2.2.1, fun i i0 i4 => ?_, J.2.2.2.2⟩
  by_cases e : q = p ∧ i = k
  · rw [e.1, e.2, hup_eq, aset_eq]
    exact ⟨rfl, hv⟩
  · rw [hup_nj (by omega), aset_ne (by omega)]
    exact J.2.2.2.1 i i0 i4
theorem cPer.dnt {p v : Int} (I : cPer h c a) (hp : 0 ≤ p ∧ p < 6) (hv : 0 ≤ v ∧ v ≤ 9) : cPer (hup h (c + 2) p v) c (aset a (12 + 9 * p + 0) v) := by
  intro q q0 q6
  have J := I q q0 q6
  unfold cOne at *
  rw [hup_o (show c + 1 ≠ c + 2 by omega), hup_o (show c + 3 ≠ c + 2 by omega), hup_o (show c + 4 ≠ c + 2 by omega), aset_ne (show 12 + 9 * q + 6 ≠ 12 + 9 * p + 0 by omega), aset_ne (show 12 + 9 * q + 1 ≠ 12 + 9 * p + 0 by omega), aset_ne (show 12 + 9 * q + 7 ≠ 12 + 9 * p + 0 by omega), aset_ne (show 12 + 9 * q + 8 ≠ 12 + 9 * p + 0 by omega)]
  refine ⟨J.1, ?_, J.2.2.1, fun i i0 i4 => ?_, J.2.2.2.2⟩
  · by_cases e : q = p
    · rw [e, hup_eq, aset_eq]
      exact ⟨rfl, hv⟩
    · rw [hup_nj e, aset_ne (by omega)]
      exact J.2.1
  · rw [aset_ne (by omega)]
    exact J.2.2.2.1 i i0 i4
theorem cPer.coi {p v : Int} (I : cPer h c a) (hp : 0 ≤ p ∧ p < 6) (hv : 0 ≤ v ∧ v ≤ 9999) : cPer (hup h (c + 3) p v) c (aset a (12 + 9 * p + 1) v) := by
  intro q q0 q6
  have J := I q q0 q6
  unfold cOne at *
  rw [hup_o (show c + 1 ≠ c + 3 by omega), hup_o (show c + 2 ≠ c + 3 by omega), hup_o (show c + 4 ≠ c + 3 by omega), aset_ne (show 12 + 9 * q + 6 ≠ 12 + 9 * p + 1 by omega), aset_ne (show 12 + 9 * q + 0 ≠ 12 + 9 * p + 1 by omega), aset_ne (show 12 + 9 * q + 7 ≠ 12 + 9 * p + 1 by omega), aset_ne (show 12 + 9 * q + 8 ≠ 12 + 9 * p + 1 by omega)]
  refine ⟨J.1, J.2.1, ?_, fun i i0 i4 => ?_, J.2.2.2.2⟩
  · by_cases e : q = p
    · rw [e, hup_eq, aset_eq]
      exact ⟨rfl, hv⟩
    · rw [hup_nj e, aset_ne (by omega)]
      exact J.2.2.1
  · rw [aset_ne (by omega)]
    exact J.2.2.2.1 i i0 i4
end WP
theorem cutI_m {v : Int} : cutI 0 999 v = max 0 (min 999 v) := by
  unfold cutI
  split
  · omega
  · split <;> omega
def pPut (a : aA) (p w v : Int) : aA := aset a (12 + 9 * p + w) v
section ST
variable {d : Nat} {h : Hp} {Q : aPO} {a : aA} {n m : Int}
theorem CG.amt {p k v : Int} (I : CG h 2 a n) (pk : PK a m) (hp : 0 ≤ p ∧ p < 6) (hk : 0 ≤ k ∧ k < 4) (hv : 0 ≤ v ∧ v ≤ 999) : CG (hup h 6 (p * 4 + k) v) 2 (pPut a p (2 + k) v) n ∧ PK (pPut a p (2 + k) v) m :=
  I.setPer pk (fun o _ _ _ _ e => hup_o e) (fun j e => aset_ne (by omega)) (fun q _ _ => ⟨aset_ne (by omega), aset_ne (by omega)⟩) (cPer.amt I.per hp hk hv)
theorem CG.dnt {p v : Int} (I : CG h 2 a n) (pk : PK a m) (hp : 0 ≤ p ∧ p < 6) (hv : 0 ≤ v ∧ v ≤ 9) : CG (hup h 4 p v) 2 (pPut a p 0 v) n ∧ PK (pPut a p 0 v) m :=
  I.setPer pk (fun o _ _ e _ _ => hup_o e) (fun j e => aset_ne (by omega)) (fun q _ _ => ⟨aset_ne (by omega), aset_ne (by omega)⟩) (cPer.dnt I.per hp hv)
theorem CG.coi {p v : Int} (I : CG h 2 a n) (pk : PK a m) (hp : 0 ≤ p ∧ p < 6) (hv : 0 ≤ v ∧ v ≤ 9999) : CG (hup h 5 p v) 2 (pPut a p 1 v) n ∧ PK (pPut a p 1 v) m :=
  I.setPer pk (fun o _ _ _ e _ => hup_o e) (fun j e => aset_ne (by omega)) (fun q _ _ => ⟨aset_ne (by omega), aset_ne (by omega)⟩) (cPer.coi I.per hp hv)
theorem c_setAmount {p kd v : Int} (I : CG h 2 a n) (pk : PK a m) (hp : 0 ≤ p ∧ p < 6) (hk : 0 ≤ kd ∧ kd < 4) (k : ∀ h1, CG h1 2 (pPut a p (2 + kd) (cutI 0 999 v)) n → PK (pPut a p (2 + kd) (cutI 0 999 v)) m → (∀ o, o ≠ 6 → h1 o = h o) → Q none h1) : Runs d 11 0 [vA 2, vI p, vI kd, vI v] [] h Q := by
  refine sp_setAmount hp.1 hp.2 hk.1 hk.2 ?_
  rw [← cutI_m]
  have J := I.amt pk hp hk (cutI_r (lo := 0) (hi := 999) (v := v) (by decide))
  exact k _ J.1 J.2 (fun o e => hup_o e)
/-- by hand a step is kept, in centuries it isn't -/
def pSt (z : Int) (a : aA) : aA := if z = 0 then pKeep a else a
theorem c_step {z : Int} (I : CG h 2 a n) (hz : h 1 3 = z) (h01 : z = 0 ∨ z = 1) (hm : 0 ≤ m) (pk : z = 1 → PK a m) (k : ∀ h1, CG h1 2 (pSt z a) n → PK (pSt z a) m → (∀ o, o ≠ 23 → o ≠ 24 → h1 o = h o) → Q none h1) : Runs (d + 1) 44 0 [vA 1] [] h Q := by
  unfold pSt at k
  refine Runs.go 20 [] ?_
  refine br.i (fun c => ?_) (fun c => ?_)
  · have c1 : h 1 3 ≠ 0 := c
    rw [if_neg (by omega)] at k
    exact k h I (pk (by omega)) (fun _ _ _ => rfl)
  · have c1 : h 1 3 = 0 := Decidable.not_not.mp c
    rw [if_pos (by omega)] at k
    exact c_keep I (fun h1 J p f => k h1 J (p.le hm) f)
theorem r_more {p kd v : Int} (w : Wf (h 85)) (hp : 0 ≤ p ∧ p < 6) (hk : 0 ≤ kd ∧ kd < 4) (hv : -1000 ≤ v ∧ v ≤ 1000) (k : Q none (hup h 85 (12 + 9 * p + (2 + kd)) (cutI 0 999 (h 85 (12 + 9 * p + (2 + kd)) + v)))) : Runs (d + 1) 240 0 [vA 84, vI p, vI kd, vI v] [] h Q := by
  have z := w.drop hp hk
  refine Runs.go 40 [] ?_
  refine ⟨by omega, ⟨by omega, ?_⟩⟩
  refine r_get hp (by omega) ?_
  refine ⟨by omega, ?_⟩
  refine r_cut (by decide) ?_
  refine r_put hp (by omega) ?_
  exact k
end ST
