/-! LEAVES OF THE REFERENCE -/
theorem sp_isIn {d : Nat} {n a b : Int} {h : Hp} {Q : aPO} (k : Q (vI (b2i (a ≤ n ∧ n ≤ b))) h) : Runs d 164 0 [vI n, vI a, vI b] [] h Q := by
  refine Runs.go 20 [] ?_
  refine br.i (fun c => ?_) (fun c => ?_)
  · exact ⟨by omega, QI k (b2i_f (by omega)).symm⟩
  · refine br.i (fun c2 => ?_) (fun c2 => ?_)
    · exact ⟨by omega, QI k (b2i_f (by omega)).symm⟩
    · exact ⟨by omega, QI k (b2i_t (by omega)).symm⟩
theorem sp_isOne {d : Nat} {p : Int} {h : Hp} {Q : aPO} (h0 : 0 ≤ h 85 0 ∧ h 85 0 ≤ 6) (k : Q (vI (b2i (0 ≤ p ∧ p < h 85 0))) h) : Runs (d + 1) 168 0 [vA 84, vI p] [] h Q := by
  refine Runs.go 20 [] ?_
  have e : -2147483648 ≤ h 85 0 - 1 ∧ h 85 0 - 1 < 2147483648 := by omega
  refine ⟨by decide, ?_⟩
  refine ⟨e, ?_⟩
  refine sp_isIn (b := h 85 0 - 1) ?_
  refine ⟨b2i_r _, QI k ?_⟩
  by_cases c : 0 ≤ p ∧ p < h 85 0
  · rw [b2i_t c, b2i_t (by omega)]
  · rw [b2i_f c, b2i_f (by omega)]
theorem sp_isKind {d : Nat} {p : Int} {h : Hp} {Q : aPO} (k : Q (vI (b2i (0 ≤ p ∧ p ≤ 2))) h) : Runs (d + 1) 169 0 [vI p] [] h Q := by
  refine Runs.go 20 [] ?_
  refine sp_isIn ?_
  exact ⟨b2i_r _, k⟩
theorem sp_get {d : Nat} {p w : Int} {h : Hp} {Q : aPO} (h1 : 0 ≤ p ∧ p < 6) (h2 : 0 ≤ w ∧ w < 9) (k : Q (vI (h 85 (12 + 9 * p + w))) h) : Runs d 170 0 [vA 84, vI p, vI w] [] h Q := by
  refine Runs.go 20 [] ?_
  refine ⟨by omega, ⟨by omega, ⟨by omega, ?_⟩⟩⟩
  exact ⟨⟨by omega, show _ < (3856 : Int) by omega⟩, k⟩
theorem sp_put {d : Nat} {p w v : Int} {h : Hp} {Q : aPO} (h1 : 0 ≤ p ∧ p < 6) (h2 : 0 ≤ w ∧ w < 9) (k : Q none (hup h 85 (12 + 9 * p + w) v)) : Runs d 171 0 [vA 84, vI p, vI w, vI v] [] h Q := by
  refine Runs.go 20 [] ?_
  refine ⟨by omega, ⟨by omega, ⟨by omega, ?_⟩⟩⟩
  exact ⟨⟨by omega, show _ < (3856 : Int) by omega⟩, k⟩
theorem sp_rRoomBy {d : Nat} {s t : Int} {h : Hp} {Q : aPO} (h1 : -10000 ≤ s ∧ s ≤ 10000) (h2 : -10000 ≤ t ∧ t ≤ 10000) (k : Q (vI (max 1 (s - t))) h) : Runs d 172 0 [vI s, vI t] [] h Q := by
  refine Runs.go 20 [] ?_
  refine ⟨by omega, ?_⟩
  refine br.i (fun c => ?_) (fun c => ?_)
  · exact ⟨by omega, QI k (by omega)⟩
  · exact QI k (by omega)
def roomR (h : Hp) (p : Int) : Int := max 1 (h 85 9 - h 85 (12 + 9 * p + 0))
theorem sp_roomOf {d : Nat} {p : Int} {h : Hp} {Q : aPO} (h1 : 0 ≤ p ∧ p < 6) (hs : -10000 ≤ h 85 9 ∧ h 85 9 ≤ 10000) (hd : -10000 ≤ h 85 (12 + 9 * p + 0) ∧ h 85 (12 + 9 * p + 0) ≤ 10000) (k : Q (vI (roomR h p)) h) : Runs (d + 1) 173 0 [vA 84, vI p] [] h Q := by
  refine Runs.go 20 [] ?_
  refine ⟨by decide, ?_⟩
  refine sp_get h1 (by omega) ?_
  exact sp_rRoomBy hs hd k
theorem sp_excess {d : Nat} {p kind room : Int} {h : Hp} {Q : aPO} (h1 : 0 ≤ p ∧ p < 6) (h2 : 0 ≤ kind ∧ kind < 3) (h7 : 0 ≤ h 85 (66 + kind) ∧ h 85 (66 + kind) ≤ 9) (h8 : 0 ≤ room ∧ room ≤ 200) (h9 : 0 ≤ h 85 (12 + 9 * p + (2 + kind)) ∧ h 85 (12 + 9 * p + (2 + kind)) ≤ 999) (k : Q (vI (h 85 (12 + 9 * p + (2 + kind)) - h 85 (66 + kind) * room)) h) : Runs (d + 1) 174 0 [vA 84, vI p, vI kind, vI room] [] h Q := by
  have hm : 0 ≤ h 85 (66 + kind) * room ∧ h 85 (66 + kind) * room ≤ 9 * 200 := ⟨Int.mul_nonneg h7.1 h8.1, Int.mul_le_mul h7.2 h8.2 h8.1 (by omega)⟩
  refine Runs.go 20 [] ?_
  refine ⟨by omega, ?_⟩
  refine sp_get h1 (by omega) ?_
  refine ⟨by omega, ?_⟩
  refine ⟨⟨by omega, show _ < (3856 : Int) by omega⟩, ?_⟩
  have e1 : -2147483648 ≤ h 85 (66 + kind) * room ∧ h 85 (66 + kind) * room < 2147483648 := by omega
  have e2 : -2147483648 ≤ h 85 (12 + 9 * p + (2 + kind)) - h 85 (66 + kind) * room ∧ h 85 (12 + 9 * p + (2 + kind)) - h 85 (66 + kind) * room < 2147483648 := by omega
  refine ⟨e1, ?_⟩
  exact ⟨e2, k⟩
/-- by how much p is above the brim of kind, in the reference -/
def excR (h : Hp) (p k room : Int) : Int := h 85 (12 + 9 * p + (2 + k)) - h 85 (66 + k) * room
theorem Inv.room {n : Nat} {h : Hp} (I : Inv n h) {p : Int} (h1 : 0 ≤ p ∧ p < 6) : 1 ≤ roomR h p ∧ roomR h p ≤ 99 := by
  have a := I.num.2.1.2
  have b := (I.per p h1.1 h1.2).2.1.2
  unfold roomR
  omega
theorem Inv.sRoomOf {n d : Nat} {p : Int} {h : Hp} {Q : aPO} (I : Inv n h) (h1 : 0 ≤ p ∧ p < 6) (k : Q (vI (roomR h p)) h) : Runs (d + 1) 173 0 [vA 84, vI p] [] h Q := by
  have a := I.num.2.1.2
  have b := (I.per p h1.1 h1.2).2.1.2
  exact sp_roomOf h1 (by omega) (by omega) k
theorem Inv.sExc {n d : Nat} {p kind room : Int} {h : Hp} {Q : aPO} (I : Inv n h) (h1 : 0 ≤ p ∧ p < 6) (h2 : 0 ≤ kind ∧ kind < 3) (h8 : 0 ≤ room ∧ room ≤ 200) (k : Q (vI (excR h p kind room)) h) : Runs (d + 1) 174 0 [vA 84, vI p, vI kind, vI room] [] h Q :=
  sp_excess h1 h2 (I.brim kind h2.1 h2.2).2 h8 ((I.per p h1.1 h1.2).2.2.2.1 kind h2.1 (by omega)).2 k
theorem Inv.sIsOver {n d : Nat} {p kind : Int} {h : Hp} {Q : aPO} (I : Inv n h) (h1 : 0 ≤ p ∧ p < 6) (h2 : 0 ≤ kind ∧ kind < 3) (k : Q (vI (b2i (0 < excR h p kind (roomR h p)))) h) : Runs (d + 2) 175 0 [vA 84, vI p, vI kind] [] h Q := by
  have r := I.room h1
  refine Runs.go 20 [] ?_
  refine I.sRoomOf h1 ?_
  refine I.sExc h1 h2 (by omega) ?_
  refine br.i (fun c => ?_) (fun c => ?_)
  · exact ⟨by omega, QI k (b2i_f (by omega)).symm⟩
  · exact ⟨by omega, QI k (b2i_t (by omega)).symm⟩
