/-! LEAVES OF THE CLASS, over the small machine -/
theorem br.i {c A B : Prop} (a : c → A) (b : ¬ c → B) : br c A B := ⟨a, b⟩
def b2i (c : Prop) [Decidable c] : Int := if c then 1 else 0
theorem b2i_t {c : Prop} [Decidable c] (h : c) : b2i c = 1 := if_pos h
theorem b2i_f {c : Prop} [Decidable c] (h : ¬ c) : b2i c = 0 := if_neg h
theorem b2i_r (c : Prop) [Decidable c] : b2i c = 0 ∨ b2i c = 1 := by unfold b2i; split <;> omega
theorem QI {Q : aPO} {a b : Int} {h : Hp} (k : Q (vI b) h) (e : a = b) : Q (vI a) h := by rw [e]; exact k
theorem QL {Q : aPO} {a b : Int} {h : Hp} (k : Q (vL b) h) (e : a = b) : Q (vL a) h := by rw [e]; exact k
theorem sp_between {d : Nat} {n a b : Int} {h : Hp} {Q : aPO} (k : Q (vI (b2i (a ≤ n ∧ n ≤ b))) h) : Runs d 162 0 [vI n, vI a, vI b] [] h Q := by
  refine Runs.go 20 [] ?_
  refine br.i (fun c => ?_) (fun c => ?_)
  · exact ⟨by omega, QI k (b2i_f (by omega)).symm⟩
  · refine br.i (fun c2 => ?_) (fun c2 => ?_)
    · exact ⟨by omega, QI k (b2i_f (by omega)).symm⟩
    · exact ⟨by omega, QI k (b2i_t (by omega)).symm⟩
theorem sp_isForb {d : Nat} {n : Int} {h : Hp} {Q : aPO} (k : Q (vI (b2i (0 ≤ n ∧ n ≤ 2))) h) : Runs (d + 1) 161 0 [vI n] [] h Q := by
  refine Runs.go 20 [] ?_
  refine sp_between ?_
  exact ⟨b2i_r _, k⟩
theorem sp_has {d : Nat} {one : Int} {h : Hp} {Q : aPO} (k : Q (vI (b2i (0 ≤ one ∧ one < h 2 0))) h) : Runs d 7 0 [vA 2, vI one] [] h Q := by
  refine Runs.go 20 [] ?_
  refine br.i (fun c => ?_) (fun c => ?_)
  · exact ⟨by omega, QI k (b2i_f (by omega)).symm⟩
  · refine br.i (fun c2 => ?_) (fun c2 => ?_)
    · exact ⟨by omega, QI k (b2i_f (by omega)).symm⟩
    · exact ⟨by omega, QI k (b2i_t (by omega)).symm⟩
theorem sp_isCase {d : Nat} {one kind : Int} {h : Hp} {Q : aPO} (k : Q (vI (b2i ((0 ≤ one ∧ one < h 2 0) ∧ 0 ≤ kind ∧ kind ≤ 2))) h) : Runs (d + 2) 160 0 [vA 0, vI one, vI kind] [] h Q := by
  refine Runs.go 20 [] ?_
  refine sp_has ?_
  refine br.i (fun c => ?_) (fun c => ?_)
  · refine ⟨by omega, QI k ?_⟩
    rw [b2i_f]
    intro z
    rw [b2i_t z.1] at c
    omega
  · have c1 : 0 ≤ one ∧ one < h 2 0 := by
      by_cases z : 0 ≤ one ∧ one < h 2 0
      · exact z
      · exact absurd (b2i_f z) c
    refine sp_isForb ?_
    refine br.i (fun c2 => ?_) (fun c2 => ?_)
    · refine ⟨by omega, QI k ?_⟩
      rw [b2i_f]
      intro z
      rw [b2i_t z.2] at c2
      omega
    · have c3 : 0 ≤ kind ∧ kind ≤ 2 := by
        by_cases z : 0 ≤ kind ∧ kind ≤ 2
        · exact z
        · exact absurd (b2i_f z) c2
      exact ⟨by omega, QI k (b2i_t ⟨c1, c3⟩).symm⟩
theorem sp_roomBy {d : Nat} {s t : Int} {h : Hp} {Q : aPO} (h1 : -10000 ≤ s ∧ s ≤ 10000) (h2 : -10000 ≤ t ∧ t ≤ 10000) (k : Q (vI (max 1 (s - t))) h) : Runs d 9 0 [vI s, vI t] [] h Q := by
  refine Runs.go 20 [] ?_
  refine ⟨by omega, ?_⟩
  exact k
/-- the class's room of one -/
def roomC (h : Hp) (one : Int) : Int := max 1 (h 2 1 - h 4 one)
theorem sp_room {d : Nat} {one : Int} {h : Hp} {Q : aPO} (h1 : -10000 ≤ h 2 1 ∧ h 2 1 ≤ 10000) (h2 : -10000 ≤ h 4 one ∧ h 4 one ≤ 10000) (h3 : 0 ≤ one) (h4 : one < 6) (k : Q (vI (roomC h one)) h) : Runs (d + 1) 8 0 [vA 2, vI one] [] h Q := by
  refine Runs.go 20 [] ?_
  refine ⟨⟨h3, h4⟩, ?_⟩
  exact sp_roomBy h1 h2 k
theorem sp_amount {d : Nat} {one kind : Int} {h : Hp} {Q : aPO} (h3 : 0 ≤ one) (h4 : one < 6) (h5 : 0 ≤ kind) (h6 : kind < 4) (k : Q (vI (h 6 (one * 4 + kind))) h) : Runs d 10 0 [vA 2, vI one, vI kind] [] h Q := by
  refine Runs.go 20 [] ?_
  refine ⟨by omega, ?_⟩
  refine ⟨by omega, ?_⟩
  exact ⟨⟨by omega, show _ < (24 : Int) by omega⟩, k⟩
theorem sp_setAmount {d : Nat} {one kind v : Int} {h : Hp} {Q : aPO} (h3 : 0 ≤ one) (h4 : one < 6) (h5 : 0 ≤ kind) (h6 : kind < 4) (k : Q none (hup h 6 (one * 4 + kind) (max 0 (min 999 v)))) : Runs d 11 0 [vA 2, vI one, vI kind, vI v] [] h Q := by
  refine Runs.go 20 [] ?_
  refine ⟨by omega, ?_⟩
  refine ⟨by omega, ?_⟩
  exact ⟨⟨by omega, show _ < (24 : Int) by omega⟩, k⟩
theorem sp_above {d : Nat} {one kind room : Int} {h : Hp} {Q : aPO} (h3 : 0 ≤ one) (h4 : one < 6) (h5 : 0 ≤ kind) (h6 : kind < 3) (h7 : 0 ≤ h 7 kind ∧ h 7 kind ≤ 9) (h8 : 0 ≤ room ∧ room ≤ 200) (h9 : 0 ≤ h 6 (one * 4 + kind) ∧ h 6 (one * 4 + kind) ≤ 999) (k : Q (vI (h 6 (one * 4 + kind) - h 7 kind * room)) h) : Runs (d + 1) 12 0 [vA 2, vI one, vI kind, vI room] [] h Q := by
  have hm : 0 ≤ h 7 kind * room ∧ h 7 kind * room ≤ 9 * 200 := ⟨Int.mul_nonneg h7.1 h8.1, Int.mul_le_mul h7.2 h8.2 h8.1 (by omega)⟩
  refine Runs.go 20 [] ?_
  refine sp_amount h3 h4 h5 (by omega) ?_
  refine ⟨⟨h5, h6⟩, ?_⟩
  have e1 : -2147483648 ≤ h 7 kind * room ∧ h 7 kind * room < 2147483648 := by omega
  have e2 : -2147483648 ≤ h 6 (one * 4 + kind) - h 7 kind * room ∧ h 6 (one * 4 + kind) - h 7 kind * room < 2147483648 := by omega
  refine ⟨e1, ?_⟩
  exact ⟨e2, k⟩
