theorem i32 {x : Int} (h1 : -2147483648 ≤ x) (h2 : x < 2147483648) : (Int32.ofInt x).toInt = x := by
  rw [Int32.toInt_ofInt]
  show Int.bmod x 4294967296 = x
  exact Int.bmod_eq_of_le (by omega) (by omega)
theorem i64 {x : Int} (h1 : -9223372036854775808 ≤ x) (h2 : x < 9223372036854775808) : (Int64.ofInt x).toInt = x := by
  rw [Int64.toInt_ofInt]
  show Int.bmod x 18446744073709551616 = x
  exact Int.bmod_eq_of_le (by omega) (by omega)
theorem i32r (x : Int32) : -2147483648 ≤ x.toInt ∧ x.toInt < 2147483648 := ⟨by have := Int32.minValue_le_toInt x; simpa using this, by have := Int32.toInt_lt x; simpa using this⟩
theorem i64r (x : Int64) : -9223372036854775808 ≤ x.toInt ∧ x.toInt < 9223372036854775808 := ⟨by have := Int64.le_toInt x; simpa using this, by have := Int64.toInt_lt x; simpa using this⟩
theorem i32back (x : Int32) : Int32.ofInt x.toInt = x := Int32.ofInt_toInt x
theorem i64back (x : Int64) : Int64.ofInt x.toInt = x := Int64.ofInt_toInt x
theorem i32eq {x y : Int} (hx : -2147483648 ≤ x ∧ x < 2147483648) (hy : -2147483648 ≤ y ∧ y < 2147483648) : Int32.ofInt x = Int32.ofInt y ↔ x = y := by
  rw [← Int32.toInt_inj, i32 hx.1 hx.2, i32 hy.1 hy.2]
theorem i32lt {x y : Int} (hx : -2147483648 ≤ x ∧ x < 2147483648) (hy : -2147483648 ≤ y ∧ y < 2147483648) : Int32.ofInt x < Int32.ofInt y ↔ x < y := by
  rw [Int32.lt_iff_toInt_lt, i32 hx.1 hx.2, i32 hy.1 hy.2]
theorem i32le {x y : Int} (hx : -2147483648 ≤ x ∧ x < 2147483648) (hy : -2147483648 ≤ y ∧ y < 2147483648) : Int32.ofInt x ≤ Int32.ofInt y ↔ x ≤ y := by
  rw [Int32.le_iff_toInt_le, i32 hx.1 hx.2, i32 hy.1 hy.2]
theorem i64eq {x y : Int} (hx : -9223372036854775808 ≤ x ∧ x < 9223372036854775808) (hy : -9223372036854775808 ≤ y ∧ y < 9223372036854775808) : Int64.ofInt x = Int64.ofInt y ↔ x = y := by
  rw [← Int64.toInt_inj, i64 hx.1 hx.2, i64 hy.1 hy.2]
theorem i64lt {x y : Int} (hx : -9223372036854775808 ≤ x ∧ x < 9223372036854775808) (hy : -9223372036854775808 ≤ y ∧ y < 9223372036854775808) : Int64.ofInt x < Int64.ofInt y ↔ x < y := by
  rw [Int64.lt_iff_toInt_lt, i64 hx.1 hx.2, i64 hy.1 hy.2]
theorem tdivR {x y M : Int} (hx : -M ≤ x ∧ x < M) (h : y ≠ 0 ∧ (0 ≤ x ∨ 0 ≤ y)) : -M ≤ x.tdiv y ∧ x.tdiv y < M := by
  have h1 : (x.tdiv y).natAbs ≤ x.natAbs := by rw [Int.natAbs_tdiv]; exact Nat.div_le_self _ _
  rcases h.2 with g | g
  · constructor <;> omega
  · have : 0 < y := by omega
    by_cases hz : 0 ≤ x
    · constructor <;> omega
    · have h3 : 0 ≤ (-x).tdiv y := Int.tdiv_nonneg (by omega) (by omega)
      rw [Int.neg_tdiv] at h3
      have h2 : x.tdiv y ≤ 0 := by omega
      constructor <;> omega
theorem tdivQ {x y M : Int} (hx : -M ≤ x ∧ x < M) (h : y ≠ 0 ∧ (0 ≤ x ∨ 0 ≤ y ∨ -M < x)) : -M ≤ x.tdiv y ∧ x.tdiv y < M := by
  rcases h.2 with g | g | g
  · exact tdivR hx ⟨h.1, Or.inl g⟩
  · exact tdivR hx ⟨h.1, Or.inr g⟩
  · have h1 : (x.tdiv y).natAbs ≤ x.natAbs := by rw [Int.natAbs_tdiv]; exact Nat.div_le_self _ _
    constructor <;> omega
theorem i32div {x y : Int} (hx : -2147483648 ≤ x ∧ x < 2147483648) (hy : -2147483648 ≤ y ∧ y < 2147483648) (h : y ≠ 0 ∧ (0 ≤ x ∨ 0 ≤ y)) : Int32.ofInt x / Int32.ofInt y = Int32.ofInt (x.tdiv y) := by
  apply Int32.toInt_inj.mp
  have g := tdivR (M := 2147483648) hx h
  rw [Int32.toInt_div, i32 hx.1 hx.2, i32 hy.1 hy.2, i32 g.1 g.2]
  exact Int.bmod_eq_of_le (by omega) (by omega)
theorem i64div {x y : Int} (hx : -9223372036854775808 ≤ x ∧ x < 9223372036854775808) (hy : -9223372036854775808 ≤ y ∧ y < 9223372036854775808) (h : y ≠ 0 ∧ (0 ≤ x ∨ 0 ≤ y ∨ -9223372036854775808 < x)) : Int64.ofInt x / Int64.ofInt y = Int64.ofInt (x.tdiv y) := by
  apply Int64.toInt_inj.mp
  have g := tdivQ (M := 9223372036854775808) hx h
  rw [Int64.toInt_div, i64 hx.1 hx.2, i64 hy.1 hy.2, i64 g.1 g.2]
  exact Int.bmod_eq_of_le (by omega) (by omega)
theorem i32rem {x y : Int} (hx : -2147483648 ≤ x ∧ x < 2147483648) (hy : -2147483648 ≤ y ∧ y < 2147483648) (h : y ≠ 0 ∧ (0 ≤ x ∨ 0 ≤ y)) : Int32.ofInt x - Int32.ofInt x / Int32.ofInt y * Int32.ofInt y = Int32.ofInt (x.tmod y) := by
  rw [i32div hx hy h, ← Int32.ofInt_mul, ← Int32.ofInt_sub]
  congr 1
  have := Int.tmod_add_mul_tdiv x y
  have e : x.tdiv y * y = y * x.tdiv y := Int.mul_comm _ _
  omega
theorem i64rem {x y : Int} (hx : -9223372036854775808 ≤ x ∧ x < 9223372036854775808) (hy : -9223372036854775808 ≤ y ∧ y < 9223372036854775808) (h : y ≠ 0 ∧ (0 ≤ x ∨ 0 ≤ y)) : Int64.ofInt x - Int64.ofInt x / Int64.ofInt y * Int64.ofInt y = Int64.ofInt (x.tmod y) := by
  rw [i64div hx hy ⟨h.1, h.2.imp id Or.inl⟩, ← Int64.ofInt_mul, ← Int64.ofInt_sub]
  congr 1
  have := Int.tmod_add_mul_tdiv x y
  have e : x.tdiv y * y = y * x.tdiv y := Int.mul_comm _ _
  omega
theorem tmodR {x y M : Int} (hx : -M ≤ x ∧ x < M) (h : y ≠ 0 ∧ (0 ≤ x ∨ 0 ≤ y)) : -M ≤ x.tmod y ∧ x.tmod y < M := by
  have h1 : (x.tmod y).natAbs ≤ x.natAbs := by rw [Int.natAbs_tmod]; exact Nat.mod_le _ _
  by_cases hz : 0 ≤ x
  · constructor <;> omega
  · have h3 : 0 ≤ (-x).tmod y := Int.tmod_nonneg _ (by omega)
    rw [Int.neg_tmod] at h3
    have h2 : x.tmod y ≤ 0 := by omega
    constructor <;> omega
theorem i32to64 {x : Int} (hx : -2147483648 ≤ x ∧ x < 2147483648) : (Int32.ofInt x).toInt64 = Int64.ofInt x := by
  apply Int64.toInt_inj.mp
  rw [Int32.toInt_toInt64, i32 hx.1 hx.2, i64 (by omega) (by omega)]
theorem i64to32 {x : Int} (hx : -2147483648 ≤ x ∧ x < 2147483648) : (Int64.ofInt x).toInt32 = Int32.ofInt x := by
  apply Int32.toInt_inj.mp
  rw [Int64.toInt_toInt32, i32 hx.1 hx.2, i64 (by omega) (by omega)]
  exact Int.bmod_eq_of_le (by omega) (by omega)
theorem i32neg {x : Int} : -(Int32.ofInt x) = Int32.ofInt (-x) := (Int32.ofInt_neg x).symm
theorem i64neg {x : Int} : -(Int64.ofInt x) = Int64.ofInt (-x) := (Int64.ofInt_neg x).symm
theorem i64cmp {x y : Int} (hx : -9223372036854775808 ≤ x ∧ x < 9223372036854775808) (hy : -9223372036854775808 ≤ y ∧ y < 9223372036854775808) : lg_cmp (Int64.ofInt x) (Int64.ofInt y) = Int32.ofInt (lcI x y) := by
  unfold lg_cmp lcI
  simp only [gt_iff_lt, i64lt hy hx, i64eq hx hy]
  by_cases h1 : x < y
  · rw [if_neg (by omega), if_neg (by omega), if_pos h1]; rfl
  · rw [if_neg h1]
    by_cases h2 : x = y
    · rw [if_neg (by omega), if_pos h2, if_pos h2]; rfl
    · rw [if_pos (by omega), if_neg h2]; rfl
theorem i32clamp {i : Int} (h0 : 0 ≤ i) (h1 : i < 2147483648) : (Int32.ofInt i).toNatClampNeg = i.toNat := by
  show (Int32.ofInt i).toInt.toNat = _
  rw [i32 (by omega) h1]
theorem i32in {i : Int} {n : Nat} (h0 : 0 ≤ i) (h1 : i < (n : Int)) (hn : n < 2147483648) : vp_in (Int32.ofInt i) n := by
  unfold vp_in
  rw [i32clamp h0 (by omega)]
  have e : (0 : Int32) = Int32.ofInt 0 := rfl
  rw [e, i32lt (by omega) (by omega)]
  omega
