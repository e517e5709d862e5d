/-! TEXTS: what the reference's code says -/
section ER
variable {D : Nat} {Q : aPO} {h : Hp}
theorem r_clip {v : Int} (q : Q (vL (clp v)) h) : Runs D 224 0 [vL v, none] [] h Q := by
  have L1 := @lcI_lt v 1000000
  have L2 := @lcI_lt v (-1000000)
  unfold clp cutI at q
  refine Runs.go 20 [] ?_
  refine br.i (fun z => ?_) (fun z => ?_)
  · have z' : v ≤ 1000000 := L1.2.2.1.mp z
    refine br.i (fun y => ?_) (fun y => ?_)
    · have y' : -1000000 ≤ v := L2.2.2.2.mp y
      rw [if_neg (by omega), if_neg (by omega)] at q
      exact q
    · have y' : ¬ -1000000 ≤ v := fun w => y (L2.2.2.2.mpr w)
      rw [if_pos (by omega)] at q
      exact q
  · have z' : ¬ v ≤ 1000000 := fun w => z (L1.2.2.1.mpr w)
    rw [if_neg (by omega), if_pos (by omega)] at q
    exact q
theorem mul_rg {a b : Int} (h1 : rg a) (h2 : rg b) : -1000000000000 ≤ a * b ∧ a * b ≤ 1000000000000 := by
  unfold rg at h1 h2
  have n : (a * b).natAbs ≤ 1000000 * 1000000 := by
    rw [Int.natAbs_mul]
    exact Nat.mul_le_mul (by omega) (by omega)
  omega
theorem r_two {c a b : Int} (hc : c = 39 ∨ c = 40 ∨ c = 41 ∨ c = 42) (h1 : rg a) (h2 : rg b) (q : Q (vL (opB c a b)) h) : Runs (D + 1) 225 0 [vI (rOp c), vL a, none, vL b, none] [] h Q := by
  have hm := mul_rg h1 h2
  unfold rg at h1 h2
  have Zb := @lcI_0 b 0
  unfold opB at q
  rcases hc with e | e | e | e <;> subst e
  · rw [if_pos rfl] at q
    refine Runs.go 20 [] ?_
    refine br.t rfl ?_
    exact ⟨by omega, r_clip q⟩
  · rw [if_neg (by decide), if_pos rfl] at q
    refine Runs.go 20 [] ?_
    refine br.f (by decide) (br.t rfl ?_)
    exact ⟨by omega, r_clip q⟩
  · rw [if_neg (by decide), if_neg (by decide), if_pos rfl] at q
    refine Runs.go 20 [] ?_
    refine br.f (by decide) (br.f (by decide) (br.t rfl ?_))
    exact ⟨by omega, r_clip q⟩
  · rw [if_neg (by decide), if_neg (by decide), if_neg (by decide), if_pos rfl] at q
    refine Runs.go 20 [] ?_
    refine br.f (by decide) (br.f (by decide) (br.f (by decide) ?_))
    refine br.j (fun z => ?_) (fun z => ?_)
    · have z' : b = 0 := Zb.mp (Decidable.not_not.mp z)
      rw [if_pos z'] at q
      exact q
    · have z' : ¬ b = 0 := fun y => z (Zb.mpr y)
      rw [if_neg z'] at q
      exact ⟨⟨z', Or.inr (Or.inr (by omega))⟩, r_clip q⟩
theorem ab_eq {a b : Int} (h1 : rg a) (h2 : rg b) : opB 23 a b = if a - b < 0 then 0 else if 1000000 < a - b then 1000000 else a - b := by
  unfold rg at h1 h2
  unfold opB
  rw [if_neg (by decide), if_neg (by decide), if_neg (by decide), if_neg (by decide), if_pos rfl]
  unfold clp cutI
  by_cases z : b < a
  · rw [if_pos z, if_neg (by omega), if_neg (show ¬ a - b < 0 by omega)]
  · rw [if_neg z, if_neg (by decide), if_neg (by decide)]
    by_cases w : a - b < 0
    · rw [if_pos w]
    · rw [if_neg w, if_neg (by omega)]
      omega
theorem r_above {a b : Int} (h1 : rg a) (h2 : rg b) (q : Q (vL (opB 23 a b)) h) : Runs D 229 0 [vL a, none, vL b, none] [] h Q := by
  rw [ab_eq h1 h2] at q
  unfold rg at h1 h2
  have L1 := @lcI_lt (a - b) 0
  have L2 := @lcI_lt (a - b) 1000000
  refine Runs.go 30 [] ?_
  refine ⟨by omega, ?_⟩
  refine br.i (fun z => ?_) (fun z => ?_)
  · have z' : 0 ≤ a - b := L1.2.2.2.mp z
    rw [if_neg (by omega)] at q
    refine ⟨by omega, ?_⟩
    refine br.i (fun y => ?_) (fun y => ?_)
    · have y' : a - b ≤ 1000000 := L2.2.2.1.mp y
      rw [if_neg (by omega)] at q
      exact ⟨by omega, q⟩
    · have y' : ¬ a - b ≤ 1000000 := fun w => y (L2.2.2.1.mpr w)
      rw [if_pos (by omega)] at q
      exact q
  · have z' : ¬ 0 ≤ a - b := fun w => z (L1.2.2.2.mpr w)
    rw [if_pos (by omega)] at q
    exact q
theorem r_asked {c a b : Int} (hc : 33 ≤ c ∧ c ≤ 38) (q : Q (vI (opB c a b)) h) : Runs D 226 0 [vI (c - 23), vL a, none, vL b, none] [] h Q := by
  have L := @lcI_lt a b
  have Z := @lcI_0 a b
  have hc' : c = 33 ∨ c = 34 ∨ c = 35 ∨ c = 36 ∨ c = 37 ∨ c = 38 := by omega
  rcases hc' with e | e | e | e | e | e <;> subst e
  · have q' : Q (vI (b2i (a < b))) h := q
    refine Runs.go 20 [] ?_
    refine br.f (by decide) ?_
    refine br.i (fun z => ?_) (fun z => ?_)
    · have z' : b ≤ a := L.2.2.2.mp z
      rw [b2i_f (by omega)] at q'
      exact ⟨by omega, q'⟩
    · have z' : ¬ b ≤ a := fun y => z (L.2.2.2.mpr y)
      rw [b2i_t (by omega)] at q'
      exact ⟨by omega, q'⟩
  · have q' : Q (vI (b2i (a ≤ b))) h := q
    refine Runs.go 30 [] ?_
    refine br.t (by decide) (br.f (by decide) ?_)
    refine br.i (fun z => ?_) (fun z => ?_)
    · have z' : b < a := L.2.1.mp z
      rw [b2i_f (by omega)] at q'
      exact ⟨by omega, q'⟩
    · have z' : ¬ b < a := fun y => z (L.2.1.mpr y)
      rw [b2i_t (by omega)] at q'
      exact ⟨by omega, q'⟩
  · have q' : Q (vI (b2i (b < a))) h := q
    refine Runs.go 30 [] ?_
    refine br.t (by decide) (br.t (by decide) (br.f (by decide) ?_))
    refine br.i (fun z => ?_) (fun z => ?_)
    · have z' : a ≤ b := L.2.2.1.mp z
      rw [b2i_f (by omega)] at q'
      exact ⟨by omega, q'⟩
    · have z' : ¬ a ≤ b := fun y => z (L.2.2.1.mpr y)
      rw [b2i_t (by omega)] at q'
      exact ⟨by omega, q'⟩
  · have q' : Q (vI (b2i (b ≤ a))) h := q
    refine Runs.go 40 [] ?_
    refine br.t (by decide) (br.t (by decide) (br.t (by decide) (br.f (by decide) ?_)))
    refine br.i (fun z => ?_) (fun z => ?_)
    · have z' : a < b := L.1.mp z
      rw [b2i_f (by omega)] at q'
      exact ⟨by omega, q'⟩
    · have z' : ¬ a < b := fun y => z (L.1.mpr y)
      rw [b2i_t (by omega)] at q'
      exact ⟨by omega, q'⟩
  · have q' : Q (vI (b2i (a = b))) h := q
    refine Runs.go 40 [] ?_
    refine br.t (by decide) (br.t (by decide) (br.t (by decide) (br.t (by decide) (br.f (by decide) ?_))))
    refine br.i (fun z => ?_) (fun z => ?_)
    · rw [b2i_f (fun y => z (Z.mpr y))] at q'
      exact ⟨by omega, q'⟩
    · rw [b2i_t (Z.mp (Decidable.not_not.mp z))] at q'
      exact ⟨by omega, q'⟩
  · have q' : Q (vI (b2i (a ≠ b))) h := q
    refine Runs.go 40 [] ?_
    refine br.t (by decide) (br.t (by decide) (br.t (by decide) (br.t (by decide) (br.t (by decide) ?_))))
    refine br.i (fun z => ?_) (fun z => ?_)
    · rw [b2i_f (fun y => y (Z.mp z))] at q'
      exact ⟨by omega, q'⟩
    · rw [b2i_t (show a ≠ b from fun y => z (Z.mpr y))] at q'
      exact ⟨by omega, q'⟩
theorem r_brimsOf {a : Int} (h1 : rg a) (q : Q (vL (opU 24 (r3 (fun i => h 85 (66 + i))) a)) h) : Runs D 227 0 [vA 84, vL a, none] [] h Q := by
  unfold rg at h1
  have L1 := @lcI_lt a 0
  have L2 := @lcI_lt a 3
  have q' : Q (vL (if 0 ≤ a ∧ a < 3 then r3 (fun i => h 85 (66 + i)) a else 0)) h := q
  refine Runs.go 30 [] ?_
  refine br.i (fun z => ?_) (fun z => ?_)
  · have z' : a < 0 := L1.1.mp z
    rw [if_neg (by omega)] at q'
    exact q'
  · have z' : ¬ a < 0 := fun y => z (L1.1.mpr y)
    refine br.i (fun y => ?_) (fun y => ?_)
    · have y' : 3 ≤ a := L2.2.2.2.mp y
      rw [if_neg (by omega)] at q'
      exact q'
    · have y' : ¬ 3 ≤ a := fun w => y (L2.2.2.2.mpr w)
      rw [if_pos (by omega)] at q'
      refine ⟨by omega, ⟨by omega, ⟨⟨by omega, show 66 + a < (3856 : Int) by omega⟩, QL q' ?_⟩⟩⟩
      unfold r3
      rw [if_pos (by omega)]
theorem r_joined {c a b : Int} (hc : c = 30 ∨ c = 29) (ha : a = 0 ∨ a = 1) (hb : b = 0 ∨ b = 1) (q : Q (vI (opB c a b)) h) : Runs D 228 0 [vI (rOp c), vI a, vI b] [] h Q := by
  rcases hc with e | e <;> subst e
  · have q' : Q (vI (b2i (a ≠ 0 ∧ b ≠ 0))) h := q
    refine Runs.go 30 [] ?_
    refine br.f (by decide) ?_
    refine br.i (fun z => ?_) (fun z => ?_)
    · rw [b2i_f (fun y => y.1 z)] at q'
      exact ⟨by omega, q'⟩
    · refine br.i (fun y => ?_) (fun y => ?_)
      · rw [b2i_f (fun w => w.2 y)] at q'
        exact ⟨by omega, q'⟩
      · rw [b2i_t (show a ≠ 0 ∧ b ≠ 0 from ⟨z, y⟩)] at q'
        exact ⟨by omega, q'⟩
  · have q' : Q (vI (b2i (a ≠ 0 ∨ b ≠ 0))) h := q
    refine Runs.go 30 [] ?_
    refine br.t (by decide) ?_
    refine br.i (fun z => ?_) (fun z => ?_)
    · rw [b2i_t (show a ≠ 0 ∨ b ≠ 0 from Or.inl z)] at q'
      exact ⟨by omega, q'⟩
    · have z' : a = 0 := Decidable.not_not.mp z
      refine br.i (fun y => ?_) (fun y => ?_)
      · rw [b2i_f (fun w => by rcases w with w | w; exact w z'; exact w y)] at q'
        exact ⟨by omega, q'⟩
      · rw [b2i_t (show a ≠ 0 ∨ b ≠ 0 from Or.inr y)] at q'
        exact ⟨by omega, q'⟩
end ER
section EW
variable (D : Nat) (Q : aPO) (tt cl : Int)
def wR (n tr i : Int) (g : Hp) : Prop := ∀ u v : AV, Runs (D + 2) 230 38 [vA 84, vI tt, vI cl, vI (705 * tt + 1 + 4 * cl), vI (705 * tt + 97), vI n, vI tr, vI i, u, v] [] g Q
/-- y < 3: a number; else a truth -/
def evR (H : Hp) (e : Int) (y : Nat) (R : List (Int × Int)) (f : Int) : Prop := ∀ (i n tr : Int) (g : Hp), plR H (705 * tt + 97) i R → 0 ≤ i → i + (R.length : Int) ≤ e → 0 ≤ n → n ≤ i → 0 ≤ tr → tr ≤ i → (∀ o, o ≠ 91 → o ≠ 92 → g o = H o) →
  (∀ g' : Hp, (∀ o, o ≠ 91 → o ≠ 92 → g' o = H o) → (∀ j, 0 ≤ j → j < n → g' 91 j = g 91 j) → (∀ j, 0 ≤ j → j < tr → g' 92 j = g 92 j) → (y < 3 → g' 91 n = f) → (3 ≤ y → g' 92 tr = f) → wR D Q tt cl (if y < 3 then n + 1 else n) (if y < 3 then tr else tr + 1) (i + (R.length : Int)) g') → wR D Q tt cl n tr i g
end EW
section EX
variable {D : Nat} {Q : aPO} {tt cl : Int} {H g : Hp} {e i n tr : Int}
theorem w_fetch (t4 : 0 ≤ tt ∧ tt < 4) (c4 : 0 ≤ cl ∧ cl < 24) (he : H 87 (705 * tt + 1 + 4 * cl + 2) = e) (e4 : e ≤ 303) (i0 : 0 ≤ i) (i1 : i < e) (hg : ∀ o, o ≠ 91 → o ≠ 92 → g o = H o) {op v : Int} (e1 : H 87 (705 * tt + 97 + 2 * i) = op) (e2 : H 87 (705 * tt + 97 + 2 * i + 1) = v)
    (k : Runs (D + 2) 230 81 [vA 84, vI tt, vI cl, vI (705 * tt + 1 + 4 * cl), vI (705 * tt + 97), vI n, vI tr, vI i, vI op, vI v] [] g Q) : wR D Q tt cl n tr i g := by
  intro u w
  have g87 : g 87 = H 87 := hg 87 (by decide) (by decide)
  have f0 : g 87 (705 * tt + 1 + 4 * cl + 2) = e := by rw [g87]; exact he
  have f1 : g 87 (705 * tt + 97 + 2 * i) = op := by rw [g87]; exact e1
  have f2 : g 87 (705 * tt + 97 + 2 * i + 1) = v := by rw [g87]; exact e2
  rw [← f1, ← f2] at k
  refine Runs.go 60 [81] ?_
  refine ⟨by omega, ⟨⟨by omega, show 705 * tt + 1 + 4 * cl + 2 < (2820 : Int) by omega⟩, ?_⟩⟩
  refine br.f (show ¬ g 87 (705 * tt + 1 + 4 * cl + 2) ≤ i by omega) ?_
  exact ⟨by omega, ⟨by omega, ⟨⟨by omega, show 705 * tt + 97 + 2 * i < (2820 : Int) by omega⟩, ⟨by omega, ⟨by omega, ⟨by omega, ⟨⟨by omega, show 705 * tt + 97 + 2 * i + 1 < (2820 : Int) by omega⟩, k⟩⟩⟩⟩⟩⟩⟩
theorem w_next {u v : AV} (i0 : 0 ≤ i) (i1 : i ≤ 303) (k : wR D Q tt cl n tr (i + 1) g) : Runs (D + 2) 230 400 [vA 84, vI tt, vI cl, vI (705 * tt + 1 + 4 * cl), vI (705 * tt + 97), vI n, vI tr, vI i, u, v] [] g Q := by
  refine Runs.go 10 [38] ?_
  exact ⟨by omega, k _ _⟩
theorem g91 {j v : Int} (hg : ∀ o, o ≠ 91 → o ≠ 92 → g o = H o) : ∀ o, o ≠ 91 → o ≠ 92 → (hup g 91 j v) o = H o := fun o e f => by rw [hup_o e]; exact hg o e f
theorem g92 {j v : Int} (hg : ∀ o, o ≠ 91 → o ≠ 92 → g o = H o) : ∀ o, o ≠ 91 → o ≠ 92 → (hup g 92 j v) o = H o := fun o e f => by rw [hup_o f]; exact hg o e f
theorem er_num (t4 : 0 ≤ tt ∧ tt < 4) (c4 : 0 ≤ cl ∧ cl < 24) (he : H 87 (705 * tt + 1 + 4 * cl + 2) = e) (e4 : e ≤ 303) {v : Int} : evR D Q tt cl H e 0 [(0, v)] v := by
  intro i n tr g p i0 i1 n0 n1 t0 t1 hg k
  have l : (([(0, v)] : List (Int × Int)).length : Int) = 1 := rfl
  rw [l] at i1
  refine w_fetch t4 c4 he e4 i0 (by omega) hg (op := 0) p.1.1 (v := v) p.1.2 ?_
  refine Runs.go 40 [400] ?_
  refine br.f (by decide) (br.f (by decide) ?_)
  refine ⟨⟨n0, show n < (330 : Int) by omega⟩, ⟨by omega, ?_⟩⟩
  refine w_next i0 (by omega) ?_
  have kk := k (hup g 91 n v) (g91 hg) (fun j a b => hup_nj (by omega)) (fun j a b => by rw [hup_o (by decide)]) (fun _ => hup_eq) (fun z => absurd z (by decide))
  rw [if_pos (by decide), if_pos (by decide), l] at kk
  exact kk
theorem er_nam (t4 : 0 ≤ tt ∧ tt < 4) (c4 : 0 ≤ cl ∧ cl < 24) (he : H 87 (705 * tt + 1 + 4 * cl + 2) = e) (e4 : e ≤ 303) {v : Int} (hv : 0 ≤ v ∧ v < 9) : evR D Q tt cl H e 0 [(1, v)] (H 90 v) := by
  intro i n tr g p i0 i1 n0 n1 t0 t1 hg k
  have l : (([(1, v)] : List (Int × Int)).length : Int) = 1 := rfl
  rw [l] at i1
  have g90 : g 90 = H 90 := hg 90 (by decide) (by decide)
  refine w_fetch t4 c4 he e4 i0 (by omega) hg (op := 1) p.1.1 (v := v) p.1.2 ?_
  refine Runs.go 40 [400] ?_
  refine br.f (by decide) (br.t (by decide) ?_)
  refine ⟨⟨hv.1, show v < (9 : Int) by omega⟩, ⟨⟨n0, show n < (330 : Int) by omega⟩, ⟨by omega, ?_⟩⟩⟩
  refine w_next i0 (by omega) ?_
  have kk := k (hup g 91 n (g 90 v)) (g91 hg) (fun j a b => hup_nj (by omega)) (fun j a b => by rw [hup_o (by decide)]) (fun _ => by rw [hup_eq, g90]) (fun z => absurd z (by decide))
  rw [if_pos (by decide), if_pos (by decide), l] at kk
  exact kk
/-- minus, brims -/
theorem er_un (t4 : 0 ≤ tt ∧ tt < 4) (c4 : 0 ≤ cl ∧ cl < 24) (he : H 87 (705 * tt + 1 + 4 * cl + 2) = e) (e4 : e ≤ 303) {c f : Int} {R : List (Int × Int)} (hc : c = 50 ∨ c = 24) (hf : rg f) (hR : 1 ≤ R.length) (E : evR D Q tt cl H e 0 R f) : evR D Q tt cl H e 0 (R ++ [(rUn c, 0)]) (opU c (r3 (fun i => H 85 (66 + i))) f) := by
  intro i n tr g p i0 i1 n0 n1 t0 t1 hg k
  have l : ((R ++ [(rUn c, (0 : Int))]).length : Int) = R.length + 1 := by simp
  rw [l] at i1
  obtain ⟨p1, p2⟩ := (plR_app R _ i).mp p
  refine E i n tr g p1 i0 (by omega) n0 n1 t0 t1 hg (fun g' a1 a2 a3 a4 a5 => ?_)
  rw [if_pos (by decide), if_pos (by decide)]
  have v1 := a4 (by decide)
  have g85 : g' 85 = H 85 := a1 85 (by decide) (by decide)
  have ev : g' 91 (n + 1 - 1) = f := by rw [show n + 1 - 1 = n by omega]; exact v1
  have bn : 0 ≤ n + 1 - 1 ∧ n + 1 - 1 < (330 : Int) := by omega
  have F : ∀ w : Int, w = opU c (r3 (fun i => H 85 (66 + i))) f → wR D Q tt cl (n + 1) tr (i + R.length + 1) (hup g' 91 (n + 1 - 1) w) := by
    intro w ew
    have kk := k (hup g' 91 (n + 1 - 1) w) (g91 a1) (fun j a b => by rw [hup_nj (by omega)]; exact a2 j a b) (fun j a b => by rw [hup_o (by decide)]; exact a3 j a b) (fun _ => by rw [show n + 1 - 1 = n by omega, hup_eq]; exact ew) (fun z => absurd z (by decide))
    rw [if_pos (by decide), if_pos (by decide), l, show i + ((R.length : Int) + 1) = i + R.length + 1 by omega] at kk
    exact kk
  unfold rg at hf
  refine w_fetch t4 c4 he e4 (by omega) (by omega) a1 (op := rUn c) p2.1.1 (v := 0) p2.1.2 ?_
  rcases hc with z | z <;> subst z
  · refine Runs.go 60 [400] ?_
    refine br.t (by decide) (br.t (by decide) (br.t rfl ?_))
    refine ⟨by omega, ?_⟩
    refine br.f (by decide) ?_
    refine ⟨by omega, ⟨bn, ?_⟩⟩
    rw [ev]
    refine ⟨by omega, ⟨bn, ?_⟩⟩
    exact w_next (by omega) (by omega) (F (-f) rfl)
  · refine Runs.go 60 [400] ?_
    refine br.t (by decide) (br.t (by decide) (br.f (by decide) (br.f (by decide) ?_)))
    refine ⟨by omega, ?_⟩
    refine br.t (by decide) ?_
    refine ⟨by omega, ⟨bn, ?_⟩⟩
    rw [ev]
    refine r_brimsOf hf ?_
    refine ⟨bn, ?_⟩
    refine w_next (by omega) (by omega) (F _ ?_)
    rw [g85]
/-- two numbers, a number -/
theorem er_bin (t4 : 0 ≤ tt ∧ tt < 4) (c4 : 0 ≤ cl ∧ cl < 24) (he : H 87 (705 * tt + 1 + 4 * cl + 2) = e) (e4 : e ≤ 303) {c f1 f2 : Int} {A B : List (Int × Int)} (hc : c = 39 ∨ c = 40 ∨ c = 41 ∨ c = 42 ∨ c = 23) (h1 : rg f1) (h2 : rg f2) (hA : 1 ≤ A.length) (hB : 1 ≤ B.length) {y : Nat} (hy : y < 3) (E1 : evR D Q tt cl H e 0 A f1) (E2 : evR D Q tt cl H e 0 B f2) : evR D Q tt cl H e y (A ++ (B ++ [(rOp c, 0)])) (opB c f1 f2) := by
  intro i n tr g p i0 i1 n0 n1 t0 t1 hg k
  have l : ((A ++ (B ++ [(rOp c, (0 : Int))])).length : Int) = A.length + B.length + 1 := by
    simp only [List.length_append, List.length_cons, List.length_nil]
    omega
  rw [l] at i1
  obtain ⟨p1, p2⟩ := (plR_app A _ i).mp p
  obtain ⟨p2, p3⟩ := (plR_app B _ _).mp p2
  refine E1 i n tr g p1 i0 (by omega) n0 n1 t0 t1 hg (fun g' a1 a2 a3 a4 a5 => ?_)
  rw [if_pos (by decide), if_pos (by decide)]
  refine E2 _ (n + 1) tr g' p2 (by omega) (by omega) (by omega) (by omega) t0 (by omega) a1 (fun g2 b1 b2 b3 b4 b5 => ?_)
  rw [if_pos (by decide), if_pos (by decide)]
  have v2 : g2 91 (n + 1 + 1 + -1) = f2 := by rw [show n + 1 + 1 + -1 = n + 1 by omega]; exact b4 (by decide)
  have v1 : g2 91 (n + 1 + 1 + -1 - 1) = f1 := by
    rw [show n + 1 + 1 + -1 - 1 = n by omega, b2 n n0 (by omega)]
    exact a4 (by decide)
  have bn : 0 ≤ n + 1 + 1 + -1 - 1 ∧ n + 1 + 1 + -1 - 1 < (330 : Int) := by omega
  have bn2 : 0 ≤ n + 1 + 1 + -1 ∧ n + 1 + 1 + -1 < (330 : Int) := by omega
  have F : wR D Q tt cl (n + 1 + 1 + -1) tr (i + A.length + B.length + 1) (hup g2 91 (n + 1 + 1 + -1 - 1) (opB c f1 f2)) := by
    have kk := k (hup g2 91 (n + 1 + 1 + -1 - 1) (opB c f1 f2)) (g91 b1) (fun j a b => by rw [hup_nj (by omega), b2 j a (by omega)]; exact a2 j a b) (fun j a b => by rw [hup_o (by decide), b3 j a b]; exact a3 j a b) (fun _ => by rw [show n + 1 + 1 + -1 - 1 = n by omega, hup_eq]) (fun z => by omega)
    rw [if_pos hy, if_pos hy, l, show i + ((A.length : Int) + B.length + 1) = i + A.length + B.length + 1 by omega] at kk
    rw [show n + 1 + 1 + -1 = n + 1 by omega]
    rw [show n + 1 + 1 + -1 = n + 1 by omega] at kk
    exact kk
  have rc : rOp c ≠ 3 ∧ rOp c ≠ 5 ∧ rOp c ≠ 2 ∧ 1 < rOp c ∧ rOp c < 10 := by rcases hc with z | z | z | z | z <;> subst z <;> decide
  refine w_fetch t4 c4 he e4 (by omega) (by omega) b1 (op := rOp c) p3.1.1 (v := 0) p3.1.2 ?_
  refine Runs.go 80 [400] ?_
  refine br.t rc.2.2.2.1 (br.t rc.1 (br.f rc.2.1 (br.t rc.2.2.1 (br.f (by omega) ?_))))
  refine ⟨by omega, ⟨by omega, ?_⟩⟩
  by_cases z : c = 23
  · subst z
    refine br.f (by decide) ?_
    refine ⟨by omega, ⟨bn, ⟨bn2, ?_⟩⟩⟩
    rw [v1, v2]
    refine r_above h1 h2 ?_
    refine ⟨bn, ?_⟩
    exact w_next (by omega) (by omega) F
  · have hc4 : c = 39 ∨ c = 40 ∨ c = 41 ∨ c = 42 := by omega
    refine br.t (by rcases hc4 with z | z | z | z <;> subst z <;> decide) ?_
    refine ⟨by omega, ⟨bn, ⟨bn2, ?_⟩⟩⟩
    rw [v1, v2]
    refine r_two hc4 h1 h2 ?_
    refine ⟨bn, ?_⟩
    exact w_next (by omega) (by omega) F
/-- two numbers, a truth -/
theorem er_cmp (t4 : 0 ≤ tt ∧ tt < 4) (c4 : 0 ≤ cl ∧ cl < 24) (he : H 87 (705 * tt + 1 + 4 * cl + 2) = e) (e4 : e ≤ 303) {c f1 f2 : Int} {A B : List (Int × Int)} (hc : 33 ≤ c ∧ c ≤ 38) (hA : 1 ≤ A.length) (hB : 1 ≤ B.length) (E1 : evR D Q tt cl H e 2 A f1) (E2 : evR D Q tt cl H e 2 B f2) : evR D Q tt cl H e 3 (A ++ (B ++ [(rOp c, 0)])) (opB c f1 f2) := by
  intro i n tr g p i0 i1 n0 n1 t0 t1 hg k
  have l : ((A ++ (B ++ [(rOp c, (0 : Int))])).length : Int) = A.length + B.length + 1 := by
    simp only [List.length_append, List.length_cons, List.length_nil]
    omega
  rw [l] at i1
  obtain ⟨p1, p2⟩ := (plR_app A _ i).mp p
  obtain ⟨p2, p3⟩ := (plR_app B _ _).mp p2
  refine E1 i n tr g p1 i0 (by omega) n0 n1 t0 t1 hg (fun g' a1 a2 a3 a4 a5 => ?_)
  rw [if_pos (by decide), if_pos (by decide)]
  refine E2 _ (n + 1) tr g' p2 (by omega) (by omega) (by omega) (by omega) t0 (by omega) a1 (fun g2 b1 b2 b3 b4 b5 => ?_)
  rw [if_pos (by decide), if_pos (by decide)]
  have v2 : g2 91 (n + 1 + 1 + -2 + 1) = f2 := by rw [show n + 1 + 1 + -2 + 1 = n + 1 by omega]; exact b4 (by decide)
  have v1 : g2 91 (n + 1 + 1 + -2) = f1 := by
    rw [show n + 1 + 1 + -2 = n by omega, b2 n n0 (by omega)]
    exact a4 (by decide)
  have bn : 0 ≤ n + 1 + 1 + -2 ∧ n + 1 + 1 + -2 < (330 : Int) := by omega
  have bn2 : 0 ≤ n + 1 + 1 + -2 + 1 ∧ n + 1 + 1 + -2 + 1 < (330 : Int) := by omega
  have ov : opB c f1 f2 = 0 ∨ opB c f1 f2 = 1 := by
    have hc' : c = 33 ∨ c = 34 ∨ c = 35 ∨ c = 36 ∨ c = 37 ∨ c = 38 := by omega
    rcases hc' with z | z | z | z | z | z <;> subst z <;> exact b2i_r _
  have F : wR D Q tt cl (n + 1 + 1 + -2) (tr + 1) (i + A.length + B.length + 1) (hup g2 92 tr (opB c f1 f2)) := by
    have kk := k (hup g2 92 tr (opB c f1 f2)) (g92 b1) (fun j a b => by rw [hup_o (by decide), b2 j a (by omega)]; exact a2 j a b) (fun j a b => by rw [hup_nj (by omega), b3 j a b]; exact a3 j a b) (fun z => absurd z (by decide)) (fun _ => hup_eq)
    rw [if_neg (by decide), if_neg (by decide), l, show i + ((A.length : Int) + B.length + 1) = i + A.length + B.length + 1 by omega] at kk
    rw [show n + 1 + 1 + -2 = n by omega]
    exact kk
  have ec : rOp c = c - 23 := by
    have hc' : c = 33 ∨ c = 34 ∨ c = 35 ∨ c = 36 ∨ c = 37 ∨ c = 38 := by omega
    rcases hc' with z | z | z | z | z | z <;> subst z <;> decide
  refine w_fetch t4 c4 he e4 (by omega) (by omega) b1 (op := c - 23) (by rw [← ec]; exact p3.1.1) (v := 0) p3.1.2 ?_
  refine Runs.go 80 [400] ?_
  refine br.t (by omega) (br.t (by omega) (br.f (by omega) (br.t (by omega) (br.t (by omega) (br.f (by omega) ?_)))))
  refine ⟨by omega, ⟨bn, ⟨by omega, ⟨bn2, ?_⟩⟩⟩⟩
  rw [v1, v2]
  refine r_asked hc ?_
  refine ⟨⟨⟨t0, show tr < (330 : Int) by omega⟩, ov⟩, ⟨by omega, ?_⟩⟩
  exact w_next (by omega) (by omega) F
/-- not -/
theorem er_not (t4 : 0 ≤ tt ∧ tt < 4) (c4 : 0 ≤ cl ∧ cl < 24) (he : H 87 (705 * tt + 1 + 4 * cl + 2) = e) (e4 : e ≤ 303) {f : Int} {R : List (Int × Int)} {bz : Int → Int} (hR : 1 ≤ R.length) (E : evR D Q tt cl H e 3 R f) : evR D Q tt cl H e 3 (R ++ [(20, 0)]) (opU 31 bz f) := by
  intro i n tr g p i0 i1 n0 n1 t0 t1 hg k
  have l : ((R ++ [((20 : Int), (0 : Int))]).length : Int) = R.length + 1 := by simp
  rw [l] at i1
  obtain ⟨p1, p2⟩ := (plR_app R _ i).mp p
  refine E i n tr g p1 i0 (by omega) n0 n1 t0 t1 hg (fun g' a1 a2 a3 a4 a5 => ?_)
  rw [if_neg (by decide), if_neg (by decide)]
  have v1 : g' 92 (tr + 1 - 1) = f := by rw [show tr + 1 - 1 = tr by omega]; exact a5 (by decide)
  have bn : 0 ≤ tr + 1 - 1 ∧ tr + 1 - 1 < (330 : Int) := by omega
  have F : ∀ w : Int, w = b2i (f = 0) → wR D Q tt cl n (tr + 1) (i + R.length + 1) (hup g' 92 (tr + 1 - 1) w) := by
    intro w ew
    have kk := k (hup g' 92 (tr + 1 - 1) w) (g92 a1) (fun j a b => by rw [hup_o (by decide)]; exact a2 j a b) (fun j a b => by rw [hup_nj (by omega)]; exact a3 j a b) (fun z => absurd z (by decide)) (fun _ => by rw [show tr + 1 - 1 = tr by omega, hup_eq]; exact ew)
    rw [if_neg (by decide), if_neg (by decide), l, show i + ((R.length : Int) + 1) = i + R.length + 1 by omega] at kk
    exact kk
  refine w_fetch t4 c4 he e4 (by omega) (by omega) a1 (op := 20) p2.1.1 (v := 0) p2.1.2 ?_
  refine Runs.go 80 [400] ?_
  refine br.t (by decide) (br.t (by decide) (br.f (by decide) (br.t (by decide) (br.t (by decide) (br.t (by decide) (br.f (by decide) ?_))))))
  refine ⟨by omega, ⟨by omega, ⟨bn, ?_⟩⟩⟩
  rw [v1]
  refine br.i (fun z => ?_) (fun z => ?_)
  · have z' : ¬ f = 0 := z
    exact ⟨⟨bn, Or.inl rfl⟩, w_next (by omega) (by omega) (F 0 (b2i_f z').symm)⟩
  · have z' : f = 0 := Decidable.not_not.mp z
    exact ⟨⟨bn, Or.inr rfl⟩, w_next (by omega) (by omega) (F 1 (b2i_t z').symm)⟩
/-- two truths -/
theorem er_join (t4 : 0 ≤ tt ∧ tt < 4) (c4 : 0 ≤ cl ∧ cl < 24) (he : H 87 (705 * tt + 1 + 4 * cl + 2) = e) (e4 : e ≤ 303) {c f1 f2 : Int} {A B : List (Int × Int)} (hc : c = 30 ∨ c = 29) (h1 : f1 = 0 ∨ f1 = 1) (h2 : f2 = 0 ∨ f2 = 1) (hA : 1 ≤ A.length) (hB : 1 ≤ B.length) {y1 y2 y : Nat} (hy1 : 3 ≤ y1) (hy2 : 3 ≤ y2) (hy : 3 ≤ y) (E1 : evR D Q tt cl H e y1 A f1) (E2 : evR D Q tt cl H e y2 B f2) : evR D Q tt cl H e y (A ++ (B ++ [(rOp c, 0)])) (opB c f1 f2) := by
  intro i n tr g p i0 i1 n0 n1 t0 t1 hg k
  have l : ((A ++ (B ++ [(rOp c, (0 : Int))])).length : Int) = A.length + B.length + 1 := by
    simp only [List.length_append, List.length_cons, List.length_nil]
    omega
  rw [l] at i1
  obtain ⟨p1, p2⟩ := (plR_app A _ i).mp p
  obtain ⟨p2, p3⟩ := (plR_app B _ _).mp p2
  refine E1 i n tr g p1 i0 (by omega) n0 n1 t0 t1 hg (fun g' a1 a2 a3 a4 a5 => ?_)
  rw [if_neg (by omega), if_neg (by omega)]
  refine E2 _ n (tr + 1) g' p2 (by omega) (by omega) n0 (by omega) (by omega) (by omega) a1 (fun g2 b1 b2 b3 b4 b5 => ?_)
  rw [if_neg (by omega), if_neg (by omega)]
  have v2 : g2 92 (tr + 1 + 1 + -1) = f2 := by rw [show tr + 1 + 1 + -1 = tr + 1 by omega]; exact b5 hy2
  have v1 : g2 92 (tr + 1 + 1 + -1 - 1) = f1 := by
    rw [show tr + 1 + 1 + -1 - 1 = tr by omega, b3 tr t0 (by omega)]
    exact a5 hy1
  have bn : 0 ≤ tr + 1 + 1 + -1 - 1 ∧ tr + 1 + 1 + -1 - 1 < (330 : Int) := by omega
  have bn2 : 0 ≤ tr + 1 + 1 + -1 ∧ tr + 1 + 1 + -1 < (330 : Int) := by omega
  have ov : opB c f1 f2 = 0 ∨ opB c f1 f2 = 1 := by rcases hc with z | z <;> subst z <;> exact b2i_r _
  have F : wR D Q tt cl n (tr + 1 + 1 + -1) (i + A.length + B.length + 1) (hup g2 92 (tr + 1 + 1 + -1 - 1) (opB c f1 f2)) := by
    have kk := k (hup g2 92 (tr + 1 + 1 + -1 - 1) (opB c f1 f2)) (g92 b1) (fun j a b => by rw [hup_o (by decide), b2 j a b]; exact a2 j a b) (fun j a b => by rw [hup_nj (by omega), b3 j a (by omega)]; exact a3 j a b) (fun z => by omega) (fun _ => by rw [show tr + 1 + 1 + -1 - 1 = tr by omega, hup_eq])
    rw [if_neg (by omega), if_neg (by omega), l, show i + ((A.length : Int) + B.length + 1) = i + A.length + B.length + 1 by omega] at kk
    rw [show tr + 1 + 1 + -1 = tr + 1 by omega]
    rw [show tr + 1 + 1 + -1 = tr + 1 by omega] at kk
    exact kk
  have rc : rOp c ≠ 3 ∧ rOp c ≠ 5 ∧ rOp c ≠ 2 ∧ 20 < rOp c := by rcases hc with z | z <;> subst z <;> decide
  refine w_fetch t4 c4 he e4 (by omega) (by omega) b1 (op := rOp c) p3.1.1 (v := 0) p3.1.2 ?_
  refine Runs.go 80 [400] ?_
  refine br.t (by omega) (br.t rc.1 (br.f rc.2.1 (br.t rc.2.2.1 (br.t (by omega) (br.t (by omega) (br.t (by omega) ?_))))))
  refine ⟨by omega, ⟨by omega, ⟨by omega, ⟨bn, ⟨bn2, ?_⟩⟩⟩⟩⟩
  rw [v1, v2]
  refine r_joined hc h1 h2 ?_
  refine ⟨⟨bn, ov⟩, ?_⟩
  exact w_next (by omega) (by omega) F
/-- if -/
theorem er_if (t4 : 0 ≤ tt ∧ tt < 4) (c4 : 0 ≤ cl ∧ cl < 24) (he : H 87 (705 * tt + 1 + 4 * cl + 2) = e) (e4 : e ≤ 303) {fb f1 f2 : Int} {B X Y : List (Int × Int)} (hB : 1 ≤ B.length) (hX : 1 ≤ X.length) (hY : 1 ≤ Y.length) (E0 : evR D Q tt cl H e 5 B fb) (E1 : evR D Q tt cl H e 2 X f1) (E2 : evR D Q tt cl H e 2 Y f2) : evR D Q tt cl H e 0 (B ++ (X ++ (Y ++ [(3, 0)]))) (if fb = 0 then f2 else f1) := by
  intro i n tr g p i0 i1 n0 n1 t0 t1 hg k
  have l : ((B ++ (X ++ (Y ++ [((3 : Int), (0 : Int))]))).length : Int) = B.length + X.length + Y.length + 1 := by
    simp only [List.length_append, List.length_cons, List.length_nil]
    omega
  rw [l] at i1
  obtain ⟨p1, p2⟩ := (plR_app B _ i).mp p
  obtain ⟨p2, p3⟩ := (plR_app X _ _).mp p2
  obtain ⟨p3, p4⟩ := (plR_app Y _ _).mp p3
  refine E0 i n tr g p1 i0 (by omega) n0 n1 t0 t1 hg (fun g0 a1 a2 a3 a4 a5 => ?_)
  rw [if_neg (by decide), if_neg (by decide)]
  refine E1 _ n (tr + 1) g0 p2 (by omega) (by omega) n0 (by omega) (by omega) (by omega) a1 (fun g1 b1 b2 b3 b4 b5 => ?_)
  rw [if_pos (by decide), if_pos (by decide)]
  refine E2 _ (n + 1) (tr + 1) g1 p3 (by omega) (by omega) (by omega) (by omega) (by omega) (by omega) b1 (fun g2 c1 c2 c3 c6 c5 => ?_)
  rw [if_pos (by decide), if_pos (by decide)]
  have vb : g2 92 (tr + 1 + -1) = fb := by
    rw [show tr + 1 + -1 = tr by omega, c3 tr t0 (by omega), b3 tr t0 (by omega)]
    exact a5 (by decide)
  have v2 : g2 91 (n + 1 + 1 + -1) = f2 := by rw [show n + 1 + 1 + -1 = n + 1 by omega]; exact c6 (by decide)
  have v1 : g2 91 n = f1 := by
    rw [c2 n n0 (by omega)]
    exact b4 (by decide)
  have F : ∀ g3 : Hp, (∀ o, o ≠ 91 → o ≠ 92 → g3 o = H o) → (∀ j, 0 ≤ j → j < n → g3 91 j = g2 91 j) → (∀ j, 0 ≤ j → j < tr → g3 92 j = g2 92 j) → g3 91 n = (if fb = 0 then f2 else f1) → wR D Q tt cl (n + 1 + 1 + -1) (tr + 1 + -1) (i + B.length + X.length + Y.length + 1) g3 := by
    intro g3 d1 d2 d3 d4
    have kk := k g3 d1 (fun j a b => by rw [d2 j a b, c2 j a (by omega), b2 j a b]; exact a2 j a b) (fun j a b => by rw [d3 j a b, c3 j a (by omega), b3 j a (by omega)]; exact a3 j a b) (fun _ => d4) (fun z => absurd z (by decide))
    rw [if_pos (by decide), if_pos (by decide), l, show i + ((B.length : Int) + X.length + Y.length + 1) = i + B.length + X.length + Y.length + 1 by omega] at kk
    rw [show n + 1 + 1 + -1 = n + 1 by omega, show tr + 1 + -1 = tr by omega]
    exact kk
  refine w_fetch t4 c4 he e4 (by omega) (by omega) c1 (op := 3) p4.1.1 (v := 0) p4.1.2 ?_
  refine Runs.go 80 [400] ?_
  refine br.t (by decide) (br.f (by decide) ?_)
  refine ⟨by omega, ⟨by omega, ⟨⟨by omega, show tr + 1 + -1 < (330 : Int) by omega⟩, ?_⟩⟩⟩
  rw [vb]
  refine br.i (fun z => ?_) (fun z => ?_)
  · have z' : ¬ fb = 0 := z
    exact w_next (by omega) (by omega) (F g2 c1 (fun _ _ _ => rfl) (fun _ _ _ => rfl) (by rw [v1, if_neg z']))
  · have z' : fb = 0 := Decidable.not_not.mp z
    have bn : 0 ≤ n + 1 + 1 + -1 - 1 ∧ n + 1 + 1 + -1 - 1 < (330 : Int) := by omega
    have bn2 : 0 ≤ n + 1 + 1 + -1 ∧ n + 1 + 1 + -1 < (330 : Int) := by omega
    refine ⟨by omega, ⟨bn2, ⟨bn, ?_⟩⟩⟩
    refine w_next (by omega) (by omega) (F _ (g91 c1) (fun j a b => hup_nj (by omega)) (fun j a b => by rw [hup_o (by decide)]) ?_)
    rw [show n + 1 + 1 + -1 - 1 = n by omega, hup_eq, if_pos z']
    exact v2
end EX
