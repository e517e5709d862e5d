/-! TEXTS: what the class's code says -/
def o2 (c a b : Int) : Int :=
  if c = 39 then a + b else if c = 40 then a - b else if c = 41 then a * b else if c = 42 then (if b = 0 then 0 else a.tdiv b) else
  if c = 23 then (if b < a then a - b else 0) else if c = 33 then b2i (a < b) else if c = 34 then b2i (a ≤ b) else if c = 35 then b2i (b < a) else
  if c = 36 then b2i (b ≤ a) else if c = 37 then b2i (a = b) else if c = 38 then b2i (a ≠ b) else if c = 30 then b2i (a ≠ 0 ∧ b ≠ 0) else b2i (a ≠ 0 ∨ b ≠ 0)
def isB (c : Int) : Prop := c = 39 ∨ c = 40 ∨ c = 41 ∨ c = 42 ∨ c = 23 ∨ c = 33 ∨ c = 34 ∨ c = 35 ∨ c = 36 ∨ c = 37 ∨ c = 38 ∨ c = 30 ∨ c = 29
def isU (c : Int) : Prop := c = 50 ∨ c = 24 ∨ c = 31
def rg (v : Int) : Prop := -1000000 ≤ v ∧ v ≤ 1000000
theorem clp_r {v : Int} : rg (clp v) := cutI_r (by decide)
theorem clp_id {v : Int} (h : rg v) : clp v = v := by
  unfold rg at h
  unfold clp cutI
  rw [if_neg (by omega), if_neg (by omega)]
theorem clp_b {c : Prop} [Decidable c] : clp (b2i c) = b2i c := clp_id (by have := b2i_r c; unfold rg; omega)
theorem opB_o2 {c a b : Int} : clp (o2 c a b) = opB c a b := by
  unfold o2 opB
  by_cases c0 : c = 39
  · rw [if_pos c0, if_pos c0]
  rw [if_neg c0, if_neg c0]
  by_cases c1 : c = 40
  · rw [if_pos c1, if_pos c1]
  rw [if_neg c1, if_neg c1]
  by_cases c2 : c = 41
  · rw [if_pos c2, if_pos c2]
  rw [if_neg c2, if_neg c2]
  by_cases c3 : c = 42
  · rw [if_pos c3, if_pos c3]
    by_cases z : b = 0
    · rw [if_pos z, if_pos z]
      rfl
    · rw [if_neg z, if_neg z]
  rw [if_neg c3, if_neg c3]
  by_cases c4 : c = 23
  · rw [if_pos c4, if_pos c4]
  rw [if_neg c4, if_neg c4]
  by_cases c5 : c = 33
  · rw [if_pos c5]
    exact clp_b
  rw [if_neg c5]
  by_cases c6 : c = 34
  · rw [if_pos c6]
    exact clp_b
  rw [if_neg c6]
  by_cases c7 : c = 35
  · rw [if_pos c7]
    exact clp_b
  rw [if_neg c7]
  by_cases c8 : c = 36
  · rw [if_pos c8]
    exact clp_b
  rw [if_neg c8]
  by_cases c9 : c = 37
  · rw [if_pos c9]
    exact clp_b
  rw [if_neg c9]
  by_cases c10 : c = 38
  · rw [if_pos c10]
    exact clp_b
  rw [if_neg c10]
  by_cases c11 : c = 30
  · rw [if_pos c11]
    exact clp_b
  rw [if_neg c11]
  exact clp_b
theorem opB_r {c a b : Int} : rg (opB c a b) := by rw [← opB_o2]; exact clp_r
theorem opU_r {c a : Int} {br : Int → Int} (h : rg a) (hb : ∀ i, 0 ≤ i → i < 3 → 0 ≤ br i ∧ br i ≤ 9) : rg (opU c br a) := by
  unfold rg at *
  unfold opU
  split
  · omega
  · split
    · split
      · rename_i z
        have := hb a z.1 z.2
        omega
      · omega
    · have := b2i_r (a = 0)
      omega
section EC
variable {D : Nat} {Q : aPO} {h : Hp}
theorem c_nameAt {i : Int} (hi : 0 ≤ i ∧ i < 9) (q : Q (vI (h 49 i)) h) : Runs D 66 0 [vA 48, vI i] [] h Q := by
  refine Runs.go 20 [] ?_
  refine br.f (by omega) ?_
  refine br.f (show ¬ (9 : Int) ≤ i by omega) ?_
  exact ⟨⟨hi.1, show i < (9 : Int) by omega⟩, q⟩
theorem c_ofOne {c a : Int} (hc : isU c) (h1 : rg a) (q : Q (vI (opU c (r3 (h 7)) a)) h) : Runs D 67 0 [vI c, vI a, vA 7] [] h Q := by
  unfold rg at h1
  unfold opU at q
  rcases hc with e | e | e <;> subst e
  · refine Runs.go 20 [] ?_
    refine br.f (by decide) (br.t rfl ?_)
    exact ⟨by omega, q⟩
  · rw [if_neg (by decide), if_pos rfl] at q
    refine Runs.go 20 [] ?_
    refine br.t rfl ?_
    refine br.i (fun z => ?_) (fun z => ?_)
    · rw [if_neg (by omega)] at q
      exact q
    · refine br.i (fun y => ?_) (fun y => ?_)
      · have y' : (3 : Int) ≤ a := y
        rw [if_neg (by omega)] at q
        exact q
      · have y' : ¬ (3 : Int) ≤ a := y
        rw [if_pos (by omega)] at q
        refine ⟨⟨by omega, show a < (3 : Int) by omega⟩, QI q ?_⟩
        unfold r3
        rw [if_pos (by omega)]
  · rw [if_neg (by decide), if_neg (by decide)] at q
    refine Runs.go 20 [] ?_
    refine br.f (by decide) (br.f (by decide) ?_)
    refine br.j (fun z => ?_) (fun z => ?_)
    · rw [b2i_t (Decidable.not_not.mp z)] at q
      exact q
    · rw [b2i_f z] at q
      exact q
theorem lcI_lt {x y : Int} : (lcI x y < 0 ↔ x < y) ∧ (0 < lcI x y ↔ y < x) ∧ (lcI x y ≤ 0 ↔ x ≤ y) ∧ (0 ≤ lcI x y ↔ y ≤ x) := by
  unfold lcI
  split
  · omega
  · split
    · omega
    · omega
theorem c_ofTwo {c a b : Int} (hc : isB c) (h1 : rg a) (h2 : rg b) (q : Q (vL (o2 c a b)) h) : Runs D 68 0 [vI c, vL a, none, vL b, none] [] h Q := by
  unfold rg at h1 h2
  have hm : -1000000000000 ≤ a * b ∧ a * b ≤ 1000000000000 := by
    have n : (a * b).natAbs ≤ 1000000 * 1000000 := by
      rw [Int.natAbs_mul]
      exact Nat.mul_le_mul (by omega) (by omega)
    omega
  have L := @lcI_lt a b
  have Z := @lcI_0 a b
  have Za := @lcI_0 a 0
  have Zb := @lcI_0 b 0
  unfold o2 at q
  rcases hc with e | e | e | e | e | e | e | e | e | e | e | e | e <;> subst e
  · refine Runs.go 20 [] ?_
    refine br.f (by decide) (br.f (by decide) (br.f (by decide) (br.f (by decide) (br.f (by decide) (br.f (by decide) (br.f (by decide) (br.f (by decide) (br.f (by decide) (br.f (by decide) (br.f (by decide) (br.f (by decide) (br.f (by decide) (br.f (by decide) (br.f (by decide) (br.f (by decide) (br.t rfl ?_))))))))))))))))
    exact ⟨by omega, q⟩
  · refine Runs.go 20 [] ?_
    refine br.f (by decide) (br.f (by decide) (br.f (by decide) (br.f (by decide) (br.f (by decide) (br.f (by decide) (br.f (by decide) (br.f (by decide) (br.f (by decide) (br.f (by decide) (br.f (by decide) (br.f (by decide) (br.f (by decide) (br.f (by decide) (br.f (by decide) (br.f (by decide) (br.f (by decide) (br.t rfl ?_)))))))))))))))))
    exact ⟨by omega, q⟩
  · refine Runs.go 20 [] ?_
    refine br.f (by decide) (br.f (by decide) (br.f (by decide) (br.f (by decide) (br.f (by decide) (br.f (by decide) (br.f (by decide) (br.f (by decide) (br.f (by decide) (br.f (by decide) (br.f (by decide) (br.f (by decide) (br.f (by decide) (br.f (by decide) (br.f (by decide) (br.f (by decide) (br.f (by decide) (br.f (by decide) (br.t rfl ?_))))))))))))))))))
    exact ⟨by omega, q⟩
  · rw [if_neg (by decide), if_neg (by decide), if_neg (by decide), if_pos rfl] at q
    refine Runs.go 20 [] ?_
    refine br.f (by decide) (br.f (by decide) (br.f (by decide) (br.f (by decide) (br.f (by decide) (br.f (by decide) (br.f (by decide) (br.f (by decide) (br.f (by decide) (br.f (by decide) (br.f (by decide) (br.f (by decide) (br.f (by decide) (br.f (by decide) (br.f (by decide) (br.f (by decide) (br.f (by decide) (br.f (by decide) (br.f (by decide) (br.t rfl ?_)))))))))))))))))))
    refine br.j (fun z => ?_) (fun z => ?_)
    · have z' : b = 0 := Zb.mp (Decidable.not_not.mp z)
      rw [if_pos z'] at q
      exact q
    · have z' : ¬ b = 0 := fun y => z (Zb.mpr y)
      rw [if_neg z'] at q
      exact ⟨⟨z', Or.inr (Or.inr (by omega))⟩, q⟩
  · rw [if_neg (by decide), if_neg (by decide), if_neg (by decide), if_neg (by decide), if_pos rfl] at q
    refine Runs.go 20 [] ?_
    refine br.t rfl ?_
    refine br.i (fun z => ?_) (fun z => ?_)
    · have z' : a ≤ b := L.2.2.1.mp z
      rw [if_neg (by omega)] at q
      exact q
    · have z' : ¬ a ≤ b := fun y => z (L.2.2.1.mpr y)
      rw [if_pos (by omega)] at q
      exact ⟨by omega, q⟩
  · repeat rw [if_neg (by decide)] at q
    rw [if_pos rfl] at q
    refine Runs.go 20 [] ?_
    refine br.f (by decide) (br.f (by decide) (br.f (by decide) (br.f (by decide) (br.f (by decide) (br.f (by decide) (br.f (by decide) (br.f (by decide) (br.f (by decide) (br.f (by decide) (br.t rfl ?_))))))))))
    refine br.i (fun z => ?_) (fun z => ?_)
    · have z' : b ≤ a := L.2.2.2.mp z
      rw [b2i_f (by omega)] at q
      exact q
    · have z' : ¬ b ≤ a := fun y => z (L.2.2.2.mpr y)
      rw [b2i_t (by omega)] at q
      exact q
  · repeat rw [if_neg (by decide)] at q
    rw [if_pos rfl] at q
    refine Runs.go 20 [] ?_
    refine br.f (by decide) (br.f (by decide) (br.f (by decide) (br.f (by decide) (br.f (by decide) (br.f (by decide) (br.f (by decide) (br.f (by decide) (br.f (by decide) (br.f (by decide) (br.f (by decide) (br.t rfl ?_)))))))))))
    refine br.i (fun z => ?_) (fun z => ?_)
    · have z' : b < a := L.2.1.mp z
      rw [b2i_f (by omega)] at q
      exact q
    · have z' : ¬ b < a := fun y => z (L.2.1.mpr y)
      rw [b2i_t (by omega)] at q
      exact q
  · repeat rw [if_neg (by decide)] at q
    rw [if_pos rfl] at q
    refine Runs.go 20 [] ?_
    refine br.f (by decide) (br.f (by decide) (br.f (by decide) (br.f (by decide) (br.f (by decide) (br.f (by decide) (br.f (by decide) (br.f (by decide) (br.f (by decide) (br.f (by decide) (br.f (by decide) (br.f (by decide) (br.t rfl ?_))))))))))))
    refine br.i (fun z => ?_) (fun z => ?_)
    · have z' : a ≤ b := L.2.2.1.mp z
      rw [b2i_f (by omega)] at q
      exact q
    · have z' : ¬ a ≤ b := fun y => z (L.2.2.1.mpr y)
      rw [b2i_t (by omega)] at q
      exact q
  · repeat rw [if_neg (by decide)] at q
    rw [if_pos rfl] at q
    refine Runs.go 20 [] ?_
    refine br.f (by decide) (br.f (by decide) (br.f (by decide) (br.f (by decide) (br.f (by decide) (br.f (by decide) (br.f (by decide) (br.f (by decide) (br.f (by decide) (br.f (by decide) (br.f (by decide) (br.f (by decide) (br.f (by decide) (br.t rfl ?_)))))))))))))
    refine br.i (fun z => ?_) (fun z => ?_)
    · have z' : a < b := L.1.mp z
      rw [b2i_f (by omega)] at q
      exact q
    · have z' : ¬ a < b := fun y => z (L.1.mpr y)
      rw [b2i_t (by omega)] at q
      exact q
  · repeat rw [if_neg (by decide)] at q
    rw [if_pos rfl] at q
    refine Runs.go 20 [] ?_
    refine br.f (by decide) (br.f (by decide) (br.f (by decide) (br.f (by decide) (br.f (by decide) (br.f (by decide) (br.f (by decide) (br.f (by decide) (br.f (by decide) (br.f (by decide) (br.f (by decide) (br.f (by decide) (br.f (by decide) (br.f (by decide) (br.t rfl ?_))))))))))))))
    refine br.i (fun z => ?_) (fun z => ?_)
    · rw [b2i_f (fun y => z (Z.mpr y))] at q
      exact q
    · rw [b2i_t (Z.mp (Decidable.not_not.mp z))] at q
      exact q
  · repeat rw [if_neg (by decide)] at q
    rw [if_pos rfl] at q
    refine Runs.go 20 [] ?_
    refine br.f (by decide) (br.f (by decide) (br.f (by decide) (br.f (by decide) (br.f (by decide) (br.f (by decide) (br.f (by decide) (br.f (by decide) (br.f (by decide) (br.f (by decide) (br.f (by decide) (br.f (by decide) (br.f (by decide) (br.f (by decide) (br.f (by decide) (br.t rfl ?_)))))))))))))))
    refine br.i (fun z => ?_) (fun z => ?_)
    · rw [b2i_f (fun y => y (Z.mp z))] at q
      exact q
    · rw [b2i_t (show a ≠ b from fun y => z (Z.mpr y))] at q
      exact q
  · repeat rw [if_neg (by decide)] at q
    rw [if_pos rfl] at q
    refine Runs.go 20 [] ?_
    refine br.f (by decide) (br.f (by decide) (br.f (by decide) (br.f (by decide) (br.f (by decide) (br.f (by decide) (br.f (by decide) (br.t rfl ?_)))))))
    refine br.i (fun z => ?_) (fun z => ?_)
    · rw [b2i_f (fun y => y.1 (Za.mp z))] at q
      exact q
    · refine br.i (fun z2 => ?_) (fun z2 => ?_)
      · rw [b2i_f (fun y => y.2 (Zb.mp z2))] at q
        exact q
      · rw [b2i_t (show a ≠ 0 ∧ b ≠ 0 from ⟨fun y => z (Za.mpr y), fun y => z2 (Zb.mpr y)⟩)] at q
        exact q
  · repeat rw [if_neg (by decide)] at q
    refine Runs.go 20 [] ?_
    refine br.f (by decide) (br.f (by decide) (br.f (by decide) (br.f (by decide) (br.f (by decide) (br.f (by decide) (br.t rfl ?_))))))
    refine br.i (fun z => ?_) (fun z => ?_)
    · rw [b2i_t (show a ≠ 0 ∨ b ≠ 0 from Or.inl (fun y => z (Za.mpr y)))] at q
      exact q
    · have z' : a = 0 := Za.mp (Decidable.not_not.mp z)
      refine br.i (fun z2 => ?_) (fun z2 => ?_)
      · rw [b2i_f (fun y => by rcases y with y | y; exact y z'; exact y (Zb.mp z2))] at q
        exact q
      · rw [b2i_t (show a ≠ 0 ∨ b ≠ 0 from Or.inr (fun y => z2 (Zb.mpr y)))] at q
        exact q
end EC
section EV2
variable (D : Nat) (Q : aPO) (T : Nat) (s to : Int)
/-- at the head of the loop: t values lie on the stack, b is next, i rows were done -/
def vR (t b i : Int) (g : Hp) : Prop := ∀ u v : AV, Runs (D + 1) 65 28 [vA 48, vA T, vI s, vA 7, vI t, vI b, vI to, vI i, u, v] [] g Q
def evC (H : Hp) (m : Int) (C : List (Int × Int)) (f : Int) : Prop := ∀ (b t i : Int) (g : Hp), plC T H b C → 0 ≤ b → b + (C.length : Int) ≤ to → 0 ≤ t → t + m ≤ 64 → 0 ≤ i → i + (C.length : Int) ≤ 300 → (∀ o, o ≠ 50 → g o = H o) →
  (∀ (g' : Hp) (i' : Int), (∀ o, o ≠ 50 → g' o = H o) → (∀ j, 0 ≤ j → j < t → g' 50 j = g 50 j) → g' 50 t = f → i ≤ i' → i' ≤ i + (C.length : Int) → vR D Q T s to (t + 1) (b + (C.length : Int)) i' g') → vR D Q T s to t b i g
end EV2
section EV3
variable {D : Nat} {Q : aPO} {T : Nat} {s to : Int} {H g : Hp} {b t i m : Int}
theorem evC.le {C : List (Int × Int)} {f n : Int} (e : evC D Q T s to H m C f) (h : m ≤ n) : evC D Q T s to H n C f := fun b t i g h1 h2 h3 h4 h5 h6 h7 h8 k => e b t i g h1 h2 h3 h4 (by omega) h6 h7 h8 k
theorem v_fetch (hT : tT T) (ht : to ≤ 300) (b0 : 0 ≤ b) (b1 : b < to) (i1 : i < 300) (hg : ∀ o, o ≠ 50 → g o = H o) {op ar : Int} (e1 : H (T + 2) b = op) (e2 : H (T + 3) b = ar)
    (k : Runs (D + 1) 65 69 [vA 48, vA T, vI s, vA 7, vI t, vI (b + 1), vI to, vI i, vI op, vI ar] [] g Q) : vR D Q T s to t b i g := by
  intro u v
  have f1 : g (T + 2) b = op := by rw [hg (T + 2) (by unfold tT at hT; omega)]; exact e1
  have f2 : g (T + 3) b = ar := by rw [hg (T + 3) (by unfold tT at hT; omega)]; exact e2
  have bb : 0 ≤ b ∧ b < (300 : Int) := by omega
  rw [← f1, ← f2] at k
  clear f1 f2 e1 e2
  rcases hT with e | e | e | e <;> subst e
  all_goals (
    refine Runs.go 40 [69] ?_
    refine br.f (by omega) (br.f (by omega) (br.f (by omega) ?_))
    exact ⟨bb, ⟨bb, ⟨by omega, k⟩⟩⟩)
theorem v_next {u v : AV} (i0 : 0 ≤ i) (i1 : i < 300) (k : vR D Q T s to t b (i + 1) g) : Runs (D + 1) 65 278 [vA 48, vA T, vI s, vA 7, vI t, vI b, vI to, vI i, u, v] [] g Q := by
  refine Runs.go 10 [28] ?_
  exact ⟨by omega, k _ _⟩
theorem g50 {j v : Int} (hg : ∀ o, o ≠ 50 → g o = H o) : ∀ o, o ≠ 50 → (hup g 50 j v) o = H o := fun o e => by rw [hup_o e]; exact hg o e
theorem ev_num (hT : tT T) (ht : to ≤ 300) {v : Int} (hm : 1 ≤ m) : evC D Q T s to H m [(46, v)] v := by
  intro b t i g p b0 b1 t0 t1 i0 i1 hg k
  have l : (([(46, v)] : List (Int × Int)).length : Int) = 1 := rfl
  rw [l] at b1 i1
  have p1 := p.1
  refine v_fetch hT ht b0 (by omega) (by omega) hg (op := 46) p1.1 (ar := v) (by rw [p1.2]; show v + 0 = v; omega) ?_
  refine Runs.go 40 [278] ?_
  refine br.t (by decide) (br.t rfl ?_)
  refine br.f (show ¬ (64 : Int) ≤ t by omega) ?_
  refine br.f (by decide) ?_
  refine ⟨⟨t0, show t < (64 : Int) by omega⟩, ⟨by omega, ?_⟩⟩
  refine v_next i0 (by omega) ?_
  exact k _ (i + 1) (g50 hg) (fun j a c => hup_nj (by omega)) hup_eq (by omega) (by rw [l]; omega)
theorem ev_nam (hT : tT T) (ht : to ≤ 300) {v : Int} (hv : 0 ≤ v ∧ v < 9) (hm : 1 ≤ m) : evC D Q T s to H m [(49, v)] (H 49 v) := by
  intro b t i g p b0 b1 t0 t1 i0 i1 hg k
  have l : (([(49, v)] : List (Int × Int)).length : Int) = 1 := rfl
  rw [l] at b1 i1
  have p1 := p.1
  refine v_fetch hT ht b0 (by omega) (by omega) hg (op := 49) p1.1 (ar := v) (by rw [p1.2]; show v + 0 = v; omega) ?_
  refine Runs.go 40 [278] ?_
  refine br.t (by decide) (br.f (by decide) (br.f (by decide) ?_))
  refine br.f (show ¬ (64 : Int) ≤ t by omega) ?_
  refine br.t (by decide) ?_
  refine c_nameAt hv ?_
  refine ⟨⟨t0, show t < (64 : Int) by omega⟩, ⟨by omega, ?_⟩⟩
  refine v_next i0 (by omega) ?_
  refine k _ (i + 1) (g50 hg) (fun j a c => hup_nj (by omega)) ?_ (by omega) (by rw [l]; omega)
  rw [hup_eq, hg 49 (by decide)]
theorem ev_un (hT : tT T) (ht : to ≤ 300) {c f : Int} {C : List (Int × Int)} (hm : 1 ≤ m) (hc : isU c) (hf : rg f) (e : evC D Q T s to H m C f) : evC D Q T s to H m (C ++ [(c, 0)]) (opU c (r3 (H 7)) f) := by
  intro b t i g p b0 b1 t0 t1 i0 i1 hg k
  have l : ((C ++ [(c, (0 : Int))]).length : Int) = C.length + 1 := by simp
  rw [l] at b1 i1
  obtain ⟨p1, p2⟩ := (plC_app C _ b).mp p
  refine e b t i g p1 b0 (by omega) t0 t1 i0 (by omega) hg (fun g' i' a1 a2 a3 a4 a5 => ?_)
  have nj : ¬ (c = 51 ∨ c = 52) := by unfold isU at hc; omega
  have n52 : c ≠ 52 ∧ c ≠ 46 ∧ c ≠ 49 ∧ c ≠ 51 := by unfold isU at hc; omega
  refine v_fetch hT ht (by omega) (by omega) (by omega) a1 (op := c) p2.1.1 (ar := 0) (by rw [p2.1.2, if_neg nj]; rfl) ?_
  have X : Runs (D + 1) 65 196 [vA 48, vA T, vI s, vA 7, vI (t + 1), vI (b + C.length + 1), vI to, vI i', vI c, vI 0] [] g' Q := by
    refine Runs.go 40 [278] ?_
    refine br.f (by omega) ?_
    refine ⟨by omega, ⟨by omega, ⟨⟨by omega, show t + 1 - 1 < (64 : Int) by omega⟩, ?_⟩⟩⟩
    have et : g' 50 (t + 1 - 1) = f := by rw [show t + 1 - 1 = t by omega]; exact a3
    rw [et]
    refine c_ofOne hc hf ?_
    refine ⟨⟨by omega, show t + 1 - 1 < (64 : Int) by omega⟩, ?_⟩
    refine v_next (by omega) (by omega) ?_
    have kk := k (hup g' 50 (t + 1 - 1) (opU c (r3 (g' 7)) f)) (i' + 1) (g50 a1) (fun j a c => by rw [hup_nj (by omega)]; exact a2 j a c) (by rw [show t + 1 - 1 = t by omega, hup_eq, a1 7 (by decide)]) (by omega) (by rw [l]; omega)
    rw [l, show b + ((C.length : Int) + 1) = b + C.length + 1 by omega] at kk
    exact kk
  refine Runs.go 40 [196] ?_
  refine br.t n52.1 (br.f n52.2.1 (br.t n52.2.2.1 (br.t n52.2.2.2 ?_)))
  refine br.i (fun _ => X) (fun z1 => br.i (fun _ => X) (fun z2 => br.f (fun z3 => ?_) X))
  rcases hc with z | z | z
  · exact z1 z
  · exact z2 z
  · exact z3 z
theorem ev_bin (hT : tT T) (ht : to ≤ 300) {c f1 f2 m1 m2 : Int} {A B : List (Int × Int)} (hc : isB c) (h1 : rg f1) (h2 : rg f2) (hm1 : m1 ≤ m) (hm2 : m2 + 1 ≤ m) (hp : 1 ≤ m2) (e1 : evC D Q T s to H m1 A f1) (e2 : evC D Q T s to H m2 B f2) : evC D Q T s to H m (A ++ (B ++ [(c, 0)])) (opB c f1 f2) := by
  intro b t i g p b0 b1 t0 t1 i0 i1 hg k
  have l : ((A ++ (B ++ [(c, (0 : Int))])).length : Int) = A.length + B.length + 1 := by
    simp only [List.length_append, List.length_cons, List.length_nil]
    omega
  rw [l] at b1 i1
  obtain ⟨p1, p2⟩ := (plC_app A _ b).mp p
  obtain ⟨p2, p3⟩ := (plC_app B _ _).mp p2
  refine e1 b t i g p1 b0 (by omega) t0 (by omega) i0 (by omega) hg (fun g' i' a1 a2 a3 a4 a5 => ?_)
  refine e2 _ (t + 1) i' g' p2 (by omega) (by omega) (by omega) (by omega) (by omega) (by omega) a1 (fun g2 i2 c1 c2 c3 c4 c5 => ?_)
  have nj : ¬ (c = 51 ∨ c = 52) := by unfold isB at hc; omega
  have n52 : c ≠ 52 ∧ c ≠ 46 ∧ c ≠ 49 ∧ c ≠ 51 ∧ c ≠ 50 ∧ c ≠ 24 ∧ c ≠ 31 := by unfold isB at hc; omega
  refine v_fetch hT ht (by omega) (by omega) (by omega) c1 (op := c) p3.1.1 (ar := 0) (by rw [p3.1.2, if_neg nj]; rfl) ?_
  refine Runs.go 60 [278] ?_
  refine br.t n52.1 (br.f n52.2.1 (br.t n52.2.2.1 (br.t n52.2.2.2.1 (br.f n52.2.2.2.2.1 (br.f n52.2.2.2.2.2.1 (br.t n52.2.2.2.2.2.2 ?_))))))
  refine br.f (by omega) ?_
  have et : g2 50 (t + 1 + 1 + -1 - 1) = f1 := by
    rw [show t + 1 + 1 + -1 - 1 = t by omega, c2 t t0 (by omega)]
    exact a3
  have et2 : g2 50 (t + 1 + 1 + -1) = f2 := by rw [show t + 1 + 1 + -1 = t + 1 by omega]; exact c3
  refine ⟨by omega, ⟨by omega, ⟨by omega, ⟨⟨by omega, show t + 1 + 1 + -1 - 1 < (64 : Int) by omega⟩, ⟨⟨by omega, show t + 1 + 1 + -1 < (64 : Int) by omega⟩, ?_⟩⟩⟩⟩⟩
  rw [et, et2]
  refine c_ofTwo hc h1 h2 ?_
  refine c_clamp (by omega) ?_
  refine ⟨⟨by omega, show t + 1 + 1 + -1 - 1 < (64 : Int) by omega⟩, ?_⟩
  refine v_next (by omega) (by omega) ?_
  have kk := k (hup g2 50 (t + 1 + 1 + -1 - 1) (cutI (-1000000) 1000000 (o2 c f1 f2))) (i2 + 1) (g50 c1) (fun j a d => by rw [hup_nj (by omega), c2 j a (by omega)]; exact a2 j a d) (by rw [show t + 1 + 1 + -1 - 1 = t by omega, hup_eq]; exact opB_o2) (by omega) (by rw [l]; omega)
  rw [l, show b + ((A.length : Int) + B.length + 1) = b + A.length + B.length + 1 by omega] at kk
  rw [show t + 1 + 1 + -1 = t + 1 by omega] at kk ⊢
  exact kk
theorem ev_if (hT : tT T) (ht : to ≤ 300) {fb fx fy m1 : Int} {A X Y : List (Int × Int)} (hm1 : m1 ≤ m) (hp : 1 ≤ m1) {m2 : Int} (hm2 : m2 ≤ m) (e0 : evC D Q T s to H m1 A fb) (e1 : evC D Q T s to H m2 X fx) (e2 : evC D Q T s to H m2 Y fy) : evC D Q T s to H m (A ++ ((51, (X.length : Int) + 2) :: (X ++ ((52, (Y.length : Int) + 1) :: Y)))) (if fb = 0 then fy else fx) := by
  intro b t i g p b0 b1 t0 t1 i0 i1 hg k
  have l : ((A ++ ((51, (X.length : Int) + 2) :: (X ++ ((52, (Y.length : Int) + 1) :: Y)))).length : Int) = A.length + X.length + Y.length + 2 := by
    simp only [List.length_append, List.length_cons]
    omega
  rw [l] at b1 i1
  obtain ⟨p1, p2, p3⟩ := (plC_app A _ b).mp p
  obtain ⟨p3, p4, p5⟩ := (plC_app X _ _).mp p3
  refine e0 b t i g p1 b0 (by omega) t0 (by omega) i0 (by omega) hg (fun g' i' a1 a2 a3 a4 a5 => ?_)
  refine v_fetch hT ht (by omega) (by omega) (by omega) a1 (op := 51) p2.1 (ar := (X.length : Int) + 2 + (b + A.length)) (by rw [p2.2, if_pos (Or.inl rfl)]) ?_
  have S1 : ∀ (i2 : Int) (g2 : Hp), (∀ o, o ≠ 50 → g2 o = H o) → (∀ j, 0 ≤ j → j < t → g2 50 j = g 50 j) → g2 50 t = fx → fb ≠ 0 → i ≤ i2 → i2 ≤ i + A.length + X.length + 1 → vR D Q T s to (t + 1) (b + A.length + 1 + X.length) i2 g2 := by
    intro i2 g2 c1 c2 c3 hb c4 c5
    refine v_fetch hT ht (by omega) (by omega) (by omega) c1 (op := 52) p4.1 (ar := (Y.length : Int) + 1 + (b + A.length + 1 + X.length)) (by rw [p4.2, if_pos (Or.inr rfl)]) ?_
    refine Runs.go 40 [278] ?_
    refine br.f (by decide) ?_
    refine v_next (by omega) (by omega) ?_
    have kk := k g2 (i2 + 1) c1 c2 (by rw [c3, if_neg hb]) (by omega) (by rw [l]; omega)
    rw [l, show b + ((A.length : Int) + X.length + Y.length + 2) = (Y.length : Int) + 1 + (b + A.length + 1 + X.length) by omega] at kk
    exact kk
  refine Runs.go 60 [278] ?_
  refine br.t (by decide) (br.f (by decide) (br.t (by decide) (br.f (by decide) ?_)))
  refine br.f (by omega) ?_
  have et : g' 50 (t + 1 + -1) = fb := by rw [show t + 1 + -1 = t by omega]; exact a3
  refine ⟨by omega, ⟨⟨by omega, show t + 1 + -1 < (64 : Int) by omega⟩, ?_⟩⟩
  rw [et]
  refine br.i (fun z => ?_) (fun z => ?_)
  · have z' : fb ≠ 0 := z
    refine v_next (by omega) (by omega) ?_
    rw [show t + 1 + -1 = t by omega]
    refine e1 _ t (i' + 1) g' p3 (by omega) (by omega) t0 (by omega) (by omega) (by omega) a1 (fun g2 i2 c1 c2 c3 c4 c5 => ?_)
    exact S1 i2 g2 c1 (fun j u v => (c2 j u v).trans (a2 j u v)) c3 z' (by omega) (by omega)
  · have z' : fb = 0 := Decidable.not_not.mp z
    refine v_next (by omega) (by omega) ?_
    rw [show t + 1 + -1 = t by omega, show (X.length : Int) + 2 + (b + A.length) = b + A.length + 1 + X.length + 1 by omega]
    refine e2 _ t (i' + 1) g' p5 (by omega) (by omega) t0 (by omega) (by omega) (by omega) a1 (fun g2 i2 c1 c2 c3 c4 c5 => ?_)
    have kk := k g2 i2 c1 (fun j u v => (c2 j u v).trans (a2 j u v)) (by rw [c3, if_pos z']) (by omega) (by rw [l]; omega)
    rw [l, show b + ((A.length : Int) + X.length + Y.length + 2) = b + A.length + 1 + X.length + 1 + Y.length by omega] at kk
    exact kk
end EV3
