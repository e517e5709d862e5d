/-! TEXTS: a law of the reference -/
section LR
variable {D : Nat} {Q : aPO} {tt cl : Int} {H : Hp} {e : Int} {cd vl : Int → Int} {law o k k1 : Int} {y : Nat} {x : dX}
theorem evR.cg {y2 : Nat} {R : List (Int × Int)} {f : Int} (E : evR D Q tt cl H e y R f) (h : y < 3 ↔ y2 < 3) : evR D Q tt cl H e y2 R f := by
  intro i n tr g p i0 i1 n0 n1 t0 t1 hg kk
  refine E i n tr g p i0 i1 n0 n1 t0 t1 hg (fun g' a1 a2 a3 a4 a5 => ?_)
  have q := kk g' a1 a2 a3 (fun z => a4 (h.mpr z)) (fun z => a5 (by omega))
  by_cases z : y < 3
  · rw [if_pos z, if_pos z]
    rw [if_pos (h.mp z), if_pos (h.mp z)] at q
    exact q
  · rw [if_neg z, if_neg z]
    rw [if_neg (fun w => z (h.mpr w)), if_neg (fun w => z (h.mpr w))] at q
    exact q
theorem Der_evR (t4 : 0 ≤ tt ∧ tt < 4) (c4 : 0 ≤ cl ∧ cl < 24) (he : H 87 (705 * tt + 1 + 4 * cl + 2) = e) (e4 : e ≤ 303) (hn : nOk (H 90)) (hb : bOk (fun i => H 85 (66 + i))) (d : Der cd vl law y o k k1 x) : evR D Q tt cl H e y x.2.1 (x.2.2 (r9 (H 90)) (r3 (fun i => H 85 (66 + i)))) := by
  have hn' : ∀ i, 0 ≤ i → i < 9 → 0 ≤ r9 (H 90) i ∧ r9 (H 90) i ≤ 9999 := by
    intro i i0 i9
    unfold r9
    rw [if_pos ⟨i0, i9⟩]
    exact hn i i0 i9
  have hb' := r3_r hb
  generalize eb : r3 (fun i => H 85 (66 + i)) = bb at *
  have Y := d (fun y o _ _ x => rg (x.2.2 (r9 (H 90)) bb) ∧ (3 ≤ y → x.2.2 (r9 (H 90)) bb = 0 ∨ x.2.2 (r9 (H 90)) bb = 1) ∧ 1 ≤ x.2.1.length ∧ evR D Q tt cl H e y x.2.1 (x.2.2 (r9 (H 90)) bb)) ⟨?_, ?_, ?_, ?_, ?_, ?_, ?_, ?_, ?_, ?_⟩
  · exact Y.2.2.2
  · intro o k e h0 h1
    exact ⟨by show rg (vl k); unfold rg; omega, fun z => absurd z (by decide), Nat.le_refl 1, er_num t4 c4 he e4⟩
  · intro o k e1 e2 hl
    have q := hn' (cd k - 12) (by omega) (by omega)
    refine ⟨by show rg (r9 (H 90) (cd k - 12)); unfold rg; omega, fun z => absurd z (by decide), Nat.le_refl 1, ?_⟩
    show evR D Q tt cl H e 0 [(1, cd k - 12)] (r9 (H 90) (cd k - 12))
    have ee : r9 (H 90) (cd k - 12) = H 90 (cd k - 12) := by
      unfold r9
      rw [if_pos (by omega)]
    rw [ee]
    exact er_nam t4 c4 he e4 (by omega)
  · intro o k k1 x e o8 X e1
    exact ⟨X.1, fun z => absurd z (by decide), X.2.2.1, X.2.2.2.cg (by decide)⟩
  · intro o k k1 x c ec o8 X
    have hc : c = 50 ∨ c = 24 := by omega
    refine ⟨opU_r X.1 hb', fun z => absurd z (by decide), ?_, ?_⟩
    · show 1 ≤ (x.2.1 ++ [(rUn c, 0)]).length
      rw [List.length_append]
      exact Nat.le_add_left _ _
    · have E := er_un t4 c4 he e4 hc X.1 X.2.2.1 X.2.2.2
      rw [eb] at E
      exact E
  · intro o k k1 k2 x y e o8 X e1 Y
    refine ⟨(opB_r : rg (opB 23 (x.2.2 (r9 (H 90)) bb) (y.2.2 (r9 (H 90)) bb))), fun z => absurd z (by decide), ?_, ?_⟩
    · show 1 ≤ (x.2.1 ++ (y.2.1 ++ [(rOp 23, 0)])).length
      rw [List.length_append]
      have := X.2.2.1
      omega
    · exact er_bin (c := 23) (y := 0) t4 c4 he e4 (by omega) X.1 Y.1 X.2.2.1 Y.2.2.1 (by decide) X.2.2.2 Y.2.2.2
  · intro o k k1 k2 k3 b x y e o8 B e1 X e2 Y e3
    refine ⟨?_, fun z => absurd z (by decide), ?_, ?_⟩
    · show rg (if b.2.2 (r9 (H 90)) bb = 0 then y.2.2 (r9 (H 90)) bb else x.2.2 (r9 (H 90)) bb)
      split
      · exact Y.1
      · exact X.1
    · show 1 ≤ (b.2.1 ++ (x.2.1 ++ (y.2.1 ++ [(3, 0)]))).length
      rw [List.length_append]
      have := B.2.2.1
      omega
    · exact er_if t4 c4 he e4 B.2.2.1 X.2.2.1 Y.2.2.1 B.2.2.2 X.2.2.2 Y.2.2.2
  · intro y o k k1 x hl X
    have h3 : (y < 3 ↔ y + 1 < 3) := by unfold lft at hl; omega
    exact ⟨X.1, fun z => X.2.1 (by omega), X.2.2.1, X.2.2.2.cg h3⟩
  · intro y o k k1 k2 x z hc X Z
    have L : 1 ≤ (x.2.1 ++ (z.2.1 ++ [(rOp (cd k1), (0 : Int))])).length := by
      rw [List.length_append]
      have := X.2.2.1
      omega
    by_cases hy : y < 2
    · have hc' : cd k1 = 39 ∨ cd k1 = 40 ∨ cd k1 = 41 ∨ cd k1 = 42 ∨ cd k1 = 23 := by unfold chn at hc; omega
      exact ⟨opB_r, fun w => by omega, L, er_bin t4 c4 he e4 hc' X.1 Z.1 X.2.2.1 Z.2.2.1 (by omega) (X.2.2.2.cg (by omega)) (Z.2.2.2.cg (by omega))⟩
    · have hc' : (cd k1 = 30 ∨ cd k1 = 29) ∧ 3 ≤ y := by unfold chn at hc; omega
      refine ⟨opB_r, fun _ => ?_, L, er_join t4 c4 he e4 hc'.1 (X.2.1 (by omega)) (Z.2.1 (by omega)) X.2.2.1 Z.2.2.1 (by omega) hc'.2 (by omega) X.2.2.2 Z.2.2.2⟩
      show opB (cd k1) _ _ = 0 ∨ opB (cd k1) _ _ = 1
      rcases hc'.1 with w | w <;> rw [w] <;> exact b2i_r _
  · intro o k k1 b ec o8 X
    refine ⟨(opU_r X.1 hb' : rg (opU 31 bb (b.2.2 (r9 (H 90)) bb))), fun _ => b2i_r (b.2.2 (r9 (H 90)) bb = 0), ?_, ?_⟩
    · show 1 ≤ (b.2.1 ++ [(rUn 31, 0)]).length
      rw [List.length_append]
      exact Nat.le_add_left _ _
    · exact er_not (bz := bb) t4 c4 he e4 X.2.2.1 X.2.2.2
  · intro o k k1 k2 x z ec X e1 e2 Z
    refine ⟨opB_r, fun _ => ?_, ?_, er_cmp t4 c4 he e4 ⟨e1, e2⟩ X.2.2.1 Z.2.2.1 X.2.2.2 Z.2.2.2⟩
    · show opB (cd k1) _ _ = 0 ∨ opB (cd k1) _ _ = 1
      have hc' : cd k1 = 33 ∨ cd k1 = 34 ∨ cd k1 = 35 ∨ cd k1 = 36 ∨ cd k1 = 37 ∨ cd k1 = 38 := by omega
      rcases hc' with w | w | w | w | w | w <;> rw [w] <;> exact b2i_r _
    · show 1 ≤ (x.2.1 ++ (z.2.1 ++ [(rOp (cd k1), 0)])).length
      rw [List.length_append]
      have := X.2.2.1
      omega
theorem lawR_of {h : Hp} {b : Int} (t4 : 0 ≤ tt ∧ tt < 4) (c4 : 0 ≤ cl ∧ cl < 24) (d : Der cd vl law 2 0 k k1 x) (b0 : 0 ≤ b) (p : plR h (705 * tt + 97) b x.2.1) (e1 : h 87 (705 * tt + 1 + 4 * cl + 1) = b) (e2 : h 87 (705 * tt + 1 + 4 * cl + 2) = b + x.2.1.length) (hl : b + x.2.1.length ≤ 303) : LawR h tt cl (fun nm br => clp (x.2.2 nm br)) := by
  intro dd h1 Q he hn hb q
  have p1 : plR h1 (705 * tt + 97) b x.2.1 := plR_fr x.2.1 b (fun j _ _ => he j (by omega) (by omega)) p
  have f1 : h1 87 (705 * tt + 1 + 4 * cl + 1) = b := by rw [he _ (by omega) (by omega)]; exact e1
  have f2 : h1 87 (705 * tt + 1 + 4 * cl + 2) = b + x.2.1.length := by rw [he _ (by omega) (by omega)]; exact e2
  have hn' : ∀ i, 0 ≤ i → i < 9 → 0 ≤ r9 (h1 90) i ∧ r9 (h1 90) i ≤ 9999 := by
    intro i i0 i9
    unfold r9
    rw [if_pos ⟨i0, i9⟩]
    exact hn i i0 i9
  have R := Der_rg d (r9 (h1 90)) (r3 (fun i => h1 85 (66 + i))) hn' (r3_r hb)
  have M : wR (dd + 1) Q tt cl 0 0 b h1 := by
    refine Der_evR (D := dd + 1) (Q := Q) t4 c4 f2 hl hn hb d b 0 0 h1 p1 b0 (Int.le_refl _) (by decide) b0 (by decide) b0 (fun o _ _ => rfl) (fun g' a1 a2 a3 a4 a5 => ?_)
    rw [if_pos (by decide), if_pos (by decide)]
    intro u v
    have g87 : g' 87 = h1 87 := a1 87 (by decide) (by decide)
    refine Runs.go 20 [] ?_
    refine ⟨by omega, ⟨⟨by omega, show 705 * tt + 1 + 4 * cl + 2 < (2820 : Int) by omega⟩, ?_⟩⟩
    refine br.t (show g' 87 (705 * tt + 1 + 4 * cl + 2) ≤ b + x.2.1.length by rw [g87]; omega) ?_
    refine ⟨by decide, QL (q g' (fun o o1 o2 => a1 o o1 o2)) ?_⟩
    rw [a4 (by decide)]
    exact (clp_id R).symm
  have M2 : ∀ i : Int, i = h1 87 (705 * tt + 1 + 4 * cl + 1) → Runs (dd + 3) 230 38 [vA 84, vI tt, vI cl, vI (705 * tt + 1 + 4 * cl), vI (705 * tt + 97), vI 0, vI 0, vI i, none, none] [] h1 Q := by
    intro i ei
    rw [f1] at ei
    rw [ei]
    exact M none none
  refine Runs.go 60 [38] ?_
  refine ⟨by omega, ⟨by omega, ⟨by omega, ⟨by omega, ⟨by omega, ⟨by omega, ⟨by omega, ⟨⟨by omega, show 705 * tt + 1 + 4 * cl + 1 < (2820 : Int) by omega⟩, ?_⟩⟩⟩⟩⟩⟩⟩⟩
  exact M2 _ rfl
end LR
