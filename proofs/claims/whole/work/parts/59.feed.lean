/-! CALLS: feed, end -/
theorem by_and (y : Int) : iAnd y 255 = y % 256 := by
  have e : (Int32.ofInt y &&& Int32.ofInt 255).toBitVec.toNat = (y % 4294967296).toNat % 256 := by
    rw [Int32.toBitVec_and, BitVec.toNat_and]
    have e1 : (Int32.ofInt y).toBitVec.toNat = (y % 4294967296).toNat := by
      show (BitVec.ofInt 32 y).toNat = _
      rw [BitVec.toNat_ofInt]
      rfl
    have e2 : (Int32.ofInt 255).toBitVec.toNat = 2 ^ 8 - 1 := by decide
    rw [e1, e2, Nat.and_two_pow_sub_one_eq_mod]
  show (Int32.ofInt y &&& Int32.ofInt 255).toBitVec.toInt = _
  rw [BitVec.toInt_eq_toNat_cond, e]
  have : (y % 4294967296).toNat % 256 < 256 := Nat.mod_lt _ (by decide)
  rw [if_pos (by omega)]
  omega
def sg (x : Int) : Int := if x < 128 then x else x - 256
theorem by_iB {y : Int} (h : -2147483648 ≤ y ∧ y < 2147483648) : iB y = sg (y % 256) := by
  unfold iB sg
  rw [Int8.toInt_toInt32, Int32.toInt_toInt8, i32 h.1 h.2, Int.bmod_def]
  omega
theorem sg_r {x : Int} (h : 0 ≤ x ∧ x ≤ 255) : -128 ≤ sg x ∧ sg x < 128 := by unfold sg; split <;> omega
theorem iShr_r {x y : Int} : -2147483648 ≤ iShr x y ∧ iShr x y < 2147483648 := i32r _
def pApp (T : Int → Int) (l v : Int) : Int → Int := fun j => if l ≤ j ∧ j < l + 4 then iShr v (24 - 8 * (j - l)) % 256 else T j
theorem pApp_r {T : Int → Int} {l v : Int} (h : ∀ j, 0 ≤ j → j < l → 0 ≤ T j ∧ T j ≤ 255) : ∀ j, 0 ≤ j → j < l + 4 → 0 ≤ pApp T l v j ∧ pApp T l v j ≤ 255 := by
  intro j j0 j1
  unfold pApp
  split
  · omega
  · exact h j j0 (by omega)
section FE
variable {d : Nat} {h : Hp} {Q : aPO} {T : Int → Int} {l v : Int}
theorem c_append (hl : 0 ≤ l ∧ l + 4 ≤ 300) (el : h 0 6 = l) (eT : ∀ j, 0 ≤ j → j < l → h 83 j = sg (T j)) (k : ∀ h1, h1 0 6 = l + 4 → (∀ j, j ≠ 6 → h1 0 j = h 0 j) → (∀ j, 0 ≤ j → j < l + 4 → h1 83 j = sg (pApp T l v j)) → (∀ o, o ≠ 0 → o ≠ 83 → h1 o = h o) → Q none h1) : Runs d 114 0 [vA 0, vI v, none] [] h Q := by
  refine Runs.go 10 [3] ?_
  refine downI (R := fun t => ∀ g : Hp, g 0 6 = l + t → (∀ j, j ≠ 6 → g 0 j = h 0 j) → (∀ j, 0 ≤ j → j < l + t → g 83 j = sg (pApp T l v j)) → (∀ o, o ≠ 0 → o ≠ 83 → g o = h o) → Runs d 114 3 [vA 0, vI v, vI (24 - 8 * t)] [] g Q) (x := 0) (n := 4) (by decide) ?_ (fun t t0 t4 r => ?_) h (by omega) (fun _ _ => rfl) (fun j x y => ?_) (fun _ _ _ => rfl)
  · intro g e6 e0 e8 f
    refine Runs.go 20 [] ?_
    exact br.t (by omega) (k g e6 e0 e8 f)
  · intro g e6 e0 e8 f
    have b := by_iB (y := iShr v (24 - 8 * t)) iShr_r
    have sr := sg_r (x := iShr v (24 - 8 * t) % 256) (by omega)
    refine Runs.go 30 [3] ?_
    refine br.f (by omega) ?_
    refine br.f (show ¬ 300 ≤ g 0 6 by omega) ?_
    refine ⟨⟨⟨show 0 ≤ g 0 6 by omega, show g 0 6 < (300 : Int) by omega⟩, by omega⟩, ?_⟩
    refine ⟨show -2147483648 ≤ g 0 6 + 1 ∧ g 0 6 + 1 < 2147483648 by omega, ⟨by omega, ?_⟩⟩
    have R := r (hup (hup g 83 (g 0 6) (iB (iShr v (24 - 8 * t)))) 0 6 (g 0 6 + 1)) (by rw [hup_eq]; omega) (fun j x => by rw [hup_nj x, hup_o (by decide)]; exact e0 j x) (fun j x y => ?_) (fun o x y => by rw [hup_o x, hup_o y]; exact f o x y)
    · rw [show 24 - 8 * (t + 1) = 24 - 8 * t + -8 by omega] at R
      exact R
    · rw [hup_o (by decide)]
      by_cases ej : j = g 0 6
      · rw [ej, hup_eq, b]
        unfold pApp
        rw [if_pos (by omega), show 24 - 8 * (g 0 6 - l) = 24 - 8 * t by omega]
      · rw [hup_nj ej]
        exact e8 j x (by omega)
  · rw [eT j x (by omega)]
    unfold pApp
    rw [if_neg (by omega)]
theorem r_four (hl : 0 ≤ l ∧ l + 4 ≤ 300) (el : h 84 4 = l) (eT : ∀ j, 0 ≤ j → j < l → h 88 j = T j) (k : ∀ h1, h1 84 4 = l + 4 → (∀ j, j ≠ 4 → h1 84 j = h 84 j) → (∀ j, 0 ≤ j → j < l + 4 → h1 88 j = pApp T l v j) → (∀ o, o ≠ 84 → o ≠ 88 → h1 o = h o) → Q none h1) : Runs d 181 0 [vA 84, vI v, none] [] h Q := by
  refine Runs.go 10 [3] ?_
  refine downI (R := fun t => ∀ g : Hp, g 84 4 = l + t → (∀ j, j ≠ 4 → g 84 j = h 84 j) → (∀ j, 0 ≤ j → j < l + t → g 88 j = pApp T l v j) → (∀ o, o ≠ 84 → o ≠ 88 → g o = h o) → Runs d 181 3 [vA 84, vI v, vI (24 - 8 * t)] [] g Q) (x := 0) (n := 4) (by decide) ?_ (fun t t0 t4 r => ?_) h (by omega) (fun _ _ => rfl) (fun j x y => ?_) (fun _ _ _ => rfl)
  · intro g e6 e0 e8 f
    refine Runs.go 20 [] ?_
    exact br.t (by omega) (k g e6 e0 e8 f)
  · intro g e6 e0 e8 f
    refine Runs.go 30 [3] ?_
    refine br.f (by omega) ?_
    refine ⟨⟨show 0 ≤ g 84 4 by omega, show g 84 4 < (300 : Int) by omega⟩, ?_⟩
    refine ⟨show -2147483648 ≤ g 84 4 + 1 ∧ g 84 4 + 1 < 2147483648 by omega, ⟨by omega, ?_⟩⟩
    have R := r (hup (hup g 88 (g 84 4) (iAnd (iShr v (24 - 8 * t)) 255)) 84 4 (g 84 4 + 1)) (by rw [hup_eq]; omega) (fun j x => by rw [hup_nj x, hup_o (by decide)]; exact e0 j x) (fun j x y => ?_) (fun o x y => by rw [hup_o x, hup_o y]; exact f o x y)
    · rw [show 24 - 8 * (t + 1) = 24 - 8 * t + -8 by omega] at R
      exact R
    · rw [hup_o (by decide)]
      by_cases ej : j = g 84 4
      · rw [ej, hup_eq, by_and]
        unfold pApp
        rw [if_pos (by omega), show 24 - 8 * (g 84 4 - l) = 24 - 8 * t by omega]
      · rw [hup_nj ej]
        exact e8 j x (by omega)
  · rw [eT j x (by omega)]
    unfold pApp
    rw [if_neg (by omega)]
end FE
theorem Inv.tp {n : Nat} {h h2 : Hp} (I : Inv n h) (f : ∀ o, o ≠ 0 → o ≠ 83 → o ≠ 84 → o ≠ 88 → h2 o = h o) (T : cTape h2) : Inv (n + 1) h2 := by
  obtain ⟨i1, i2, i3, i4, i5, L, iL⟩ := I
  refine ⟨?_, ?_, T, ?_, ?_, L, ?_⟩
  · rw [f 85 (by decide) (by decide) (by decide) (by decide)]; exact (i1.fr (fun o _ _ => f o (by omega) (by omega) (by omega) (by omega))).le (by omega)
  · rw [f 86 (by decide) (by decide) (by decide) (by decide)]; exact (i2.fr (fun o _ _ => f o (by omega) (by omega) (by omega) (by omega))).le (by omega)
  · rw [f 1 (by decide) (by decide) (by decide) (by decide)]; exact i4
  · rw [f 85 (by decide) (by decide) (by decide) (by decide), f 86 (by decide) (by decide) (by decide) (by decide)]; exact i5
  · rw [f 85 (by decide) (by decide) (by decide) (by decide)]; exact iL.fr (fun o _ _ => f o (by omega) (by omega) (by omega) (by omega)) (f 87 (by decide) (by decide) (by decide) (by decide))
theorem o_end : op_end Inv := by
  intro x hx n hn h I ok
  obtain ⟨t1, t2, t3, t4⟩ := I.2.2.1
  refine Runs.go 30 [] ?_
  have F : ¬ (0 ≤ x 1 ∧ x 1 ≤ h 84 4) → ∃ z, vI (-1) = vI z ∧ Runs 150 183 0 [vA 84, vI (x 1)] [] h (fun r2 h2 => r2 = vI z ∧ Inv (n + 1) h2) := by
    intro y
    refine ⟨-1, rfl, ?_⟩
    refine Runs.go 30 [] ?_
    refine r_isIn (y := h 84 4) ?_
    refine br.j (fun _ => ⟨rfl, I.le (by omega)⟩) (fun q => absurd (b2i_nz q) y)
  refine br.i (fun y => F (by omega)) (fun y => ?_)
  refine br.j (fun y2 => F ?_) (fun y2 => ?_)
  · have y' : ¬ x 1 ≤ h 0 6 := y2
    omega
  have y' : x 1 ≤ h 0 6 := y2
  refine ⟨x 1, rfl, ?_⟩
  have e4 : hup h 0 6 (x 1) 84 4 = h 84 4 := by rw [hup_o (by decide)]
  refine Runs.go 30 [] ?_
  refine r_isIn (y := hup h 0 6 (x 1) 84 4) ?_
  refine br.j (fun q => absurd (b2i_z (Decidable.not_not.mp q)) (fun z => z ⟨by omega, by omega⟩)) (fun q => ?_)
  refine ⟨rfl, I.tp (fun o a b c d => by rw [hup_o c, hup_o a]) ?_⟩
  have g0 : hup (hup h 0 6 (x 1)) 84 4 (x 1) 0 = aset (h 0) 6 (x 1) := by rw [hup_o (by decide), hup_s]
  have g84 : hup (hup h 0 6 (x 1)) 84 4 (x 1) 84 = aset (h 84) 4 (x 1) := by rw [hup_s, hup_o (by decide)]
  have g83 : hup (hup h 0 6 (x 1)) 84 4 (x 1) 83 = h 83 := by rw [hup_o (by decide), hup_o (by decide)]
  have g88 : hup (hup h 0 6 (x 1)) 84 4 (x 1) 88 = h 88 := by rw [hup_o (by decide), hup_o (by decide)]
  unfold cTape
  rw [g0, g84, g83, g88, aset_eq, aset_eq, aset_ne (by decide), aset_ne (by decide), aset_ne (by decide), aset_ne (by decide)]
  exact ⟨⟨rfl, by omega, by omega⟩, t2, t3, fun i i0 i1 => t4 i i0 (by omega)⟩
theorem o_feed : op_feed Inv := by
  intro x hx n hn h I ok
  obtain ⟨t1, t2, t3, t4⟩ := I.2.2.1
  have e6 : h 0 6 = h 84 4 := t1.1
  refine Runs.go 60 [] ?_
  refine ⟨show -2147483648 ≤ h 0 6 + 20 ∧ h 0 6 + 20 < 2147483648 by omega, ?_⟩
  refine br.j (fun y => ?_) (fun y => ?_)
  · have y' : ¬ h 0 6 + 20 ≤ 300 := y
    refine ⟨-1, rfl, ?_⟩
    refine Runs.go 30 [] ?_
    refine ⟨show -2147483648 ≤ h 84 4 + 20 ∧ h 84 4 + 20 < 2147483648 by omega, ?_⟩
    refine br.f (show ¬ h 84 4 + 20 ≤ 300 by omega) ?_
    exact ⟨rfl, I.le (by omega)⟩
  have y' : h 0 6 + 20 ≤ 300 := y
  have T0 : ∀ j, 0 ≤ j → j < h 84 4 → h 83 j = sg (h 88 j) := fun j a b => (t4 j a b).2
  have T1 : ∀ j, 0 ≤ j → j < h 84 4 → 0 ≤ h 88 j ∧ h 88 j ≤ 255 := fun j a b => (t4 j a b).1
  generalize hl : h 84 4 = l at *
  have p1 := pApp_r (v := x 1) T1
  have p2 := pApp_r (l := l + 4) (v := x 2) p1
  have p3 := pApp_r (l := l + 4 + 4) (v := x 3) p2
  have p4 := pApp_r (l := l + 4 + 4 + 4) (v := x 4) p3
  have p5 := pApp_r (l := l + 4 + 4 + 4 + 4) (v := x 5) p4
  refine c_append (l := l) (T := h 88) (by omega) e6 T0 (fun h1 a1 b1 c1 f1 => ?_)
  refine c_append (by omega) a1 c1 (fun h2 a2 b2 c2 f2 => ?_)
  refine c_append (by omega) a2 c2 (fun h3 a3 b3 c3 f3 => ?_)
  refine c_append (by omega) a3 c3 (fun h4 a4 b4 c4 f4 => ?_)
  refine c_append (by omega) a4 c4 (fun h5 a5 b5 c5 f5 => ?_)
  have fo : ∀ o, o ≠ 0 → o ≠ 83 → h5 o = h o := fun o p q => ((((f5 o p q).trans (f4 o p q)).trans (f3 o p q)).trans (f2 o p q)).trans (f1 o p q)
  have b0 : ∀ j, j ≠ 6 → h5 0 j = h 0 j := fun j p => ((((b5 j p).trans (b4 j p)).trans (b3 j p)).trans (b2 j p)).trans (b1 j p)
  refine ⟨_, rfl, ?_⟩
  have g4 : h5 84 4 = l := by rw [fo 84 (by decide) (by decide)]; exact hl
  refine Runs.go 60 [] ?_
  refine ⟨show -2147483648 ≤ h5 84 4 + 20 ∧ h5 84 4 + 20 < 2147483648 by omega, ?_⟩
  refine br.t (show h5 84 4 + 20 ≤ 300 by omega) ?_
  refine r_four (l := l) (T := h 88) (by omega) g4 (fun j _ _ => by rw [fo 88 (by decide) (by decide)]) (fun q1 u1 v1 w1 s1 => ?_)
  refine r_four (by omega) u1 w1 (fun q2 u2 v2 w2 s2 => ?_)
  refine r_four (by omega) u2 w2 (fun q3 u3 v3 w3 s3 => ?_)
  refine r_four (by omega) u3 w3 (fun q4 u4 v4 w4 s4 => ?_)
  refine r_four (by omega) u4 w4 (fun q5 u5 v5 w5 s5 => ?_)
  have so : ∀ o, o ≠ 84 → o ≠ 88 → q5 o = h5 o := fun o p q => ((((s5 o p q).trans (s4 o p q)).trans (s3 o p q)).trans (s2 o p q)).trans (s1 o p q)
  have v0 : ∀ j, j ≠ 4 → q5 84 j = h5 84 j := fun j p => ((((v5 j p).trans (v4 j p)).trans (v3 j p)).trans (v2 j p)).trans (v1 j p)
  refine ⟨?_, I.tp (fun o a b c d => (so o c d).trans (fo o a b)) ?_⟩
  · show vI (q5 84 4) = vI (h5 0 6)
    rw [u5, a5]
  · unfold cTape
    rw [so 0 (by decide) (by decide), so 83 (by decide) (by decide), u5, a5, v0 5 (by decide), v0 6 (by decide), b0 7 (by decide), b0 8 (by decide), fo 84 (by decide) (by decide)]
    refine ⟨⟨rfl, by omega, by omega⟩, t2, t3, fun i i0 i1 => ?_⟩
    rw [c5 i i0 i1, w5 i i0 i1]
    exact ⟨p5 i i0 i1, rfl⟩
