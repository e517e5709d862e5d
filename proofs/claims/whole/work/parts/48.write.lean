/-! STEPS: pour -/
theorem bS3_has {f : Int → Prop} [DecidablePred f] {k : Int} (hk : 0 ≤ k ∧ k < 3) : iAnd (iShr (bS f 3) k) 1 = 1 ↔ f k := by
  obtain ⟨v0, v1, v2, -⟩ := pw_v
  have e1 : bS f 1 = if f 0 then 0 + pw 0 else 0 := bS_s (f := f) (i := 0) (by decide)
  have e2 : bS f 2 = if f 1 then bS f 1 + pw 1 else bS f 1 := bS_s (f := f) (i := 1) (by decide)
  have e3 : bS f 3 = if f 2 then bS f 2 + pw 2 else bS f 2 := bS_s (f := f) (i := 2) (by decide)
  rw [v0] at e1
  rw [v1] at e2
  rw [v2] at e3
  have T : ∀ s : Fin 8, ∀ i : Fin 3, (iAnd (iShr s.val i.val) 1 = 1) ↔ (s.val / 2 ^ i.val % 2 = 1) := by decide +kernel
  have hk' : k = 0 ∨ k = 1 ∨ k = 2 := by omega
  by_cases y0 : f 0 <;> by_cases y1 : f 1 <;> by_cases y2 : f 2
  all_goals
    rw [e3, e2, e1]
    simp only [y0, y1, y2, if_true, if_false]
    rcases hk' with e | e | e <;> subst e <;> simp only [y0, y1, y2] <;> decide +kernel
def pWrite (s : aA) (p kd f : Int) : aA := aset (aset (aset s (1396 + 2 * (s 11 % 1230)) (s 8 * 32 + p * 4 + kd)) (1396 + 2 * (s 11 % 1230) + 1) f) 11 (s 11 + 1)
theorem pWrite_o {s : aA} {p kd f j : Int} (h : j ≠ 11) (h2 : j < 1396) (hw : 0 ≤ s 11) : pWrite s p kd f j = s j := by
  unfold pWrite
  rw [aset_ne h, aset_ne (by omega), aset_ne (by omega)]
theorem CG.write {h h1 : Hp} {a : aA} {n m p kd f : Int} (I : CG h 2 a n) (pk : PK a m) (hm : 0 ≤ m ∧ m < 40) (hp : 0 ≤ p ∧ p ≤ 5) (hk : 0 ≤ kd ∧ kd ≤ 2) (hf : 0 ≤ f ∧ f ≤ 9999)
    (eo : ∀ o, o ≠ 2 → o ≠ 10 → h1 o = h o) (e2 : ∀ j, j ≠ 6 → h1 2 j = h 2 j) (e6 : h1 2 6 = min (a 11 + 1) 30)
    (ei : ∀ i, 0 ≤ i → i < min (a 11 + 1) 30 - 1 → h1 10 i = h 10 (if a 11 < 30 then i else i + 1)) (el : h1 10 (min (a 11 + 1) 30 - 1) = ((a 8 * 6 + p) * 3 + kd) * 10000 + f) : CG h1 2 (pWrite a p kd f) (n + 1) ∧ PK (pWrite a p kd f) (m + 1) := by
  have N := I.num
  have q0 := N.1.2
  have q8 := N.2.2.1.2
  have B := I.book
  have w0 := B.1.2
  have s3 := I.steps.1.2
  have cs := I.steps.2.2.2
  have hp' := I.steps.hp
  have b11 : pWrite a p kd f 11 = a 11 + 1 := aset_eq
  have bo : ∀ j, j ≠ 11 → j < 1396 → pWrite a p kd f j = a j := fun j x y => pWrite_o x y w0.1
  have br : ∀ e, 0 ≤ e → e % 1230 ≠ a 11 % 1230 → pWrite a p kd f (1396 + 2 * (e % 1230)) = a (1396 + 2 * (e % 1230)) ∧ pWrite a p kd f (1396 + 2 * (e % 1230) + 1) = a (1396 + 2 * (e % 1230) + 1) := by
    intro e x y
    unfold pWrite
    exact ⟨by rw [aset_ne (by omega), aset_ne (by omega), aset_ne (by omega)], by rw [aset_ne (by omega), aset_ne (by omega), aset_ne (by omega)]⟩
  have bn : pWrite a p kd f (1396 + 2 * (a 11 % 1230)) = a 8 * 32 + p * 4 + kd ∧ pWrite a p kd f (1396 + 2 * (a 11 % 1230) + 1) = f := by
    unfold pWrite
    exact ⟨by rw [aset_ne (by omega), aset_ne (by omega), aset_eq], by rw [aset_ne (by omega), aset_eq]⟩
  have PKn : PK (pWrite a p kd f) (m + 1) := by
    have z := pk
    unfold PK at *
    rw [bo 3 (by decide) (by decide), bo 0 (by decide) (by decide), b11, bo _ (by omega) (by omega), bo _ (by omega) (by omega)]
    omega
  have last := pk.2
  refine ⟨I.wBook (fun o _ _ x y => eo o x y) (fun j x y => ?_) (cNum.cg (fun j x y => e2 j (by omega)) (fun j _ _ _ => bo j (by omega) (by omega)) N) ⟨?_, ?_⟩ ⟨?_, ?_, fun j j0 j3 => ?_, ?_, ?_, ?_⟩ PKn.now, PKn⟩
  · unfold pWrite
    rw [aset_ne x, aset_ne (by omega), aset_ne (by omega)]
  · rw [b11]
    exact ⟨e6, by omega, by omega⟩
  · rw [b11]
    intro i i0 i1
    show ∃ d q k y : Int, _ ∧ _ ∧ _ ∧ _ ∧ h1 10 i = _ ∧ _ ∧ _
    by_cases cl : i = min (a 11 + 1) 30 - 1
    · refine ⟨a 8, p, kd, f, q8, hp, hk, hf, ?_, ?_, ?_⟩
      · rw [cl]; exact el
      · rw [show a 11 + 1 - min (a 11 + 1) 30 + i = a 11 by omega]; exact bn.1
      · rw [show a 11 + 1 - min (a 11 + 1) 30 + i = a 11 by omega]; exact bn.2
    · have E := ei i i0 (by omega)
      by_cases c30 : a 11 < 30
      · rw [if_pos c30] at E
        obtain ⟨d, q, k, y, g1, g2, g3, g4, g5, g6, g7⟩ := B.2 i i0 (by omega)
        rw [show a 11 - min (a 11) 30 + i = i by omega] at g6 g7
        have z := br i i0 (by omega)
        refine ⟨d, q, k, y, g1, g2, g3, g4, E.trans g5, ?_, ?_⟩
        · rw [show a 11 + 1 - min (a 11 + 1) 30 + i = i by omega, z.1]; exact g6
        · rw [show a 11 + 1 - min (a 11 + 1) 30 + i = i by omega, z.2]; exact g7
      · rw [if_neg c30] at E
        obtain ⟨d, q, k, y, g1, g2, g3, g4, g5, g6, g7⟩ := B.2 (i + 1) (by omega) (by omega)
        have e9 : a 11 - min (a 11) 30 + (i + 1) = a 11 + 1 - min (a 11 + 1) 30 + i := by omega
        rw [e9] at g6 g7
        have z := br (a 11 + 1 - min (a 11 + 1) 30 + i) (by omega) (by omega)
        refine ⟨d, q, k, y, g1, g2, g3, g4, E.trans g5, ?_, ?_⟩
        · rw [z.1]; exact g6
        · rw [z.2]; exact g7
  · rw [bo 3 (by decide) (by decide)]
    rw [show h1 (2 + 21) = h (2 + 21) from eo 23 (by decide) (by decide)]
    exact I.steps.1
  · rw [show h1 (2 + 21) = h (2 + 21) from eo 23 (by decide) (by decide)]
    exact I.steps.2.1
  · rw [bo 3 (by decide) (by decide)] at j3
    rw [show h1 (2 + 21) = h (2 + 21) from eo 23 (by decide) (by decide)]
    have R := I.steps.2.2.1 j j0 j3
    have W0 := R.2.2.2.2.1.2
    have W1 : a 11 ≤ a (166 + 41 * j + 4) + 1199 := by
      by_cases ej : j = a 3 - 1
      · rw [ej]; omega
      · have z := cs.1 j (a 3 - 1) j0 (by omega) (by omega)
        omega
    have W2 := cs.2.1 j j0 j3
    exact R.cg (fun i _ _ => congrFun (eo 24 (by decide) (by decide)) _) (fun i _ _ => bo _ (by omega) (by omega)) (fun z => by rw [bo 0 (by decide) (by decide)]; exact z) (fun e x y => br e (by omega) (by omega))
  · intro i j i0 ij j3
    rw [bo 3 (by decide) (by decide)] at j3
    rw [bo (166 + 41 * i) (by omega) (by omega), bo (166 + 41 * j) (by omega) (by omega), bo (166 + 41 * i + 4) (by omega) (by omega), bo (166 + 41 * j + 4) (by omega) (by omega)]
    exact cs.1 i j i0 ij j3
  · intro i i0 i3
    rw [bo 3 (by decide) (by decide)] at i3
    rw [bo 3 (by decide) (by decide), b11, bo (166 + 41 * i + 4) (by omega) (by omega)]
    have z := cs.2.1 i i0 i3
    by_cases ej : i = a 3 - 1
    · rw [ej] at z ⊢
      omega
    · have z2 := cs.1 i (a 3 - 1) i0 (by omega) (by omega)
      omega
  · intro j q j0 j3 x0 x1
    rw [bo 3 (by decide) (by decide)] at j3
    rw [bo (166 + 41 * j) (by omega) (by omega)] at x0
    rw [bo (166 + 41 * (j + 1)) (by omega) (by omega)] at x1
    have z1 := hp' j (by omega) (by omega)
    have z2 := hp' (j + 1) (by omega) (by omega)
    exact (cs.2.2 j q j0 j3 x0 x1).cg (fun k _ _ => bo _ (by omega) (by omega)) (bo _ (by omega) (by omega)) (bo _ (by omega) (by omega))
section WR
variable {d : Nat} {h : Hp} {Q : aPO} {a : aA} {n m : Int}
theorem c_write {p kd f : Int} (I : CG h 2 a n) (pk : PK a m) (hm : 0 ≤ m ∧ m < 40) (hp : 0 ≤ p ∧ p ≤ 5) (hk : 0 ≤ kd ∧ kd ≤ 2) (hf : 0 ≤ f ∧ f ≤ 9999) (k : ∀ h1, CG h1 2 (pWrite a p kd f) (n + 1) → PK (pWrite a p kd f) (m + 1) → (∀ o, o ≠ 2 → o ≠ 10 → h1 o = h o) → Q none h1) : Runs d 15 0 [vA 2, vI p, vI kd, vI f] [] h Q := by
  have w0 := I.book.1
  have e6 : h 2 6 = min (a 11) 30 := w0.1
  have e8 : h 2 2 = a 8 := I.num.2.2.1.1
  have r8 := I.num.2.2.1.2
  have G : ∀ (g : Hp) (c : Int), g 2 6 = c → (0 ≤ c ∧ c ≤ 29) → g 2 2 = a 8 → Q none (hup (hup g 10 c (((a 8 * 6 + p) * 3 + kd) * 10000 + f)) 2 6 (c + 1)) → Runs d 15 34 [vA 2, vI p, vI kd, vI f] [] g Q := by
    intro g c e1 hc e2 K
    subst e1
    rw [← e2] at K
    refine Runs.go 60 [] ?_
    refine ⟨show -2147483648 ≤ g 2 2 * 6 ∧ g 2 2 * 6 < 2147483648 by omega, ⟨show -2147483648 ≤ g 2 2 * 6 + p ∧ g 2 2 * 6 + p < 2147483648 by omega, ⟨show -2147483648 ≤ (g 2 2 * 6 + p) * 3 ∧ (g 2 2 * 6 + p) * 3 < 2147483648 by omega, ⟨show -2147483648 ≤ (g 2 2 * 6 + p) * 3 + kd ∧ (g 2 2 * 6 + p) * 3 + kd < 2147483648 by omega, ⟨show -2147483648 ≤ ((g 2 2 * 6 + p) * 3 + kd) * 10000 ∧ ((g 2 2 * 6 + p) * 3 + kd) * 10000 < 2147483648 by omega, ⟨show -2147483648 ≤ ((g 2 2 * 6 + p) * 3 + kd) * 10000 + f ∧ ((g 2 2 * 6 + p) * 3 + kd) * 10000 + f < 2147483648 by omega, ?_⟩⟩⟩⟩⟩⟩
    refine ⟨⟨show 0 ≤ g 2 6 by omega, show g 2 6 < (30 : Int) by omega⟩, ⟨show -2147483648 ≤ g 2 6 + 1 ∧ g 2 6 + 1 < 2147483648 by omega, ?_⟩⟩
    exact K
  refine Runs.go 40 [34] ?_
  refine br.i (fun x1 => ?_) (fun x1 => ?_)
  · have x2 : h 2 6 ≠ 30 := x1
    refine G h (h 2 6) rfl (by omega) e8 ?_
    have J := I.write (h1 := hup (hup h 10 (h 2 6) (((a 8 * 6 + p) * 3 + kd) * 10000 + f)) 2 6 (h 2 6 + 1)) pk hm hp hk hf (fun o x y => by rw [hup_o x, hup_o y]) (fun j x => by rw [hup_nj x, hup_o (by decide)]) (by rw [hup_eq]; omega)
      (fun i i0 i1 => by rw [hup_o (by decide), hup_nj (by omega), if_pos (by omega)]) (by rw [hup_o (by decide), show min (a 11 + 1) 30 - 1 = h 2 6 by omega, hup_eq])
    exact k _ J.1 J.2 (fun o x y => by rw [hup_o x, hup_o y])
  · have x2 : h 2 6 = 30 := Decidable.not_not.mp x1
    refine ⟨by decide, ⟨show -2147483648 ≤ h 2 6 - 1 ∧ h 2 6 - 1 < 2147483648 by omega, ?_⟩⟩
    refine G (hup (hcp h 10 1 10 0 29) 2 6 (h 2 6 - 1)) 29 (by rw [hup_eq]; omega) (by decide) (by rw [hup_nj (by decide), hcp_o (by decide)]; exact e8) ?_
    have J := I.write (h1 := hup (hup (hup (hcp h 10 1 10 0 29) 2 6 (h 2 6 - 1)) 10 29 (((a 8 * 6 + p) * 3 + kd) * 10000 + f)) 2 6 (29 + 1)) pk hm hp hk hf (fun o x y => by rw [hup_o x, hup_o y, hup_o x, hcp_o y]) (fun j x => by rw [hup_nj x, hup_o (by decide), hup_nj x, hcp_o (by decide)]) (by rw [hup_eq]; omega)
      (fun i i0 i1 => by rw [hup_o (by decide), hup_nj (by omega), hup_o (by decide), hcp_in (by omega), if_neg (by omega), show 1 + (i - 0) = i + 1 by omega]) (by rw [hup_o (by decide), show min (a 11 + 1) 30 - 1 = 29 by omega, hup_eq])
    exact k _ J.1 J.2 (fun o x y => by rw [hup_o x, hup_o y, hup_o x, hcp_o y])
theorem CG.setX {v : Int} (I : CG h 2 a n) (hv : 0 ≤ v ∧ v ≤ 30492) : CG (hup h 2 3 v) 2 (aset a 10 v) n ∧ (PK a m → PK (aset a 10 v) m) := by
  have N := I.num
  refine I.setNum (fun o _ _ e => hup_o e) (fun j e => aset_ne (by omega)) (hup_nj (by decide)) ?_
  have g : ∀ j : Int, j ≠ 3 → hup h 2 3 v 2 j = h 2 j := fun j e => hup_nj e
  have b : ∀ j : Int, j ≠ 10 → aset a 10 v j = a j := fun j e => aset_ne e
  refine ⟨?_, ?_, ?_, ?_, ?_, ?_⟩
  · show hup h 2 3 v 2 0 = aset a 10 v 0 ∧ 0 ≤ aset a 10 v 0 ∧ aset a 10 v 0 ≤ 6
    rw [g 0 (by decide), b 0 (by decide)]; exact N.1
  · show hup h 2 3 v 2 1 = aset a 10 v 9 ∧ 1 ≤ aset a 10 v 9 ∧ aset a 10 v 9 ≤ 99
    rw [g 1 (by decide), b 9 (by decide)]; exact N.2.1
  · show hup h 2 3 v 2 2 = aset a 10 v 8 ∧ 0 ≤ aset a 10 v 8 ∧ aset a 10 v 8 ≤ 9999
    rw [g 2 (by decide), b 8 (by decide)]; exact N.2.2.1
  · show hup h 2 3 v 2 3 = aset a 10 v 10 ∧ 0 ≤ aset a 10 v 10 ∧ aset a 10 v 10 ≤ 30492
    rw [hup_eq, aset_eq]; exact ⟨rfl, hv⟩
  · show hup h 2 3 v 2 4 = aset a 10 v 1 ∧ 0 ≤ aset a 10 v 1 ∧ aset a 10 v 1 ≤ 4
    rw [g 4 (by decide), b 1 (by decide)]; exact N.2.2.2.2.1
  · show hup h 2 3 v 2 5 = aset a 10 v 2 ∧ -1 ≤ aset a 10 v 2 ∧ aset a 10 v 2 < aset a 10 v 1
    rw [g 5 (by decide), b 1 (by decide), b 2 (by decide)]; exact N.2.2.2.2.2
def pDraw (a : aA) : aA := aset a 10 ((a 10 * 389 + 269) % 30493)
theorem c_draw (I : CG h 2 a n) (hn : n ≤ 30000) (k : ∀ h1, CG h1 2 (pDraw a) n → (PK a m → PK (pDraw a) m) → (∀ o, o ≠ 2 → h1 o = h o) → Q (vI (a 10)) h1) : Runs d 14 0 [vA 2, none] [] h Q := by
  have e : h 2 3 = a 10 := I.num.2.2.2.1.1
  have r := I.num.2.2.2.1.2
  refine Runs.go 40 [] ?_
  refine ⟨show -2147483648 ≤ h 2 3 * 389 ∧ h 2 3 * 389 < 2147483648 by omega, ⟨show -2147483648 ≤ h 2 3 * 389 + 269 ∧ h 2 3 * 389 + 269 < 2147483648 by omega, ⟨by omega, ?_⟩⟩⟩
  have t : (h 2 3 * 389 + 269).tmod 30493 = (a 10 * 389 + 269) % 30493 := by rw [Int.tmod_eq_emod_of_nonneg (by omega), e]
  have J := I.setX (m := m) (v := (a 10 * 389 + 269) % 30493) (by omega)
  have E : hup h 2 3 ((h 2 3 * 389 + 269).tmod 30493) = hup h 2 3 ((a 10 * 389 + 269) % 30493) := by rw [t]
  have K := k _ J.1 J.2 (fun o x => hup_o x)
  rw [← E] at K
  exact QI K e
theorem r_anew (w : Wf (h 85)) (k : Q none (hup h 85 10 ((h 85 10 * 389 + 269) % 30493))) : Runs d 236 0 [vA 84] [] h Q := by
  have r := w.p10
  refine Runs.go 40 [] ?_
  have t : (h 85 10 * 389 + 269).tmod 30493 = (h 85 10 * 389 + 269) % 30493 := Int.tmod_eq_emod_of_nonneg (by omega)
  refine ⟨by decide, ⟨show -9223372036854775808 ≤ h 85 10 * 389 ∧ h 85 10 * 389 < 9223372036854775808 by omega, ⟨show -9223372036854775808 ≤ h 85 10 * 389 + 269 ∧ h 85 10 * 389 + 269 < 9223372036854775808 by omega, ⟨by omega, ⟨show -2147483648 ≤ (h 85 10 * 389 + 269).tmod 30493 ∧ (h 85 10 * 389 + 269).tmod 30493 < 2147483648 by omega, ⟨by decide, ?_⟩⟩⟩⟩⟩⟩
  rw [← t] at k
  exact k
end WR
