/-! CALLS: image, back (printed by wip/whole/gen/image.py) -/
theorem CG.cp {h h1 : Hp} {c c1 : Nat} {a a1 : aA} {n : Int} (e0 : ∀ j, 0 ≤ j → j < 7 → h1 c1 j = h c j) (e : ∀ i : Nat, i ≤ 22 → i ≠ 0 → i ≠ 9 → i ≠ 13 → i ≠ 17 → i ≠ 21 → ∀ j, 0 ≤ j → j < szC i → h1 (c1 + i) j = h (c + i) j) (e9 : h1 (c1 + 9) 3 = h (c + 9) 3) (e13 : h1 (c1 + 13) 3 = h (c + 13) 3) (e17 : h1 (c1 + 17) 3 = h (c + 17) 3) (e1 : h1 (c1 + 21) 1 = h (c + 21) 1) (e2 : h1 (c1 + 21) 2 = h (c + 21) 2) (ea : ∀ j, 0 ≤ j → j < 3856 → a1 j = a j) (I : CG h c a n) : CG h1 c1 a1 n := by
  obtain ⟨i1, i2, i3, i4, i5, i6, i7, i8, i9, i10, i11⟩ := I
  have hp := i10.hp
  have q0 := i1.1.2
  have q3 := i10.1.2
  refine ⟨i1.cg (fun j _ _ => e0 j (by omega) (by omega)) (fun j _ _ _ => ea j (by omega) (by omega)), i2.cg ?_ (fun j _ z => e 4 (by decide) (by decide) (by decide) (by decide) (by decide) (by decide) j (by omega) z) (fun j _ _ => ea j (by omega) (by omega)), i3.cg (fun j _ z => e 5 (by decide) (by decide) (by decide) (by decide) (by decide) (by decide) j (by omega) z) (fun j _ _ => ea j (by omega) (by omega)),
    i4.cg (fun j _ z => e 6 (by decide) (by decide) (by decide) (by decide) (by decide) (by decide) j (by omega) z) (fun j _ _ => ea j (by omega) (by omega)), i5.cg (fun j _ z => e 7 (by decide) (by decide) (by decide) (by decide) (by decide) (by decide) j (by omega) z) (fun j _ _ => ea j (by omega) (by omega)),
    i6.cg e9 ?_ (ea _ (by omega) (by omega)) (fun j _ _ => ea j (by omega) (by omega)), i7.cg e13 ?_ (ea _ (by omega) (by omega)) (fun j _ _ => ea j (by omega) (by omega)), i8.cg e17 ?_ (ea _ (by omega) (by omega)) (fun j _ _ => ea j (by omega) (by omega)),
    i9.cg (e0 6 (by decide) (by decide)) (fun j _ z => e 8 (by decide) (by decide) (by decide) (by decide) (by decide) (by decide) j (by omega) z) (ea _ (by omega) (by omega)) (fun j _ _ => ea j (by omega) (by omega)),
    i10.cg e1 e2 (fun j _ z => e 22 (by decide) (by decide) (by decide) (by decide) (by decide) (by decide) j (by omega) z) q0.2 (Int.le_of_eq (ea 0 (by decide) (by decide)).symm) (ea _ (by omega) (by omega)) (ea _ (by omega) (by omega)) (fun p _ _ => ⟨ea _ (by omega) (by omega), ea _ (by omega) (by omega)⟩) (fun j _ _ => ea j (by omega) (by omega)), i11.cg q3.2 hp q0.2 (fun j _ _ _ => ea j (by omega) (by omega))⟩
  · intro i i1 i3 j j0 j6
    have : i = 1 ∨ i = 2 ∨ i = 3 := by omega
    rcases this with z | z | z <;> subst z <;> exact e _ (by decide) (by decide) (by decide) (by decide) (by decide) (by decide) j j0 j6
  · intro i i1 i3 j j0 j6
    have : i = 10 ∨ i = 11 := by omega
    rcases this with z | z <;> subst z <;> exact e _ (by decide) (by decide) (by decide) (by decide) (by decide) (by decide) j j0 j6
  · intro i i1 i3 j j0 j6
    have : i = 14 ∨ i = 15 := by omega
    rcases this with z | z <;> subst z <;> exact e _ (by decide) (by decide) (by decide) (by decide) (by decide) (by decide) j j0 j6
  · intro i i1 i3 j j0 j6
    have : i = 18 ∨ i = 19 ∨ i = 20 := by omega
    rcases this with z | z | z <;> subst z <;> exact e _ (by decide) (by decide) (by decide) (by decide) (by decide) (by decide) j j0 j6
def imH (h : Hp) : Hp := hcp (hup (hup (hcp (hcp (hcp (hup (hcp (hcp (hcp (hup (hcp (hcp (hcp (hup (hcp (hcp (hcp (hcp (hcp (hcp (hcp (hcp (hup (hup (hup (hup (hup (hup (hup (h) 25 0 (h 2 0)) 25 1 (h 2 1)) 25 2 (h 2 2)) 25 3 (h 2 3)) 25 4 (h 2 4)) 25 5 (h 2 5)) 25 6 (h 2 6)) 3 0 26 0 6) 4 0 27 0 6) 5 0 28 0 6) 6 0 29 0 24) 7 0 30 0 3) 8 0 31 0 3) 9 0 32 0 36) 10 0 33 0 30) 34 3 (h 11 3)) 12 0 35 0 8) 13 0 36 0 8) 14 0 37 0 8) 38 3 (h 15 3)) 16 0 39 0 8) 17 0 40 0 8) 18 0 41 0 8) 42 3 (h 19 3)) 20 0 43 0 8) 21 0 44 0 8) 22 0 45 0 8) 46 1 (h 23 1)) 46 2 (h 23 2)) 24 0 47 0 2130
theorem imH_o {h : Hp} {o : Nat} (ho : ¬ (25 ≤ o ∧ o ≤ 47)) : imH h o = h o := by
  unfold imH
  rw [hcp_o (by omega), hup_o (by omega), hup_o (by omega), hcp_o (by omega), hcp_o (by omega), hcp_o (by omega), hup_o (by omega), hcp_o (by omega), hcp_o (by omega), hcp_o (by omega), hup_o (by omega), hcp_o (by omega), hcp_o (by omega), hcp_o (by omega), hup_o (by omega), hcp_o (by omega), hcp_o (by omega), hcp_o (by omega), hcp_o (by omega), hcp_o (by omega), hcp_o (by omega), hcp_o (by omega), hcp_o (by omega), hup_o (by omega), hup_o (by omega), hup_o (by omega), hup_o (by omega), hup_o (by omega), hup_o (by omega), hup_o (by omega)]
theorem imH_1 {h : Hp} {j : Int} (j0 : 0 ≤ j) (j1 : j < 6) : imH h 26 j = h 3 j := by
  unfold imH
  rw [hcp_o (by decide), hup_o (by decide), hup_o (by decide), hcp_o (by decide), hcp_o (by decide), hcp_o (by decide), hup_o (by decide), hcp_o (by decide), hcp_o (by decide), hcp_o (by decide), hup_o (by decide), hcp_o (by decide), hcp_o (by decide), hcp_o (by decide), hup_o (by decide), hcp_o (by decide), hcp_o (by decide), hcp_o (by decide), hcp_o (by decide), hcp_o (by decide), hcp_o (by decide), hcp_o (by decide), hcp_in (by omega), hup_o (by decide), hup_o (by decide), hup_o (by decide), hup_o (by decide), hup_o (by decide), hup_o (by decide), hup_o (by decide), Int.sub_zero, Int.zero_add]
theorem imH_2 {h : Hp} {j : Int} (j0 : 0 ≤ j) (j1 : j < 6) : imH h 27 j = h 4 j := by
  unfold imH
  rw [hcp_o (by decide), hup_o (by decide), hup_o (by decide), hcp_o (by decide), hcp_o (by decide), hcp_o (by decide), hup_o (by decide), hcp_o (by decide), hcp_o (by decide), hcp_o (by decide), hup_o (by decide), hcp_o (by decide), hcp_o (by decide), hcp_o (by decide), hup_o (by decide), hcp_o (by decide), hcp_o (by decide), hcp_o (by decide), hcp_o (by decide), hcp_o (by decide), hcp_o (by decide), hcp_in (by omega), hcp_o (by decide), hup_o (by decide), hup_o (by decide), hup_o (by decide), hup_o (by decide), hup_o (by decide), hup_o (by decide), hup_o (by decide), Int.sub_zero, Int.zero_add]
theorem imH_3 {h : Hp} {j : Int} (j0 : 0 ≤ j) (j1 : j < 6) : imH h 28 j = h 5 j := by
  unfold imH
  rw [hcp_o (by decide), hup_o (by decide), hup_o (by decide), hcp_o (by decide), hcp_o (by decide), hcp_o (by decide), hup_o (by decide), hcp_o (by decide), hcp_o (by decide), hcp_o (by decide), hup_o (by decide), hcp_o (by decide), hcp_o (by decide), hcp_o (by decide), hup_o (by decide), hcp_o (by decide), hcp_o (by decide), hcp_o (by decide), hcp_o (by decide), hcp_o (by decide), hcp_in (by omega), hcp_o (by decide), hcp_o (by decide), hup_o (by decide), hup_o (by decide), hup_o (by decide), hup_o (by decide), hup_o (by decide), hup_o (by decide), hup_o (by decide), Int.sub_zero, Int.zero_add]
theorem imH_4 {h : Hp} {j : Int} (j0 : 0 ≤ j) (j1 : j < 24) : imH h 29 j = h 6 j := by
  unfold imH
  rw [hcp_o (by decide), hup_o (by decide), hup_o (by decide), hcp_o (by decide), hcp_o (by decide), hcp_o (by decide), hup_o (by decide), hcp_o (by decide), hcp_o (by decide), hcp_o (by decide), hup_o (by decide), hcp_o (by decide), hcp_o (by decide), hcp_o (by decide), hup_o (by decide), hcp_o (by decide), hcp_o (by decide), hcp_o (by decide), hcp_o (by decide), hcp_in (by omega), hcp_o (by decide), hcp_o (by decide), hcp_o (by decide), hup_o (by decide), hup_o (by decide), hup_o (by decide), hup_o (by decide), hup_o (by decide), hup_o (by decide), hup_o (by decide), Int.sub_zero, Int.zero_add]
theorem imH_5 {h : Hp} {j : Int} (j0 : 0 ≤ j) (j1 : j < 3) : imH h 30 j = h 7 j := by
  unfold imH
  rw [hcp_o (by decide), hup_o (by decide), hup_o (by decide), hcp_o (by decide), hcp_o (by decide), hcp_o (by decide), hup_o (by decide), hcp_o (by decide), hcp_o (by decide), hcp_o (by decide), hup_o (by decide), hcp_o (by decide), hcp_o (by decide), hcp_o (by decide), hup_o (by decide), hcp_o (by decide), hcp_o (by decide), hcp_o (by decide), hcp_in (by omega), hcp_o (by decide), hcp_o (by decide), hcp_o (by decide), hcp_o (by decide), hup_o (by decide), hup_o (by decide), hup_o (by decide), hup_o (by decide), hup_o (by decide), hup_o (by decide), hup_o (by decide), Int.sub_zero, Int.zero_add]
theorem imH_6 {h : Hp} {j : Int} (j0 : 0 ≤ j) (j1 : j < 3) : imH h 31 j = h 8 j := by
  unfold imH
  rw [hcp_o (by decide), hup_o (by decide), hup_o (by decide), hcp_o (by decide), hcp_o (by decide), hcp_o (by decide), hup_o (by decide), hcp_o (by decide), hcp_o (by decide), hcp_o (by decide), hup_o (by decide), hcp_o (by decide), hcp_o (by decide), hcp_o (by decide), hup_o (by decide), hcp_o (by decide), hcp_o (by decide), hcp_in (by omega), hcp_o (by decide), hcp_o (by decide), hcp_o (by decide), hcp_o (by decide), hcp_o (by decide), hup_o (by decide), hup_o (by decide), hup_o (by decide), hup_o (by decide), hup_o (by decide), hup_o (by decide), hup_o (by decide), Int.sub_zero, Int.zero_add]
theorem imH_7 {h : Hp} {j : Int} (j0 : 0 ≤ j) (j1 : j < 36) : imH h 32 j = h 9 j := by
  unfold imH
  rw [hcp_o (by decide), hup_o (by decide), hup_o (by decide), hcp_o (by decide), hcp_o (by decide), hcp_o (by decide), hup_o (by decide), hcp_o (by decide), hcp_o (by decide), hcp_o (by decide), hup_o (by decide), hcp_o (by decide), hcp_o (by decide), hcp_o (by decide), hup_o (by decide), hcp_o (by decide), hcp_in (by omega), hcp_o (by decide), hcp_o (by decide), hcp_o (by decide), hcp_o (by decide), hcp_o (by decide), hcp_o (by decide), hup_o (by decide), hup_o (by decide), hup_o (by decide), hup_o (by decide), hup_o (by decide), hup_o (by decide), hup_o (by decide), Int.sub_zero, Int.zero_add]
theorem imH_8 {h : Hp} {j : Int} (j0 : 0 ≤ j) (j1 : j < 30) : imH h 33 j = h 10 j := by
  unfold imH
  rw [hcp_o (by decide), hup_o (by decide), hup_o (by decide), hcp_o (by decide), hcp_o (by decide), hcp_o (by decide), hup_o (by decide), hcp_o (by decide), hcp_o (by decide), hcp_o (by decide), hup_o (by decide), hcp_o (by decide), hcp_o (by decide), hcp_o (by decide), hup_o (by decide), hcp_in (by omega), hcp_o (by decide), hcp_o (by decide), hcp_o (by decide), hcp_o (by decide), hcp_o (by decide), hcp_o (by decide), hcp_o (by decide), hup_o (by decide), hup_o (by decide), hup_o (by decide), hup_o (by decide), hup_o (by decide), hup_o (by decide), hup_o (by decide), Int.sub_zero, Int.zero_add]
theorem imH_10 {h : Hp} {j : Int} (j0 : 0 ≤ j) (j1 : j < 8) : imH h 35 j = h 12 j := by
  unfold imH
  rw [hcp_o (by decide), hup_o (by decide), hup_o (by decide), hcp_o (by decide), hcp_o (by decide), hcp_o (by decide), hup_o (by decide), hcp_o (by decide), hcp_o (by decide), hcp_o (by decide), hup_o (by decide), hcp_o (by decide), hcp_o (by decide), hcp_in (by omega), hup_o (by decide), hcp_o (by decide), hcp_o (by decide), hcp_o (by decide), hcp_o (by decide), hcp_o (by decide), hcp_o (by decide), hcp_o (by decide), hcp_o (by decide), hup_o (by decide), hup_o (by decide), hup_o (by decide), hup_o (by decide), hup_o (by decide), hup_o (by decide), hup_o (by decide), Int.sub_zero, Int.zero_add]
theorem imH_11 {h : Hp} {j : Int} (j0 : 0 ≤ j) (j1 : j < 8) : imH h 36 j = h 13 j := by
  unfold imH
  rw [hcp_o (by decide), hup_o (by decide), hup_o (by decide), hcp_o (by decide), hcp_o (by decide), hcp_o (by decide), hup_o (by decide), hcp_o (by decide), hcp_o (by decide), hcp_o (by decide), hup_o (by decide), hcp_o (by decide), hcp_in (by omega), hcp_o (by decide), hup_o (by decide), hcp_o (by decide), hcp_o (by decide), hcp_o (by decide), hcp_o (by decide), hcp_o (by decide), hcp_o (by decide), hcp_o (by decide), hcp_o (by decide), hup_o (by decide), hup_o (by decide), hup_o (by decide), hup_o (by decide), hup_o (by decide), hup_o (by decide), hup_o (by decide), Int.sub_zero, Int.zero_add]
theorem imH_12 {h : Hp} {j : Int} (j0 : 0 ≤ j) (j1 : j < 8) : imH h 37 j = h 14 j := by
  unfold imH
  rw [hcp_o (by decide), hup_o (by decide), hup_o (by decide), hcp_o (by decide), hcp_o (by decide), hcp_o (by decide), hup_o (by decide), hcp_o (by decide), hcp_o (by decide), hcp_o (by decide), hup_o (by decide), hcp_in (by omega), hcp_o (by decide), hcp_o (by decide), hup_o (by decide), hcp_o (by decide), hcp_o (by decide), hcp_o (by decide), hcp_o (by decide), hcp_o (by decide), hcp_o (by decide), hcp_o (by decide), hcp_o (by decide), hup_o (by decide), hup_o (by decide), hup_o (by decide), hup_o (by decide), hup_o (by decide), hup_o (by decide), hup_o (by decide), Int.sub_zero, Int.zero_add]
theorem imH_14 {h : Hp} {j : Int} (j0 : 0 ≤ j) (j1 : j < 8) : imH h 39 j = h 16 j := by
  unfold imH
  rw [hcp_o (by decide), hup_o (by decide), hup_o (by decide), hcp_o (by decide), hcp_o (by decide), hcp_o (by decide), hup_o (by decide), hcp_o (by decide), hcp_o (by decide), hcp_in (by omega), hup_o (by decide), hcp_o (by decide), hcp_o (by decide), hcp_o (by decide), hup_o (by decide), hcp_o (by decide), hcp_o (by decide), hcp_o (by decide), hcp_o (by decide), hcp_o (by decide), hcp_o (by decide), hcp_o (by decide), hcp_o (by decide), hup_o (by decide), hup_o (by decide), hup_o (by decide), hup_o (by decide), hup_o (by decide), hup_o (by decide), hup_o (by decide), Int.sub_zero, Int.zero_add]
theorem imH_15 {h : Hp} {j : Int} (j0 : 0 ≤ j) (j1 : j < 8) : imH h 40 j = h 17 j := by
  unfold imH
  rw [hcp_o (by decide), hup_o (by decide), hup_o (by decide), hcp_o (by decide), hcp_o (by decide), hcp_o (by decide), hup_o (by decide), hcp_o (by decide), hcp_in (by omega), hcp_o (by decide), hup_o (by decide), hcp_o (by decide), hcp_o (by decide), hcp_o (by decide), hup_o (by decide), hcp_o (by decide), hcp_o (by decide), hcp_o (by decide), hcp_o (by decide), hcp_o (by decide), hcp_o (by decide), hcp_o (by decide), hcp_o (by decide), hup_o (by decide), hup_o (by decide), hup_o (by decide), hup_o (by decide), hup_o (by decide), hup_o (by decide), hup_o (by decide), Int.sub_zero, Int.zero_add]
theorem imH_16 {h : Hp} {j : Int} (j0 : 0 ≤ j) (j1 : j < 8) : imH h 41 j = h 18 j := by
  unfold imH
  rw [hcp_o (by decide), hup_o (by decide), hup_o (by decide), hcp_o (by decide), hcp_o (by decide), hcp_o (by decide), hup_o (by decide), hcp_in (by omega), hcp_o (by decide), hcp_o (by decide), hup_o (by decide), hcp_o (by decide), hcp_o (by decide), hcp_o (by decide), hup_o (by decide), hcp_o (by decide), hcp_o (by decide), hcp_o (by decide), hcp_o (by decide), hcp_o (by decide), hcp_o (by decide), hcp_o (by decide), hcp_o (by decide), hup_o (by decide), hup_o (by decide), hup_o (by decide), hup_o (by decide), hup_o (by decide), hup_o (by decide), hup_o (by decide), Int.sub_zero, Int.zero_add]
theorem imH_18 {h : Hp} {j : Int} (j0 : 0 ≤ j) (j1 : j < 8) : imH h 43 j = h 20 j := by
  unfold imH
  rw [hcp_o (by decide), hup_o (by decide), hup_o (by decide), hcp_o (by decide), hcp_o (by decide), hcp_in (by omega), hup_o (by decide), hcp_o (by decide), hcp_o (by decide), hcp_o (by decide), hup_o (by decide), hcp_o (by decide), hcp_o (by decide), hcp_o (by decide), hup_o (by decide), hcp_o (by decide), hcp_o (by decide), hcp_o (by decide), hcp_o (by decide), hcp_o (by decide), hcp_o (by decide), hcp_o (by decide), hcp_o (by decide), hup_o (by decide), hup_o (by decide), hup_o (by decide), hup_o (by decide), hup_o (by decide), hup_o (by decide), hup_o (by decide), Int.sub_zero, Int.zero_add]
theorem imH_19 {h : Hp} {j : Int} (j0 : 0 ≤ j) (j1 : j < 8) : imH h 44 j = h 21 j := by
  unfold imH
  rw [hcp_o (by decide), hup_o (by decide), hup_o (by decide), hcp_o (by decide), hcp_in (by omega), hcp_o (by decide), hup_o (by decide), hcp_o (by decide), hcp_o (by decide), hcp_o (by decide), hup_o (by decide), hcp_o (by decide), hcp_o (by decide), hcp_o (by decide), hup_o (by decide), hcp_o (by decide), hcp_o (by decide), hcp_o (by decide), hcp_o (by decide), hcp_o (by decide), hcp_o (by decide), hcp_o (by decide), hcp_o (by decide), hup_o (by decide), hup_o (by decide), hup_o (by decide), hup_o (by decide), hup_o (by decide), hup_o (by decide), hup_o (by decide), Int.sub_zero, Int.zero_add]
theorem imH_20 {h : Hp} {j : Int} (j0 : 0 ≤ j) (j1 : j < 8) : imH h 45 j = h 22 j := by
  unfold imH
  rw [hcp_o (by decide), hup_o (by decide), hup_o (by decide), hcp_in (by omega), hcp_o (by decide), hcp_o (by decide), hup_o (by decide), hcp_o (by decide), hcp_o (by decide), hcp_o (by decide), hup_o (by decide), hcp_o (by decide), hcp_o (by decide), hcp_o (by decide), hup_o (by decide), hcp_o (by decide), hcp_o (by decide), hcp_o (by decide), hcp_o (by decide), hcp_o (by decide), hcp_o (by decide), hcp_o (by decide), hcp_o (by decide), hup_o (by decide), hup_o (by decide), hup_o (by decide), hup_o (by decide), hup_o (by decide), hup_o (by decide), hup_o (by decide), Int.sub_zero, Int.zero_add]
theorem imH_22 {h : Hp} {j : Int} (j0 : 0 ≤ j) (j1 : j < 2130) : imH h 47 j = h 24 j := by
  unfold imH
  rw [hcp_in (by omega), hup_o (by decide), hup_o (by decide), hcp_o (by decide), hcp_o (by decide), hcp_o (by decide), hup_o (by decide), hcp_o (by decide), hcp_o (by decide), hcp_o (by decide), hup_o (by decide), hcp_o (by decide), hcp_o (by decide), hcp_o (by decide), hup_o (by decide), hcp_o (by decide), hcp_o (by decide), hcp_o (by decide), hcp_o (by decide), hcp_o (by decide), hcp_o (by decide), hcp_o (by decide), hcp_o (by decide), hup_o (by decide), hup_o (by decide), hup_o (by decide), hup_o (by decide), hup_o (by decide), hup_o (by decide), hup_o (by decide), Int.sub_zero, Int.zero_add]
theorem imH_00 {h : Hp} : imH h 25 0 = h 2 0 := by
  unfold imH
  rw [hcp_o (by decide), hup_o (by decide), hup_o (by decide), hcp_o (by decide), hcp_o (by decide), hcp_o (by decide), hup_o (by decide), hcp_o (by decide), hcp_o (by decide), hcp_o (by decide), hup_o (by decide), hcp_o (by decide), hcp_o (by decide), hcp_o (by decide), hup_o (by decide), hcp_o (by decide), hcp_o (by decide), hcp_o (by decide), hcp_o (by decide), hcp_o (by decide), hcp_o (by decide), hcp_o (by decide), hcp_o (by decide), hup_nj (by decide), hup_nj (by decide), hup_nj (by decide), hup_nj (by decide), hup_nj (by decide), hup_nj (by decide), hup_eq]
theorem imH_01 {h : Hp} : imH h 25 1 = h 2 1 := by
  unfold imH
  rw [hcp_o (by decide), hup_o (by decide), hup_o (by decide), hcp_o (by decide), hcp_o (by decide), hcp_o (by decide), hup_o (by decide), hcp_o (by decide), hcp_o (by decide), hcp_o (by decide), hup_o (by decide), hcp_o (by decide), hcp_o (by decide), hcp_o (by decide), hup_o (by decide), hcp_o (by decide), hcp_o (by decide), hcp_o (by decide), hcp_o (by decide), hcp_o (by decide), hcp_o (by decide), hcp_o (by decide), hcp_o (by decide), hup_nj (by decide), hup_nj (by decide), hup_nj (by decide), hup_nj (by decide), hup_nj (by decide), hup_eq]
theorem imH_02 {h : Hp} : imH h 25 2 = h 2 2 := by
  unfold imH
  rw [hcp_o (by decide), hup_o (by decide), hup_o (by decide), hcp_o (by decide), hcp_o (by decide), hcp_o (by decide), hup_o (by decide), hcp_o (by decide), hcp_o (by decide), hcp_o (by decide), hup_o (by decide), hcp_o (by decide), hcp_o (by decide), hcp_o (by decide), hup_o (by decide), hcp_o (by decide), hcp_o (by decide), hcp_o (by decide), hcp_o (by decide), hcp_o (by decide), hcp_o (by decide), hcp_o (by decide), hcp_o (by decide), hup_nj (by decide), hup_nj (by decide), hup_nj (by decide), hup_nj (by decide), hup_eq]
theorem imH_03 {h : Hp} : imH h 25 3 = h 2 3 := by
  unfold imH
  rw [hcp_o (by decide), hup_o (by decide), hup_o (by decide), hcp_o (by decide), hcp_o (by decide), hcp_o (by decide), hup_o (by decide), hcp_o (by decide), hcp_o (by decide), hcp_o (by decide), hup_o (by decide), hcp_o (by decide), hcp_o (by decide), hcp_o (by decide), hup_o (by decide), hcp_o (by decide), hcp_o (by decide), hcp_o (by decide), hcp_o (by decide), hcp_o (by decide), hcp_o (by decide), hcp_o (by decide), hcp_o (by decide), hup_nj (by decide), hup_nj (by decide), hup_nj (by decide), hup_eq]
theorem imH_04 {h : Hp} : imH h 25 4 = h 2 4 := by
  unfold imH
  rw [hcp_o (by decide), hup_o (by decide), hup_o (by decide), hcp_o (by decide), hcp_o (by decide), hcp_o (by decide), hup_o (by decide), hcp_o (by decide), hcp_o (by decide), hcp_o (by decide), hup_o (by decide), hcp_o (by decide), hcp_o (by decide), hcp_o (by decide), hup_o (by decide), hcp_o (by decide), hcp_o (by decide), hcp_o (by decide), hcp_o (by decide), hcp_o (by decide), hcp_o (by decide), hcp_o (by decide), hcp_o (by decide), hup_nj (by decide), hup_nj (by decide), hup_eq]
theorem imH_05 {h : Hp} : imH h 25 5 = h 2 5 := by
  unfold imH
  rw [hcp_o (by decide), hup_o (by decide), hup_o (by decide), hcp_o (by decide), hcp_o (by decide), hcp_o (by decide), hup_o (by decide), hcp_o (by decide), hcp_o (by decide), hcp_o (by decide), hup_o (by decide), hcp_o (by decide), hcp_o (by decide), hcp_o (by decide), hup_o (by decide), hcp_o (by decide), hcp_o (by decide), hcp_o (by decide), hcp_o (by decide), hcp_o (by decide), hcp_o (by decide), hcp_o (by decide), hcp_o (by decide), hup_nj (by decide), hup_eq]
theorem imH_06 {h : Hp} : imH h 25 6 = h 2 6 := by
  unfold imH
  rw [hcp_o (by decide), hup_o (by decide), hup_o (by decide), hcp_o (by decide), hcp_o (by decide), hcp_o (by decide), hup_o (by decide), hcp_o (by decide), hcp_o (by decide), hcp_o (by decide), hup_o (by decide), hcp_o (by decide), hcp_o (by decide), hcp_o (by decide), hup_o (by decide), hcp_o (by decide), hcp_o (by decide), hcp_o (by decide), hcp_o (by decide), hcp_o (by decide), hcp_o (by decide), hcp_o (by decide), hcp_o (by decide), hup_eq]
theorem imH_9 {h : Hp} : imH h 34 3 = h 11 3 := by
  unfold imH
  rw [hcp_o (by decide), hup_o (by decide), hup_o (by decide), hcp_o (by decide), hcp_o (by decide), hcp_o (by decide), hup_o (by decide), hcp_o (by decide), hcp_o (by decide), hcp_o (by decide), hup_o (by decide), hcp_o (by decide), hcp_o (by decide), hcp_o (by decide), hup_eq]
theorem imH_13 {h : Hp} : imH h 38 3 = h 15 3 := by
  unfold imH
  rw [hcp_o (by decide), hup_o (by decide), hup_o (by decide), hcp_o (by decide), hcp_o (by decide), hcp_o (by decide), hup_o (by decide), hcp_o (by decide), hcp_o (by decide), hcp_o (by decide), hup_eq]
theorem imH_17 {h : Hp} : imH h 42 3 = h 19 3 := by
  unfold imH
  rw [hcp_o (by decide), hup_o (by decide), hup_o (by decide), hcp_o (by decide), hcp_o (by decide), hcp_o (by decide), hup_eq]
theorem imH_211 {h : Hp} : imH h 46 1 = h 23 1 := by
  unfold imH
  rw [hcp_o (by decide), hup_nj (by decide), hup_eq]
theorem imH_212 {h : Hp} : imH h 46 2 = h 23 2 := by
  unfold imH
  rw [hcp_o (by decide), hup_eq]
theorem c_im {d : Nat} {h : Hp} {Q : aPO} (k : Q none (imH h)) : Runs (d + 2) 20 0 [vA 25, vA 2] [] h Q := by
  refine Runs.go 200 [] ?_
  refine Runs.go 20 [] ?_
  refine ⟨by decide, ?_⟩
  refine Runs.go 20 [] ?_
  refine ⟨by decide, ?_⟩
  refine Runs.go 20 [] ?_
  refine ⟨by decide, ?_⟩
  refine Runs.go 20 [] ?_
  refine ⟨by decide, ?_⟩
  refine Runs.go 20 [] ?_
  refine ⟨by decide, ?_⟩
  refine Runs.go 20 [] ?_
  refine ⟨by decide, ?_⟩
  refine Runs.go 20 [] ?_
  refine ⟨by decide, ?_⟩
  refine Runs.go 20 [] ?_
  refine ⟨by decide, ?_⟩
  refine Runs.go 40 [] ?_
  refine Runs.go 20 [] ?_
  refine ⟨by decide, ?_⟩
  refine Runs.go 20 [] ?_
  refine ⟨by decide, ?_⟩
  refine Runs.go 20 [] ?_
  refine ⟨by decide, ?_⟩
  refine Runs.go 40 [] ?_
  refine Runs.go 20 [] ?_
  refine ⟨by decide, ?_⟩
  refine Runs.go 20 [] ?_
  refine ⟨by decide, ?_⟩
  refine Runs.go 20 [] ?_
  refine ⟨by decide, ?_⟩
  refine Runs.go 40 [] ?_
  refine Runs.go 20 [] ?_
  refine ⟨by decide, ?_⟩
  refine Runs.go 20 [] ?_
  refine ⟨by decide, ?_⟩
  refine Runs.go 20 [] ?_
  refine ⟨by decide, ?_⟩
  refine Runs.go 40 [] ?_
  refine Runs.go 20 [] ?_
  refine ⟨by decide, ?_⟩
  exact k
theorem CG.im {h : Hp} {a a1 : aA} {n : Int} (I : CG h 2 a n) (ea : ∀ j, 0 ≤ j → j < 3856 → a1 j = a j) : CG (imH h) 25 a1 n := by
  refine I.cp (fun j j0 j7 => ?_) (fun i i22 x0 x9 x13 x17 x21 j j0 j1 => ?_) imH_9 imH_13 imH_17 imH_211 imH_212 ea
  · have : j = 0 ∨ j = 1 ∨ j = 2 ∨ j = 3 ∨ j = 4 ∨ j = 5 ∨ j = 6 := by omega
    rcases this with z | z | z | z | z | z | z <;> subst z
    · exact imH_00
    · exact imH_01
    · exact imH_02
    · exact imH_03
    · exact imH_04
    · exact imH_05
    · exact imH_06
  · have : i = 1 ∨ i = 2 ∨ i = 3 ∨ i = 4 ∨ i = 5 ∨ i = 6 ∨ i = 7 ∨ i = 8 ∨ i = 10 ∨ i = 11 ∨ i = 12 ∨ i = 14 ∨ i = 15 ∨ i = 16 ∨ i = 18 ∨ i = 19 ∨ i = 20 ∨ i = 22 := by omega
    rcases this with z | z | z | z | z | z | z | z | z | z | z | z | z | z | z | z | z | z <;> subst z
    · exact imH_1 j0 j1
    · exact imH_2 j0 j1
    · exact imH_3 j0 j1
    · exact imH_4 j0 j1
    · exact imH_5 j0 j1
    · exact imH_6 j0 j1
    · exact imH_7 j0 j1
    · exact imH_8 j0 j1
    · exact imH_10 j0 j1
    · exact imH_11 j0 j1
    · exact imH_12 j0 j1
    · exact imH_14 j0 j1
    · exact imH_15 j0 j1
    · exact imH_16 j0 j1
    · exact imH_18 j0 j1
    · exact imH_19 j0 j1
    · exact imH_20 j0 j1
    · exact imH_22 j0 j1
def bkH (h : Hp) : Hp := hcp (hup (hup (hcp (hcp (hcp (hup (hcp (hcp (hcp (hup (hcp (hcp (hcp (hup (hcp (hcp (hcp (hcp (hcp (hcp (hcp (hcp (hup (hup (hup (hup (hup (hup (hup (h) 2 0 (h 25 0)) 2 1 (h 25 1)) 2 2 (h 25 2)) 2 3 (h 25 3)) 2 4 (h 25 4)) 2 5 (h 25 5)) 2 6 (h 25 6)) 26 0 3 0 6) 27 0 4 0 6) 28 0 5 0 6) 29 0 6 0 24) 30 0 7 0 3) 31 0 8 0 3) 32 0 9 0 36) 33 0 10 0 30) 11 3 (h 34 3)) 35 0 12 0 8) 36 0 13 0 8) 37 0 14 0 8) 15 3 (h 38 3)) 39 0 16 0 8) 40 0 17 0 8) 41 0 18 0 8) 19 3 (h 42 3)) 43 0 20 0 8) 44 0 21 0 8) 45 0 22 0 8) 23 1 (h 46 1)) 23 2 (h 46 2)) 47 0 24 0 2130
theorem bkH_o {h : Hp} {o : Nat} (ho : ¬ (2 ≤ o ∧ o ≤ 24)) : bkH h o = h o := by
  unfold bkH
  rw [hcp_o (by omega), hup_o (by omega), hup_o (by omega), hcp_o (by omega), hcp_o (by omega), hcp_o (by omega), hup_o (by omega), hcp_o (by omega), hcp_o (by omega), hcp_o (by omega), hup_o (by omega), hcp_o (by omega), hcp_o (by omega), hcp_o (by omega), hup_o (by omega), hcp_o (by omega), hcp_o (by omega), hcp_o (by omega), hcp_o (by omega), hcp_o (by omega), hcp_o (by omega), hcp_o (by omega), hcp_o (by omega), hup_o (by omega), hup_o (by omega), hup_o (by omega), hup_o (by omega), hup_o (by omega), hup_o (by omega), hup_o (by omega)]
theorem bkH_1 {h : Hp} {j : Int} (j0 : 0 ≤ j) (j1 : j < 6) : bkH h 3 j = h 26 j := by
  unfold bkH
  rw [hcp_o (by decide), hup_o (by decide), hup_o (by decide), hcp_o (by decide), hcp_o (by decide), hcp_o (by decide), hup_o (by decide), hcp_o (by decide), hcp_o (by decide), hcp_o (by decide), hup_o (by decide), hcp_o (by decide), hcp_o (by decide), hcp_o (by decide), hup_o (by decide), hcp_o (by decide), hcp_o (by decide), hcp_o (by decide), hcp_o (by decide), hcp_o (by decide), hcp_o (by decide), hcp_o (by decide), hcp_in (by omega), hup_o (by decide), hup_o (by decide), hup_o (by decide), hup_o (by decide), hup_o (by decide), hup_o (by decide), hup_o (by decide), Int.sub_zero, Int.zero_add]
theorem bkH_2 {h : Hp} {j : Int} (j0 : 0 ≤ j) (j1 : j < 6) : bkH h 4 j = h 27 j := by
  unfold bkH
  rw [hcp_o (by decide), hup_o (by decide), hup_o (by decide), hcp_o (by decide), hcp_o (by decide), hcp_o (by decide), hup_o (by decide), hcp_o (by decide), hcp_o (by decide), hcp_o (by decide), hup_o (by decide), hcp_o (by decide), hcp_o (by decide), hcp_o (by decide), hup_o (by decide), hcp_o (by decide), hcp_o (by decide), hcp_o (by decide), hcp_o (by decide), hcp_o (by decide), hcp_o (by decide), hcp_in (by omega), hcp_o (by decide), hup_o (by decide), hup_o (by decide), hup_o (by decide), hup_o (by decide), hup_o (by decide), hup_o (by decide), hup_o (by decide), Int.sub_zero, Int.zero_add]
theorem bkH_3 {h : Hp} {j : Int} (j0 : 0 ≤ j) (j1 : j < 6) : bkH h 5 j = h 28 j := by
  unfold bkH
  rw [hcp_o (by decide), hup_o (by decide), hup_o (by decide), hcp_o (by decide), hcp_o (by decide), hcp_o (by decide), hup_o (by decide), hcp_o (by decide), hcp_o (by decide), hcp_o (by decide), hup_o (by decide), hcp_o (by decide), hcp_o (by decide), hcp_o (by decide), hup_o (by decide), hcp_o (by decide), hcp_o (by decide), hcp_o (by decide), hcp_o (by decide), hcp_o (by decide), hcp_in (by omega), hcp_o (by decide), hcp_o (by decide), hup_o (by decide), hup_o (by decide), hup_o (by decide), hup_o (by decide), hup_o (by decide), hup_o (by decide), hup_o (by decide), Int.sub_zero, Int.zero_add]
theorem bkH_4 {h : Hp} {j : Int} (j0 : 0 ≤ j) (j1 : j < 24) : bkH h 6 j = h 29 j := by
  unfold bkH
  rw [hcp_o (by decide), hup_o (by decide), hup_o (by decide), hcp_o (by decide), hcp_o (by decide), hcp_o (by decide), hup_o (by decide), hcp_o (by decide), hcp_o (by decide), hcp_o (by decide), hup_o (by decide), hcp_o (by decide), hcp_o (by decide), hcp_o (by decide), hup_o (by decide), hcp_o (by decide), hcp_o (by decide), hcp_o (by decide), hcp_o (by decide), hcp_in (by omega), hcp_o (by decide), hcp_o (by decide), hcp_o (by decide), hup_o (by decide), hup_o (by decide), hup_o (by decide), hup_o (by decide), hup_o (by decide), hup_o (by decide), hup_o (by decide), Int.sub_zero, Int.zero_add]
theorem bkH_5 {h : Hp} {j : Int} (j0 : 0 ≤ j) (j1 : j < 3) : bkH h 7 j = h 30 j := by
  unfold bkH
  rw [hcp_o (by decide), hup_o (by decide), hup_o (by decide), hcp_o (by decide), hcp_o (by decide), hcp_o (by decide), hup_o (by decide), hcp_o (by decide), hcp_o (by decide), hcp_o (by decide), hup_o (by decide), hcp_o (by decide), hcp_o (by decide), hcp_o (by decide), hup_o (by decide), hcp_o (by decide), hcp_o (by decide), hcp_o (by decide), hcp_in (by omega), hcp_o (by decide), hcp_o (by decide), hcp_o (by decide), hcp_o (by decide), hup_o (by decide), hup_o (by decide), hup_o (by decide), hup_o (by decide), hup_o (by decide), hup_o (by decide), hup_o (by decide), Int.sub_zero, Int.zero_add]
theorem bkH_6 {h : Hp} {j : Int} (j0 : 0 ≤ j) (j1 : j < 3) : bkH h 8 j = h 31 j := by
  unfold bkH
  rw [hcp_o (by decide), hup_o (by decide), hup_o (by decide), hcp_o (by decide), hcp_o (by decide), hcp_o (by decide), hup_o (by decide), hcp_o (by decide), hcp_o (by decide), hcp_o (by decide), hup_o (by decide), hcp_o (by decide), hcp_o (by decide), hcp_o (by decide), hup_o (by decide), hcp_o (by decide), hcp_o (by decide), hcp_in (by omega), hcp_o (by decide), hcp_o (by decide), hcp_o (by decide), hcp_o (by decide), hcp_o (by decide), hup_o (by decide), hup_o (by decide), hup_o (by decide), hup_o (by decide), hup_o (by decide), hup_o (by decide), hup_o (by decide), Int.sub_zero, Int.zero_add]
theorem bkH_7 {h : Hp} {j : Int} (j0 : 0 ≤ j) (j1 : j < 36) : bkH h 9 j = h 32 j := by
  unfold bkH
  rw [hcp_o (by decide), hup_o (by decide), hup_o (by decide), hcp_o (by decide), hcp_o (by decide), hcp_o (by decide), hup_o (by decide), hcp_o (by decide), hcp_o (by decide), hcp_o (by decide), hup_o (by decide), hcp_o (by decide), hcp_o (by decide), hcp_o (by decide), hup_o (by decide), hcp_o (by decide), hcp_in (by omega), hcp_o (by decide), hcp_o (by decide), hcp_o (by decide), hcp_o (by decide), hcp_o (by decide), hcp_o (by decide), hup_o (by decide), hup_o (by decide), hup_o (by decide), hup_o (by decide), hup_o (by decide), hup_o (by decide), hup_o (by decide), Int.sub_zero, Int.zero_add]
theorem bkH_8 {h : Hp} {j : Int} (j0 : 0 ≤ j) (j1 : j < 30) : bkH h 10 j = h 33 j := by
  unfold bkH
  rw [hcp_o (by decide), hup_o (by decide), hup_o (by decide), hcp_o (by decide), hcp_o (by decide), hcp_o (by decide), hup_o (by decide), hcp_o (by decide), hcp_o (by decide), hcp_o (by decide), hup_o (by decide), hcp_o (by decide), hcp_o (by decide), hcp_o (by decide), hup_o (by decide), hcp_in (by omega), hcp_o (by decide), hcp_o (by decide), hcp_o (by decide), hcp_o (by decide), hcp_o (by decide), hcp_o (by decide), hcp_o (by decide), hup_o (by decide), hup_o (by decide), hup_o (by decide), hup_o (by decide), hup_o (by decide), hup_o (by decide), hup_o (by decide), Int.sub_zero, Int.zero_add]
theorem bkH_10 {h : Hp} {j : Int} (j0 : 0 ≤ j) (j1 : j < 8) : bkH h 12 j = h 35 j := by
  unfold bkH
  rw [hcp_o (by decide), hup_o (by decide), hup_o (by decide), hcp_o (by decide), hcp_o (by decide), hcp_o (by decide), hup_o (by decide), hcp_o (by decide), hcp_o (by decide), hcp_o (by decide), hup_o (by decide), hcp_o (by decide), hcp_o (by decide), hcp_in (by omega), hup_o (by decide), hcp_o (by decide), hcp_o (by decide), hcp_o (by decide), hcp_o (by decide), hcp_o (by decide), hcp_o (by decide), hcp_o (by decide), hcp_o (by decide), hup_o (by decide), hup_o (by decide), hup_o (by decide), hup_o (by decide), hup_o (by decide), hup_o (by decide), hup_o (by decide), Int.sub_zero, Int.zero_add]
theorem bkH_11 {h : Hp} {j : Int} (j0 : 0 ≤ j) (j1 : j < 8) : bkH h 13 j = h 36 j := by
  unfold bkH
  rw [hcp_o (by decide), hup_o (by decide), hup_o (by decide), hcp_o (by decide), hcp_o (by decide), hcp_o (by decide), hup_o (by decide), hcp_o (by decide), hcp_o (by decide), hcp_o (by decide), hup_o (by decide), hcp_o (by decide), hcp_in (by omega), hcp_o (by decide), hup_o (by decide), hcp_o (by decide), hcp_o (by decide), hcp_o (by decide), hcp_o (by decide), hcp_o (by decide), hcp_o (by decide), hcp_o (by decide), hcp_o (by decide), hup_o (by decide), hup_o (by decide), hup_o (by decide), hup_o (by decide), hup_o (by decide), hup_o (by decide), hup_o (by decide), Int.sub_zero, Int.zero_add]
theorem bkH_12 {h : Hp} {j : Int} (j0 : 0 ≤ j) (j1 : j < 8) : bkH h 14 j = h 37 j := by
  unfold bkH
  rw [hcp_o (by decide), hup_o (by decide), hup_o (by decide), hcp_o (by decide), hcp_o (by decide), hcp_o (by decide), hup_o (by decide), hcp_o (by decide), hcp_o (by decide), hcp_o (by decide), hup_o (by decide), hcp_in (by omega), hcp_o (by decide), hcp_o (by decide), hup_o (by decide), hcp_o (by decide), hcp_o (by decide), hcp_o (by decide), hcp_o (by decide), hcp_o (by decide), hcp_o (by decide), hcp_o (by decide), hcp_o (by decide), hup_o (by decide), hup_o (by decide), hup_o (by decide), hup_o (by decide), hup_o (by decide), hup_o (by decide), hup_o (by decide), Int.sub_zero, Int.zero_add]
theorem bkH_14 {h : Hp} {j : Int} (j0 : 0 ≤ j) (j1 : j < 8) : bkH h 16 j = h 39 j := by
  unfold bkH
  rw [hcp_o (by decide), hup_o (by decide), hup_o (by decide), hcp_o (by decide), hcp_o (by decide), hcp_o (by decide), hup_o (by decide), hcp_o (by decide), hcp_o (by decide), hcp_in (by omega), hup_o (by decide), hcp_o (by decide), hcp_o (by decide), hcp_o (by decide), hup_o (by decide), hcp_o (by decide), hcp_o (by decide), hcp_o (by decide), hcp_o (by decide), hcp_o (by decide), hcp_o (by decide), hcp_o (by decide), hcp_o (by decide), hup_o (by decide), hup_o (by decide), hup_o (by decide), hup_o (by decide), hup_o (by decide), hup_o (by decide), hup_o (by decide), Int.sub_zero, Int.zero_add]
theorem bkH_15 {h : Hp} {j : Int} (j0 : 0 ≤ j) (j1 : j < 8) : bkH h 17 j = h 40 j := by
  unfold bkH
  rw [hcp_o (by decide), hup_o (by decide), hup_o (by decide), hcp_o (by decide), hcp_o (by decide), hcp_o (by decide), hup_o (by decide), hcp_o (by decide), hcp_in (by omega), hcp_o (by decide), hup_o (by decide), hcp_o (by decide), hcp_o (by decide), hcp_o (by decide), hup_o (by decide), hcp_o (by decide), hcp_o (by decide), hcp_o (by decide), hcp_o (by decide), hcp_o (by decide), hcp_o (by decide), hcp_o (by decide), hcp_o (by decide), hup_o (by decide), hup_o (by decide), hup_o (by decide), hup_o (by decide), hup_o (by decide), hup_o (by decide), hup_o (by decide), Int.sub_zero, Int.zero_add]
theorem bkH_16 {h : Hp} {j : Int} (j0 : 0 ≤ j) (j1 : j < 8) : bkH h 18 j = h 41 j := by
  unfold bkH
  rw [hcp_o (by decide), hup_o (by decide), hup_o (by decide), hcp_o (by decide), hcp_o (by decide), hcp_o (by decide), hup_o (by decide), hcp_in (by omega), hcp_o (by decide), hcp_o (by decide), hup_o (by decide), hcp_o (by decide), hcp_o (by decide), hcp_o (by decide), hup_o (by decide), hcp_o (by decide), hcp_o (by decide), hcp_o (by decide), hcp_o (by decide), hcp_o (by decide), hcp_o (by decide), hcp_o (by decide), hcp_o (by decide), hup_o (by decide), hup_o (by decide), hup_o (by decide), hup_o (by decide), hup_o (by decide), hup_o (by decide), hup_o (by decide), Int.sub_zero, Int.zero_add]
theorem bkH_18 {h : Hp} {j : Int} (j0 : 0 ≤ j) (j1 : j < 8) : bkH h 20 j = h 43 j := by
  unfold bkH
  rw [hcp_o (by decide), hup_o (by decide), hup_o (by decide), hcp_o (by decide), hcp_o (by decide), hcp_in (by omega), hup_o (by decide), hcp_o (by decide), hcp_o (by decide), hcp_o (by decide), hup_o (by decide), hcp_o (by decide), hcp_o (by decide), hcp_o (by decide), hup_o (by decide), hcp_o (by decide), hcp_o (by decide), hcp_o (by decide), hcp_o (by decide), hcp_o (by decide), hcp_o (by decide), hcp_o (by decide), hcp_o (by decide), hup_o (by decide), hup_o (by decide), hup_o (by decide), hup_o (by decide), hup_o (by decide), hup_o (by decide), hup_o (by decide), Int.sub_zero, Int.zero_add]
theorem bkH_19 {h : Hp} {j : Int} (j0 : 0 ≤ j) (j1 : j < 8) : bkH h 21 j = h 44 j := by
  unfold bkH
  rw [hcp_o (by decide), hup_o (by decide), hup_o (by decide), hcp_o (by decide), hcp_in (by omega), hcp_o (by decide), hup_o (by decide), hcp_o (by decide), hcp_o (by decide), hcp_o (by decide), hup_o (by decide), hcp_o (by decide), hcp_o (by decide), hcp_o (by decide), hup_o (by decide), hcp_o (by decide), hcp_o (by decide), hcp_o (by decide), hcp_o (by decide), hcp_o (by decide), hcp_o (by decide), hcp_o (by decide), hcp_o (by decide), hup_o (by decide), hup_o (by decide), hup_o (by decide), hup_o (by decide), hup_o (by decide), hup_o (by decide), hup_o (by decide), Int.sub_zero, Int.zero_add]
theorem bkH_20 {h : Hp} {j : Int} (j0 : 0 ≤ j) (j1 : j < 8) : bkH h 22 j = h 45 j := by
  unfold bkH
  rw [hcp_o (by decide), hup_o (by decide), hup_o (by decide), hcp_in (by omega), hcp_o (by decide), hcp_o (by decide), hup_o (by decide), hcp_o (by decide), hcp_o (by decide), hcp_o (by decide), hup_o (by decide), hcp_o (by decide), hcp_o (by decide), hcp_o (by decide), hup_o (by decide), hcp_o (by decide), hcp_o (by decide), hcp_o (by decide), hcp_o (by decide), hcp_o (by decide), hcp_o (by decide), hcp_o (by decide), hcp_o (by decide), hup_o (by decide), hup_o (by decide), hup_o (by decide), hup_o (by decide), hup_o (by decide), hup_o (by decide), hup_o (by decide), Int.sub_zero, Int.zero_add]
theorem bkH_22 {h : Hp} {j : Int} (j0 : 0 ≤ j) (j1 : j < 2130) : bkH h 24 j = h 47 j := by
  unfold bkH
  rw [hcp_in (by omega), hup_o (by decide), hup_o (by decide), hcp_o (by decide), hcp_o (by decide), hcp_o (by decide), hup_o (by decide), hcp_o (by decide), hcp_o (by decide), hcp_o (by decide), hup_o (by decide), hcp_o (by decide), hcp_o (by decide), hcp_o (by decide), hup_o (by decide), hcp_o (by decide), hcp_o (by decide), hcp_o (by decide), hcp_o (by decide), hcp_o (by decide), hcp_o (by decide), hcp_o (by decide), hcp_o (by decide), hup_o (by decide), hup_o (by decide), hup_o (by decide), hup_o (by decide), hup_o (by decide), hup_o (by decide), hup_o (by decide), Int.sub_zero, Int.zero_add]
theorem bkH_00 {h : Hp} : bkH h 2 0 = h 25 0 := by
  unfold bkH
  rw [hcp_o (by decide), hup_o (by decide), hup_o (by decide), hcp_o (by decide), hcp_o (by decide), hcp_o (by decide), hup_o (by decide), hcp_o (by decide), hcp_o (by decide), hcp_o (by decide), hup_o (by decide), hcp_o (by decide), hcp_o (by decide), hcp_o (by decide), hup_o (by decide), hcp_o (by decide), hcp_o (by decide), hcp_o (by decide), hcp_o (by decide), hcp_o (by decide), hcp_o (by decide), hcp_o (by decide), hcp_o (by decide), hup_nj (by decide), hup_nj (by decide), hup_nj (by decide), hup_nj (by decide), hup_nj (by decide), hup_nj (by decide), hup_eq]
theorem bkH_01 {h : Hp} : bkH h 2 1 = h 25 1 := by
  unfold bkH
  rw [hcp_o (by decide), hup_o (by decide), hup_o (by decide), hcp_o (by decide), hcp_o (by decide), hcp_o (by decide), hup_o (by decide), hcp_o (by decide), hcp_o (by decide), hcp_o (by decide), hup_o (by decide), hcp_o (by decide), hcp_o (by decide), hcp_o (by decide), hup_o (by decide), hcp_o (by decide), hcp_o (by decide), hcp_o (by decide), hcp_o (by decide), hcp_o (by decide), hcp_o (by decide), hcp_o (by decide), hcp_o (by decide), hup_nj (by decide), hup_nj (by decide), hup_nj (by decide), hup_nj (by decide), hup_nj (by decide), hup_eq]
theorem bkH_02 {h : Hp} : bkH h 2 2 = h 25 2 := by
  unfold bkH
  rw [hcp_o (by decide), hup_o (by decide), hup_o (by decide), hcp_o (by decide), hcp_o (by decide), hcp_o (by decide), hup_o (by decide), hcp_o (by decide), hcp_o (by decide), hcp_o (by decide), hup_o (by decide), hcp_o (by decide), hcp_o (by decide), hcp_o (by decide), hup_o (by decide), hcp_o (by decide), hcp_o (by decide), hcp_o (by decide), hcp_o (by decide), hcp_o (by decide), hcp_o (by decide), hcp_o (by decide), hcp_o (by decide), hup_nj (by decide), hup_nj (by decide), hup_nj (by decide), hup_nj (by decide), hup_eq]
theorem bkH_03 {h : Hp} : bkH h 2 3 = h 25 3 := by
  unfold bkH
  rw [hcp_o (by decide), hup_o (by decide), hup_o (by decide), hcp_o (by decide), hcp_o (by decide), hcp_o (by decide), hup_o (by decide), hcp_o (by decide), hcp_o (by decide), hcp_o (by decide), hup_o (by decide), hcp_o (by decide), hcp_o (by decide), hcp_o (by decide), hup_o (by decide), hcp_o (by decide), hcp_o (by decide), hcp_o (by decide), hcp_o (by decide), hcp_o (by decide), hcp_o (by decide), hcp_o (by decide), hcp_o (by decide), hup_nj (by decide), hup_nj (by decide), hup_nj (by decide), hup_eq]
theorem bkH_04 {h : Hp} : bkH h 2 4 = h 25 4 := by
  unfold bkH
  rw [hcp_o (by decide), hup_o (by decide), hup_o (by decide), hcp_o (by decide), hcp_o (by decide), hcp_o (by decide), hup_o (by decide), hcp_o (by decide), hcp_o (by decide), hcp_o (by decide), hup_o (by decide), hcp_o (by decide), hcp_o (by decide), hcp_o (by decide), hup_o (by decide), hcp_o (by decide), hcp_o (by decide), hcp_o (by decide), hcp_o (by decide), hcp_o (by decide), hcp_o (by decide), hcp_o (by decide), hcp_o (by decide), hup_nj (by decide), hup_nj (by decide), hup_eq]
theorem bkH_05 {h : Hp} : bkH h 2 5 = h 25 5 := by
  unfold bkH
  rw [hcp_o (by decide), hup_o (by decide), hup_o (by decide), hcp_o (by decide), hcp_o (by decide), hcp_o (by decide), hup_o (by decide), hcp_o (by decide), hcp_o (by decide), hcp_o (by decide), hup_o (by decide), hcp_o (by decide), hcp_o (by decide), hcp_o (by decide), hup_o (by decide), hcp_o (by decide), hcp_o (by decide), hcp_o (by decide), hcp_o (by decide), hcp_o (by decide), hcp_o (by decide), hcp_o (by decide), hcp_o (by decide), hup_nj (by decide), hup_eq]
theorem bkH_06 {h : Hp} : bkH h 2 6 = h 25 6 := by
  unfold bkH
  rw [hcp_o (by decide), hup_o (by decide), hup_o (by decide), hcp_o (by decide), hcp_o (by decide), hcp_o (by decide), hup_o (by decide), hcp_o (by decide), hcp_o (by decide), hcp_o (by decide), hup_o (by decide), hcp_o (by decide), hcp_o (by decide), hcp_o (by decide), hup_o (by decide), hcp_o (by decide), hcp_o (by decide), hcp_o (by decide), hcp_o (by decide), hcp_o (by decide), hcp_o (by decide), hcp_o (by decide), hcp_o (by decide), hup_eq]
theorem bkH_9 {h : Hp} : bkH h 11 3 = h 34 3 := by
  unfold bkH
  rw [hcp_o (by decide), hup_o (by decide), hup_o (by decide), hcp_o (by decide), hcp_o (by decide), hcp_o (by decide), hup_o (by decide), hcp_o (by decide), hcp_o (by decide), hcp_o (by decide), hup_o (by decide), hcp_o (by decide), hcp_o (by decide), hcp_o (by decide), hup_eq]
theorem bkH_13 {h : Hp} : bkH h 15 3 = h 38 3 := by
  unfold bkH
  rw [hcp_o (by decide), hup_o (by decide), hup_o (by decide), hcp_o (by decide), hcp_o (by decide), hcp_o (by decide), hup_o (by decide), hcp_o (by decide), hcp_o (by decide), hcp_o (by decide), hup_eq]
theorem bkH_17 {h : Hp} : bkH h 19 3 = h 42 3 := by
  unfold bkH
  rw [hcp_o (by decide), hup_o (by decide), hup_o (by decide), hcp_o (by decide), hcp_o (by decide), hcp_o (by decide), hup_eq]
theorem bkH_211 {h : Hp} : bkH h 23 1 = h 46 1 := by
  unfold bkH
  rw [hcp_o (by decide), hup_nj (by decide), hup_eq]
theorem bkH_212 {h : Hp} : bkH h 23 2 = h 46 2 := by
  unfold bkH
  rw [hcp_o (by decide), hup_eq]
theorem c_bk {d : Nat} {h : Hp} {Q : aPO} (k : Q none (bkH h)) : Runs (d + 2) 20 0 [vA 2, vA 25] [] h Q := by
  refine Runs.go 200 [] ?_
  refine Runs.go 20 [] ?_
  refine ⟨by decide, ?_⟩
  refine Runs.go 20 [] ?_
  refine ⟨by decide, ?_⟩
  refine Runs.go 20 [] ?_
  refine ⟨by decide, ?_⟩
  refine Runs.go 20 [] ?_
  refine ⟨by decide, ?_⟩
  refine Runs.go 20 [] ?_
  refine ⟨by decide, ?_⟩
  refine Runs.go 20 [] ?_
  refine ⟨by decide, ?_⟩
  refine Runs.go 20 [] ?_
  refine ⟨by decide, ?_⟩
  refine Runs.go 20 [] ?_
  refine ⟨by decide, ?_⟩
  refine Runs.go 40 [] ?_
  refine Runs.go 20 [] ?_
  refine ⟨by decide, ?_⟩
  refine Runs.go 20 [] ?_
  refine ⟨by decide, ?_⟩
  refine Runs.go 20 [] ?_
  refine ⟨by decide, ?_⟩
  refine Runs.go 40 [] ?_
  refine Runs.go 20 [] ?_
  refine ⟨by decide, ?_⟩
  refine Runs.go 20 [] ?_
  refine ⟨by decide, ?_⟩
  refine Runs.go 20 [] ?_
  refine ⟨by decide, ?_⟩
  refine Runs.go 40 [] ?_
  refine Runs.go 20 [] ?_
  refine ⟨by decide, ?_⟩
  refine Runs.go 20 [] ?_
  refine ⟨by decide, ?_⟩
  refine Runs.go 20 [] ?_
  refine ⟨by decide, ?_⟩
  refine Runs.go 40 [] ?_
  refine Runs.go 20 [] ?_
  refine ⟨by decide, ?_⟩
  exact k
theorem CG.bk {h : Hp} {a a1 : aA} {n : Int} (I : CG h 25 a n) (ea : ∀ j, 0 ≤ j → j < 3856 → a1 j = a j) : CG (bkH h) 2 a1 n := by
  refine I.cp (fun j j0 j7 => ?_) (fun i i22 x0 x9 x13 x17 x21 j j0 j1 => ?_) bkH_9 bkH_13 bkH_17 bkH_211 bkH_212 ea
  · have : j = 0 ∨ j = 1 ∨ j = 2 ∨ j = 3 ∨ j = 4 ∨ j = 5 ∨ j = 6 := by omega
    rcases this with z | z | z | z | z | z | z <;> subst z
    · exact bkH_00
    · exact bkH_01
    · exact bkH_02
    · exact bkH_03
    · exact bkH_04
    · exact bkH_05
    · exact bkH_06
  · have : i = 1 ∨ i = 2 ∨ i = 3 ∨ i = 4 ∨ i = 5 ∨ i = 6 ∨ i = 7 ∨ i = 8 ∨ i = 10 ∨ i = 11 ∨ i = 12 ∨ i = 14 ∨ i = 15 ∨ i = 16 ∨ i = 18 ∨ i = 19 ∨ i = 20 ∨ i = 22 := by omega
    rcases this with z | z | z | z | z | z | z | z | z | z | z | z | z | z | z | z | z | z <;> subst z
    · exact bkH_1 j0 j1
    · exact bkH_2 j0 j1
    · exact bkH_3 j0 j1
    · exact bkH_4 j0 j1
    · exact bkH_5 j0 j1
    · exact bkH_6 j0 j1
    · exact bkH_7 j0 j1
    · exact bkH_8 j0 j1
    · exact bkH_10 j0 j1
    · exact bkH_11 j0 j1
    · exact bkH_12 j0 j1
    · exact bkH_14 j0 j1
    · exact bkH_15 j0 j1
    · exact bkH_16 j0 j1
    · exact bkH_18 j0 j1
    · exact bkH_19 j0 j1
    · exact bkH_20 j0 j1
    · exact bkH_22 j0 j1
theorem r_copy {d : Nat} {h : Hp} {Q : aPO} {o q : Nat} (ho : (o = 85 ∧ q = 86) ∨ (o = 86 ∧ q = 85)) (k : ∀ h1, (∀ j, 0 ≤ j → j < 3856 → h1 q j = h o j) → (∀ x, x ≠ q → h1 x = h x) → Q none h1) : Runs d 163 0 [vA o, vA q, none] [] h Q := by
  rcases ho with ⟨e1, e2⟩ | ⟨e1, e2⟩ <;> subst e1 e2
  all_goals
    refine Runs.go 20 [2] ?_
  · refine downI (R := fun i => ∀ g : Hp, (∀ j, 0 ≤ j → j < i → g 86 j = h 85 j) → (∀ x, x ≠ 86 → g x = h x) → Runs d 163 2 [vA 85, vA 86, vI i] [] g Q) (x := 0) (n := 3856) (by decide) ?_ (fun i i0 i3 r => ?_) h (fun j x y => by omega) (fun _ _ => rfl)
    · intro g e f
      refine Runs.go 20 [] ?_
      exact br.t (by omega) (k g e f)
    · intro g e f
      refine Runs.go 20 [2] ?_
      refine br.f (by omega) ⟨⟨i0, i3⟩, ⟨⟨i0, i3⟩, ⟨by omega, ?_⟩⟩⟩
      refine r _ (fun j x y => ?_) (fun x z => by rw [hup_o z]; exact f x z)
      by_cases ej : j = i
      · rw [ej, hup_eq, f 85 (by decide)]
      · rw [hup_nj ej]; exact e j x (by omega)
  · refine downI (R := fun i => ∀ g : Hp, (∀ j, 0 ≤ j → j < i → g 85 j = h 86 j) → (∀ x, x ≠ 85 → g x = h x) → Runs d 163 2 [vA 86, vA 85, vI i] [] g Q) (x := 0) (n := 3856) (by decide) ?_ (fun i i0 i3 r => ?_) h (fun j x y => by omega) (fun _ _ => rfl)
    · intro g e f
      refine Runs.go 20 [] ?_
      exact br.t (by omega) (k g e f)
    · intro g e f
      refine Runs.go 20 [2] ?_
      refine br.f (by omega) ⟨⟨i0, i3⟩, ⟨⟨i0, i3⟩, ⟨by omega, ?_⟩⟩⟩
      refine r _ (fun j x y => ?_) (fun x z => by rw [hup_o z]; exact f x z)
      by_cases ej : j = i
      · rw [ej, hup_eq, f 86 (by decide)]
      · rw [hup_nj ej]; exact e j x (by omega)
theorem o_image : op_image Inv := by
  intro x hx n hn h I ok
  obtain ⟨i1, i2, i3, i4, i5, L, iL⟩ := I
  refine Runs.go 20 [] ?_
  refine c_im ?_
  have e8 : imH h 2 2 = h 85 8 := by rw [imH_o (by decide)]; exact i1.num.2.2.1.1
  refine ⟨_, rfl, ?_⟩
  refine Runs.go 20 [] ?_
  refine r_copy (Or.inl ⟨rfl, rfl⟩) (fun h1 e f => ⟨by decide, ?_⟩)
  have f5 : h1 85 = h 85 := by rw [f 85 (by decide), imH_o (by decide)]
  have fo : ∀ o, ¬ (25 ≤ o ∧ o ≤ 47) → o ≠ 86 → h1 o = h o := fun o x y => by rw [f o y, imH_o x]
  refine ⟨?_, ?_⟩
  · show vI (h1 85 8) = vI (imH h 2 2)
    rw [f5, e8]
  · refine ⟨?_, ?_, i3.fr (fo _ (by decide) (by decide)) (fo _ (by decide) (by decide)) (fo _ (by decide) (by decide)) (fo _ (by decide) (by decide)), ?_, ?_, L, ?_⟩
    · rw [f5]; exact (i1.fr (fun o _ _ => fo o (by omega) (by omega))).le (by omega)
    · have J := i1.im (a1 := h1 86) (fun j x y => by rw [e j x y, imH_o (by decide)])
      exact (J.fr (fun o _ _ => f o (show o ≠ 86 by omega))).le (by omega)
    · rw [fo 1 (by decide) (by decide)]; exact i4
    · rw [f5, e 1 (by decide) (by decide), imH_o (by decide)]; exact Int.le_refl _
    · rw [f5]; exact iL.fr (fun o _ _ => fo o (by omega) (by omega)) (fo 87 (by decide) (by decide))
theorem o_back : op_back Inv := by
  intro x hx n hn h I ok
  obtain ⟨i1, i2, i3, i4, i5, L, iL⟩ := I
  refine Runs.go 20 [] ?_
  refine c_bk ?_
  have e8 : bkH h 2 2 = h 86 8 := by rw [bkH_02]; exact i2.num.2.2.1.1
  refine ⟨_, rfl, ?_⟩
  refine Runs.go 20 [] ?_
  refine r_copy (Or.inr ⟨rfl, rfl⟩) (fun h1 e f => ⟨by decide, ?_⟩)
  have f6 : h1 86 = h 86 := by rw [f 86 (by decide), bkH_o (by decide)]
  have fo : ∀ o, ¬ (2 ≤ o ∧ o ≤ 24) → o ≠ 85 → h1 o = h o := fun o x y => by rw [f o y, bkH_o x]
  have e' : ∀ j, 0 ≤ j → j < 3856 → h1 85 j = h 86 j := fun j x y => by rw [e j x y, bkH_o (by decide)]
  refine ⟨?_, ?_⟩
  · show vI (h1 85 8) = vI (bkH h 2 2)
    rw [e' 8 (by decide) (by decide), e8]
  · refine ⟨?_, ?_, i3.fr (fo _ (by decide) (by decide)) (fo _ (by decide) (by decide)) (fo _ (by decide) (by decide)) (fo _ (by decide) (by decide)), ?_, ?_, L, ?_⟩
    · have J := i2.bk (a1 := h1 85) (fun j x y => e' j x y)
      exact (J.fr (fun o _ _ => f o (show o ≠ 85 by omega))).le (by omega)
    · rw [f6]; exact (i2.fr (fun o _ _ => fo o (by omega) (by omega))).le (by omega)
    · rw [fo 1 (by decide) (by decide)]; exact i4
    · rw [f6, e' 1 (by decide) (by decide)]; exact Int.le_refl _
    · rw [e' 1 (by decide) (by decide)]
      have T : cTx h1 L (h 85 1) := iL.fr (fun o _ _ => fo o (by omega) (by omega)) (fo 87 (by decide) (by decide))
      exact fun t a b => T t a (by omega)
