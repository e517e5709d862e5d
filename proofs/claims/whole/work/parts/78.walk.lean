/-! CALLS: round, the class's walk -/
theorem seen_t : ∀ s : Fin 64, ∀ x y : Fin 6, (0 ≤ iOr s.val (iShl 1 x.val) ∧ iOr s.val (iShl 1 x.val) < 64) ∧ (bt (iOr s.val (iShl 1 x.val)) y.val ↔ bt s.val y.val ∨ x = y) ∧ (¬ bt s.val y.val → iAnd (iShr s.val y.val) 1 = 0) := by decide +kernel
theorem seen_r {s x y : Int} (hs : 0 ≤ s ∧ s < 64) (hx : 0 ≤ x ∧ x < 6) (hy : 0 ≤ y ∧ y < 6) : (0 ≤ iOr s (iShl 1 x) ∧ iOr s (iShl 1 x) < 64) ∧ (bt (iOr s (iShl 1 x)) y ↔ bt s y ∨ x = y) ∧ (¬ bt s y → iAnd (iShr s y) 1 = 0) := by
  have q := seen_t ⟨s.toNat, by omega⟩ ⟨x.toNat, by omega⟩ ⟨y.toNat, by omega⟩
  simp only [Int.toNat_of_nonneg hs.1, Int.toNat_of_nonneg hx.1, Int.toNat_of_nonneg hy.1, Fin.mk.injEq] at q
  refine ⟨q.1, ?_, q.2.2⟩
  rw [q.2.1]
  constructor
  · rintro (z | z)
    · exact Or.inl z
    · exact Or.inr (by omega)
  · rintro (z | z)
    · exact Or.inl z
    · exact Or.inr (by omega)
theorem c_copy6 {d : Nat} {h : Hp} {Q : aPO} (k : Q none (hcp h 77 0 78 0 6)) : Runs d 21 0 [vA 77, vA 78] [] h Q := by
  refine Runs.go 20 [] ?_
  exact ⟨by decide, k⟩
def bsA (n : Nat) (B : Int) (g : Int → Int) (S : Int × List Nat) : Prop := S.1 = B ∨ ∀ j, 0 ≤ j → j < (n : Int) → g j = fnL S.2 j
theorem c_walk {a : aA} (w : Wf a) {n : Nat} (hn : 2 ≤ n ∧ n ≤ 6) : ∀ (r : Nat) (d : Nat) (h : Hp) (Q : aPO) (pre : List Nat) (seen : Int) (S : Int × List Nat),
    (∀ i, 0 ≤ i → i < 36 → h 9 i = a (86 + i)) → pre.length + r = n → 1 ≤ pre.length → 0 ∈ pre → (∀ x ∈ pre, x < 6) → (∀ j : Int, 0 ≤ j → j < pre.length → h 77 j = fnL pre j) →
    (0 ≤ seen ∧ seen < 64) → (∀ y : Nat, y < 6 → (bt seen y ↔ y ∈ pre)) → h 76 2 = S.1 → bsA n 595 (h 78) S →
    (∀ h1 : Hp, (∀ o, o ≠ 76 → o ≠ 77 → o ≠ 78 → h1 o = h o) → (∀ j : Int, 0 ≤ j → j < pre.length → h1 77 j = h 77 j) → h1 76 2 = ((dfs n r pre).foldl (rst a n) S).1 → bsA n 595 (h1 78) ((dfs n r pre).foldl (rst a n) S) → Q none h1) →
    Runs (d + r + 1) 97 0 [vA 76, vA 9, vI n, vI pre.length, vI seen, vI (plL a (fnL pre) ((pre.length : Int) - 1)), none, none] [] h Q := by
  intro r
  induction r with
  | zero =>
    intro d h Q pre seen S hw hl h1 h0 hx hp hs hb e1 e2 k
    have fr : ∀ j, 0 ≤ j → j < (pre.length : Int) → 0 ≤ fnL pre j ∧ fnL pre j < 6 := by
      intro j j0 j1
      unfold fnL
      rw [List.getD_eq_getElem?_getD, List.getElem?_eq_getElem (show j.toNat < pre.length by omega), Option.getD_some]
      have := hx _ (List.getElem_mem (show j.toNat < pre.length by omega))
      omega
    have L := fr ((pre.length : Int) - 1) (by omega) (by omega)
    have PL := plL_r w (f := fnL pre) (n := (pre.length : Int) - 1) (fun j x y => fr j x (by omega)) ((pre.length : Int) - 1) (by omega) (by omega)
    have wy := w.way (k := fnL pre ((pre.length : Int) - 1) * 6) (by omega)
    have c1 := hp ((pre.length : Int) - 1) (by omega) (by omega)
    have c2 : h 9 (h 77 ((pre.length : Int) - 1) * 6) = a (86 + fnL pre ((pre.length : Int) - 1) * 6) := by rw [c1]; exact hw _ (by omega) (by omega)
    have T : totL a n (fnL pre) = plL a (fnL pre) ((pre.length : Int) - 1) + h 9 (h 77 ((pre.length : Int) - 1) * 6) := by
      rw [c2]
      unfold totL
      rw [show (n : Int) = (pre.length : Int) by omega]
    have b1 : (0 : Int) ≤ (pre.length : Int) - 1 ∧ (pre.length : Int) - 1 < (6 : Int) := by omega
    have b2 : 0 ≤ h 77 ((pre.length : Int) - 1) * 6 ∧ h 77 ((pre.length : Int) - 1) * 6 < (36 : Int) := by omega
    have b3 : -2147483648 ≤ h 77 ((pre.length : Int) - 1) * 6 ∧ h 77 ((pre.length : Int) - 1) * 6 < 2147483648 := by omega
    have b4 : -2147483648 ≤ plL a (fnL pre) ((pre.length : Int) - 1) + h 9 (h 77 ((pre.length : Int) - 1) * 6) ∧ plL a (fnL pre) ((pre.length : Int) - 1) + h 9 (h 77 ((pre.length : Int) - 1) * 6) < 2147483648 := by omega
    have ks : ∀ S', S' = rst a n S pre → (∀ h1 : Hp, (∀ o, o ≠ 76 → o ≠ 77 → o ≠ 78 → h1 o = h o) → (∀ j : Int, 0 ≤ j → j < pre.length → h1 77 j = h 77 j) → h1 76 2 = S'.1 → bsA n 595 (h1 78) S' → Q none h1) := by
      intro S' e
      subst e
      exact k
    refine Runs.go 60 [] ?_
    refine br.f (by omega) ?_
    refine br.t (by omega) ?_
    refine ⟨by omega, ⟨b1, ⟨b3, ?_⟩⟩⟩
    refine br.f (by omega) ?_
    refine ⟨b2, ⟨b4, ?_⟩⟩
    refine br.i (fun c => ?_) (fun c => ?_)
    · have c' : h 76 2 ≤ plL a (fnL pre) ((pre.length : Int) - 1) + h 9 (h 77 ((pre.length : Int) - 1) * 6) := c
      refine ks S ?_ h (fun o _ _ _ => rfl) (fun j _ _ => rfl) e1 e2
      unfold rst
      rw [if_neg (by omega)]
    · have c' : ¬ h 76 2 ≤ plL a (fnL pre) ((pre.length : Int) - 1) + h 9 (h 77 ((pre.length : Int) - 1) * 6) := c
      refine ⟨b2, ⟨b4, ?_⟩⟩
      refine c_copy6 ?_
      refine ks (totL a n (fnL pre), pre) ?_ _ (fun o o1 o2 o3 => ?_) (fun j j0 j1 => ?_) ?_ (Or.inr (fun j j0 j1 => ?_))
      · unfold rst
        rw [if_pos (by omega)]
      · rw [hcp_o o3, hup_o o1]
      · rw [hcp_o (by decide), hup_o (by decide)]
      · rw [hcp_o (by decide), hup_eq, T]
      · rw [hcp_in (by omega), hup_o (by decide), show 0 + (j - 0) = j by omega, hp j j0 (by omega)]
  | succ r ih =>
    intro d h Q pre seen S hw hl h1 h0 hx hp hs hb e1 e2 k
    have fr : ∀ j, 0 ≤ j → j < (pre.length : Int) → 0 ≤ fnL pre j ∧ fnL pre j < 6 := by
      intro j j0 j1
      unfold fnL
      rw [List.getD_eq_getElem?_getD, List.getElem?_eq_getElem (show j.toNat < pre.length by omega), Option.getD_some]
      have := hx _ (List.getElem_mem (show j.toNat < pre.length by omega))
      omega
    have L := fr ((pre.length : Int) - 1) (by omega) (by omega)
    have PL := plL_r w (f := fnL pre) (n := (pre.length : Int) - 1) (fun j x y => fr j x (by omega)) ((pre.length : Int) - 1) (by omega) (by omega)
    have c1 := hp ((pre.length : Int) - 1) (by omega) (by omega)
    have b1 : (0 : Int) ≤ (pre.length : Int) - 1 ∧ (pre.length : Int) - 1 < (6 : Int) := by omega
    have b3 : -2147483648 ≤ h 77 ((pre.length : Int) - 1) * 6 ∧ h 77 ((pre.length : Int) - 1) * 6 < 2147483648 := by omega
    have M : ∀ hh : Int, hh = h 77 ((pre.length : Int) - 1) * 6 → Runs (d + (r + 1) + 1) 97 69 [vA 76, vA 9, vI n, vI pre.length, vI seen, vI (plL a (fnL pre) ((pre.length : Int) - 1)), vI hh, vI 1] [] h Q := by
      intro hh eh
      have b2 : hh = fnL pre ((pre.length : Int) - 1) * 6 := by rw [eh, c1]
      refine downI (R := fun i => ∀ g : Hp, (∀ o, o ≠ 76 → o ≠ 77 → o ≠ 78 → g o = h o) → (∀ j : Int, 0 ≤ j → j < pre.length → g 77 j = h 77 j) → g 76 2 = ((dfsP n r pre i.toNat).foldl (rst a n) S).1 → bsA n 595 (g 78) ((dfsP n r pre i.toNat).foldl (rst a n) S) → Runs (d + (r + 1) + 1) 97 69 [vA 76, vA 9, vI n, vI pre.length, vI seen, vI (plL a (fnL pre) ((pre.length : Int) - 1)), vI hh, vI i] [] g Q) (x := 1) (n := (n : Int)) (by omega) ?_ (fun i i0 i3 rr => ?_) h (fun o _ _ _ => rfl) (fun j _ _ => rfl) ?_ ?_
      · intro g g1 g2 g3 g4
        refine Runs.go 10 [] ?_
        refine br.t (by omega) ?_
        rw [Int.toNat_natCast] at g3 g4
        exact k g g1 g2 g3 g4
      · intro g g1 g2 g3 g4
        have ei : ((i.toNat : Nat) : Int) = i := by omega
        have en : (i + 1).toNat = i.toNat + 1 := by omega
        have hbi := hb i.toNat (by omega)
        rw [ei] at hbi
        rw [en, dfsP_s] at rr
        have sr := seen_r (s := seen) (x := i) (y := i) hs (by omega) (by omega)
        refine Runs.go 60 [119] ?_
        refine br.f (by omega) ?_
        refine br.i (fun c => ?_) (fun c => ?_)
        · have cb : i.toNat ∈ pre := by
            by_cases z : i.toNat ∈ pre
            · exact z
            · exact absurd (sr.2.2 (fun y => z (hbi.mp y))) c
          rw [if_pos cb, List.append_nil] at rr
          refine Runs.go 10 [69] ?_
          exact ⟨by omega, rr g g1 g2 g3 g4⟩
        · have cb : ¬ i.toNat ∈ pre := fun z => by
            have q : iAnd (iShr seen i) 1 = 1 := hbi.mpr z
            have q2 : iAnd (iShr seen i) 1 = 0 := Decidable.not_not.mp c
            omega
          rw [if_neg cb, List.foldl_append] at rr
          have A := fnL_app (p := pre) (k := i.toNat)
          rw [ei] at A
          have la : (pre ++ [i.toNat]).length = pre.length + 1 := by simp
          have b9 : 0 ≤ hh + i ∧ hh + i < (36 : Int) := by omega
          have w9 : g 9 (hh + i) = a (86 + (hh + i)) := by rw [g1 9 (by decide) (by decide) (by decide)]; exact hw _ b9.1 b9.2
          have wy := w.way (k := hh + i) b9
          refine ⟨show 0 ≤ (pre.length : Int) ∧ (pre.length : Int) < (6 : Int) by omega, ?_⟩
          have P2 : plL a (fnL (pre ++ [i.toNat])) (((pre ++ [i.toNat]).length : Int) - 1) = plL a (fnL pre) ((pre.length : Int) - 1) + (hup g 77 (pre.length : Int) i) 9 (hh + i) := by
            rw [hup_o (by decide), w9, la, show (((pre.length + 1 : Nat) : Int) - 1) = ((pre.length : Int) - 1) + 1 by omega, plL_s (by omega), plL_c (n := (pre.length : Int) - 1) (g := fnL pre) (fun j x y => A.1 j x (by omega)) ((pre.length : Int) - 1) (by omega) (by omega), A.1 ((pre.length : Int) - 1) (by omega) (by omega), show (pre.length : Int) - 1 + 1 = (pre.length : Int) by omega, A.2, ← b2]
          have G : Runs (d + r + 1) 97 0 [vA 76, vA 9, vI n, vI ((pre.length : Int) + 1), vI (iOr seen (iShl 1 i)), vI (plL a (fnL pre) ((pre.length : Int) - 1) + (hup g 77 (pre.length : Int) i) 9 (hh + i)), none, none] [] (hup g 77 (pre.length : Int) i) (fun r2 h2 => Runs (d + (r + 1) + 1) 97 119 [vA 76, vA 9, vI n, vI pre.length, vI seen, vI (plL a (fnL pre) ((pre.length : Int) - 1)), vI hh, vI i] (pushR r2 []) h2 Q) := by
            rw [← P2, show (pre.length : Int) + 1 = ((pre ++ [i.toNat]).length : Int) by rw [la]; omega]
            refine ih d _ _ (pre ++ [i.toNat]) _ ((dfsP n r pre i.toNat).foldl (rst a n) S) (fun j j0 j1 => ?_) (by omega) (by omega) (List.mem_append_left _ h0) (fun x hx' => ?_) (fun j j0 j1 => ?_) sr.1 (fun y y6 => ?_) ?_ ?_ (fun g' q1 q2 q3 q4 => ?_)
            · rw [hup_o (by decide), g1 9 (by decide) (by decide) (by decide)]
              exact hw j j0 j1
            · rcases List.mem_append.mp hx' with z | z
              · exact hx x z
              · rw [List.mem_singleton.mp z]; omega
            · rw [la] at j1
              by_cases e : j = (pre.length : Int)
              · rw [e, hup_eq, A.2]
              · rw [hup_nj e, g2 j j0 (by omega), hp j j0 (by omega), A.1 j j0 (by omega)]
            · have s2 := (seen_r (s := seen) (x := i) (y := (y : Int)) hs (by omega) (by omega)).2.1
              rw [s2, hb y y6, List.mem_append, List.mem_singleton]
              constructor
              · rintro (z | z)
                · exact Or.inl z
                · exact Or.inr (by omega)
              · rintro (z | z)
                · exact Or.inl z
                · exact Or.inr (by omega)
            · rw [hup_o (by decide)]
              exact g3
            · rw [hup_o (by decide)]
              exact g4
            · refine Runs.go 10 [69] ?_
              refine ⟨by omega, rr g' (fun o o1 o2 o3 => ?_) (fun j j0 j1 => ?_) q3 q4⟩
              · rw [q1 o o1 o2 o3, hup_o o2]
                exact g1 o o1 o2 o3
              · rw [q2 j j0 (by rw [la]; omega), hup_nj (by omega)]
                exact g2 j j0 j1
          refine ⟨by omega, ⟨by omega, ⟨b9, ⟨?_, ?_⟩⟩⟩⟩
          · have : (hup g 77 (pre.length : Int) i) 9 (hh + i) = a (86 + (hh + i)) := by rw [hup_o (by decide)]; exact w9
            show -2147483648 ≤ plL a (fnL pre) ((pre.length : Int) - 1) + (hup g 77 (pre.length : Int) i) 9 (hh + i) ∧ plL a (fnL pre) ((pre.length : Int) - 1) + (hup g 77 (pre.length : Int) i) 9 (hh + i) < 2147483648
            omega
          · refine G.mono (fun r2 h2 q => ?_)
            exact q
      · show h 76 2 = ((dfsP n r pre 1).foldl (rst a n) S).1
        rw [dfsP_0 h0]
        exact e1
      · show bsA n 595 (h 78) ((dfsP n r pre 1).foldl (rst a n) S)
        rw [dfsP_0 h0]
        exact e2
    refine Runs.go 60 [69] ?_
    refine br.f (by omega) ?_
    refine br.t (by omega) ?_
    refine ⟨by omega, ⟨b1, ⟨b3, ?_⟩⟩⟩
    refine br.t (by omega) ?_
    exact M _ rfl
