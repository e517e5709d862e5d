/-! CALLS: shrunk -/
def ftB (a : aA) (s : Int) (i : Int) : Bool := fI (fun b j => b && decide (a (122 + 2 * j) / s = a (122 + 2 * j + 1))) true i
theorem ftB_s {a : aA} {s i : Int} (h : 0 ≤ i) : ftB a s (i + 1) = (ftB a s i && decide (a (122 + 2 * i) / s = a (122 + 2 * i + 1))) := fI_s (st := fun b j => b && decide (a (122 + 2 * j) / s = a (122 + 2 * j + 1))) h
theorem ftB_f {a : aA} {s i : Int} (h : 0 ≤ i) (hf : ftB a s i = false) : ∀ j, i ≤ j → ftB a s j = false := by
  have q : ∀ (k : Nat), ftB a s (i + k) = false := by
    intro k
    induction k with
    | zero => rw [show i + ((0 : Nat) : Int) = i by omega]; exact hf
    | succ k ih => rw [show i + ((k + 1 : Nat) : Int) = i + k + 1 by omega, ftB_s (by omega), ih]; rfl
  intro j ij
  have := q (j - i).toNat
  rw [show i + ((j - i).toNat : Int) = j by omega] at this
  exact this
/-- the standard s fits all years -/
def fit (a : aA) (s : Int) : Prop := ftB a s (a 5) = true
theorem Wf.year {a : aA} (w : Wf a) {i : Int} (h : 0 ≤ i ∧ i < 8) : (0 ≤ a (122 + 2 * i) ∧ a (122 + 2 * i) ≤ 999) ∧ 0 ≤ a (122 + 2 * i + 1) ∧ a (122 + 2 * i + 1) ≤ 999 := by
  obtain ⟨g, n, I, hn⟩ := w
  have z := I.year.2 i h.1 h.2
  exact ⟨z.1.2, z.2.2⟩
theorem ft_all {a : aA} {s : Int} : ∀ i, 0 ≤ i → (ftB a s i = true ↔ ∀ j, 0 ≤ j → j < i → a (122 + 2 * j) / s = a (122 + 2 * j + 1)) := by
  have q : ∀ (k : Nat), ftB a s k = true ↔ ∀ j, 0 ≤ j → j < (k : Int) → a (122 + 2 * j) / s = a (122 + 2 * j + 1) := by
    intro k
    induction k with
    | zero => exact ⟨fun _ j x y => by omega, fun _ => rfl⟩
    | succ k ih =>
      rw [show ((k + 1 : Nat) : Int) = (k : Int) + 1 by omega, ftB_s (by omega), Bool.and_eq_true, decide_eq_true_iff, ih]
      refine ⟨fun z j x y => ?_, fun z => ⟨fun j x y => z j x (by omega), z k (by omega) (by omega)⟩⟩
      by_cases e : j = k
      · rw [e]; exact z.2
      · exact z.1 j x (by omega)
  intro i i0
  have := q i.toNat
  rw [show ((i.toNat : Nat) : Int) = i by omega] at this
  exact this
theorem div_an {x s t : Int} (hx : 0 ≤ x) (hs : 0 < s) (h : s ≤ t) : x / t ≤ x / s := by
  refine Int.le_ediv_of_mul_le hs ?_
  have q : 0 ≤ x / t := Int.ediv_nonneg hx (by omega)
  have e1 : x / t * s ≤ x / t * t := Int.mul_le_mul_of_nonneg_left h q
  have e2 := Int.ediv_mul_le x (show t ≠ 0 by omega)
  omega
theorem fit_mid {a : aA} (w : Wf a) {l s g : Int} (hl : 0 < l) (h1 : l ≤ s) (h2 : s ≤ g) (fl : fit a l) (fg : fit a g) : fit a s := by
  have q5 := w.p5
  unfold fit at *
  rw [ft_all _ q5.1] at *
  intro j j0 j1
  have y := w.year (i := j) (by omega)
  have a1 := div_an y.1.1 hl h1
  have a2 := div_an y.1.1 (show 0 < s by omega) h2
  have b1 := fl j j0 j1
  have b2 := fg j j0 j1
  omega
/-- how many, the least, the greatest -/
def Zs (a : aA) (i : Int) : Int × Int × Int := fI (fun (z : Int × Int × Int) s => if s = 0 then z else if ftB a s (a 5) = true then (z.1 + 1, (if z.2.1 = -1 then s else z.2.1), s) else z) (0, -1, -1) i
theorem Zs_s {a : aA} {i : Int} (h : 0 < i) : Zs a (i + 1) = if ftB a i (a 5) = true then ((Zs a i).1 + 1, (if (Zs a i).2.1 = -1 then i else (Zs a i).2.1), i) else Zs a i := by
  have e := fI_s (st := fun (z : Int × Int × Int) s => if s = 0 then z else if ftB a s (a 5) = true then (z.1 + 1, (if z.2.1 = -1 then s else z.2.1), s) else z) (x := ((0 : Int), (-1 : Int), (-1 : Int))) (i := i) (by omega)
  rw [if_neg (by omega)] at e
  exact e
theorem Zs_p {a : aA} (w : Wf a) : ∀ i, 0 ≤ i → i ≤ 100 → ((Zs a i).2.1 = -1 ∧ (Zs a i).2.2 = -1 ∧ (Zs a i).1 = 0 ∧ ∀ s, 1 ≤ s → s < i → ¬ fit a s) ∨ ((1 ≤ (Zs a i).2.1 ∧ (Zs a i).2.1 ≤ (Zs a i).2.2 ∧ (Zs a i).2.2 < i) ∧ fit a (Zs a i).2.1 ∧ fit a (Zs a i).2.2 ∧ (Zs a i).1 = (Zs a i).2.2 - (Zs a i).2.1 + 1 ∧ ∀ s, 1 ≤ s → s < i → fit a s → (Zs a i).2.1 ≤ s ∧ s ≤ (Zs a i).2.2) := by
  refine fI_i (st := fun (z : Int × Int × Int) s => if s = 0 then z else if ftB a s (a 5) = true then (z.1 + 1, (if z.2.1 = -1 then s else z.2.1), s) else z) (n := 100) (fun i z => (z.2.1 = -1 ∧ z.2.2 = -1 ∧ z.1 = 0 ∧ ∀ s, 1 ≤ s → s < i → ¬ fit a s) ∨ ((1 ≤ z.2.1 ∧ z.2.1 ≤ z.2.2 ∧ z.2.2 < i) ∧ fit a z.2.1 ∧ fit a z.2.2 ∧ z.1 = z.2.2 - z.2.1 + 1 ∧ ∀ s, 1 ≤ s → s < i → fit a s → z.2.1 ≤ s ∧ s ≤ z.2.2)) (Or.inl ⟨rfl, rfl, rfl, fun s x y => by omega⟩) (fun i z i0 i6 q => ?_)
  obtain ⟨n, l, g⟩ := z
  dsimp only at q ⊢
  split
  · rename_i e
    rcases q with q | q
    · exact Or.inl ⟨q.1, q.2.1, q.2.2.1, fun s x y => by omega⟩
    · omega
  · rename_i e
    split
    · rename_i f
      right
      dsimp only
      rcases q with q | q
      · rw [if_pos q.1]
        refine ⟨⟨by omega, by omega, by omega⟩, f, f, by omega, fun s x y fs => ?_⟩
        by_cases es : s = i
        · omega
        · exact absurd fs (q.2.2.2 s x (by omega))
      · rw [if_neg (by omega)]
        have G : g = i - 1 := by
          by_cases c : g = i - 1
          · exact c
          · have m := fit_mid w (l := l) (s := i - 1) (g := i) (by omega) (by omega) (by omega) q.2.1 f
            have := q.2.2.2.2 (i - 1) (by omega) (by omega) m
            omega
        refine ⟨⟨by omega, by omega, by omega⟩, q.2.1, f, by omega, fun s x y fs => ?_⟩
        by_cases es : s = i
        · omega
        · have := q.2.2.2.2 s x (by omega) fs
          omega
    · rename_i f
      rcases q with q | q
      · left
        refine ⟨q.1, q.2.1, q.2.2.1, fun s x y => ?_⟩
        by_cases es : s = i
        · rw [es]; exact f
        · exact q.2.2.2 s x (by omega)
      · right
        refine ⟨⟨q.1.1, q.1.2.1, Int.lt_trans q.1.2.2 (by omega)⟩, q.2.1, q.2.2.1, q.2.2.2.1, fun s x y fs => ?_⟩
        by_cases es : s = i
        · rw [es] at fs; exact absurd fs f
        · exact q.2.2.2.2 s x (by omega) fs
section SH
variable {d : Nat} {h : Hp} {Q : aPO} {a : aA} {n s : Int}
theorem c_fits (I : CG h 2 a n) (hn : n ≤ 30000) (hs : 1 ≤ s) (k : Q (vI (b2i (ftB a s (a 5) = true))) h) : Runs d 27 0 [vA 15, vI s, none] [] h Q := by
  have w := I.wf hn
  have q5 := w.p5
  have e5 : h 15 3 = a 5 := I.year.1.1
  refine Runs.go 20 [9] ?_
  refine br.t hs ?_
  refine downI (R := fun i => ftB a s i = true → Runs d 27 9 [vA 15, vI s, vI i] [] h Q) (x := 0) (n := a 5) q5.1 ?_ (fun i i0 i3 r => ?_) rfl
  · intro y
    rw [b2i_t y] at k
    refine Runs.go 10 [] ?_
    exact br.t (show h 15 3 ≤ a 5 by omega) ⟨by omega, k⟩
  · intro y
    obtain ⟨d1, d2⟩ := I.year.2 i i0 (by omega)
    have f1 : h 16 i = a (122 + 2 * i) := d1.1
    have f2 : h 17 i = a (122 + 2 * i + 1) := d2.1
    have b8 : 0 ≤ i ∧ i < (8 : Int) := by omega
    have tv : (h 16 i).tdiv s = a (122 + 2 * i) / s := by rw [f1]; exact Int.tdiv_eq_ediv_of_nonneg d1.2.1
    refine Runs.go 40 [9] ?_
    refine br.f (show ¬ h 15 3 ≤ i by omega) ?_
    refine ⟨b8, ⟨⟨by omega, Or.inl (show 0 ≤ h 16 i by omega)⟩, ⟨b8, ?_⟩⟩⟩
    refine br.j (fun z => ⟨by omega, ?_⟩) (fun z => ⟨by omega, r ?_⟩)
    · have z' : ¬ (h 16 i).tdiv s = h 17 i := z
      rw [tv, f2] at z'
      have Z : ftB a s (i + 1) = false := by rw [ftB_s i0, decide_eq_false z', Bool.and_false]
      rw [ftB_f (by omega) Z (a 5) (by omega), b2i_f (by decide)] at k
      exact k
    · have z' : (h 16 i).tdiv s = h 17 i := z
      rw [tv, f2] at z'
      rw [ftB_s i0, y, decide_eq_true z']
      rfl
theorem r_isStd (w : Wf (h 85)) (hs : 1 ≤ s) (k : Q (vI (b2i (ftB (h 85) s (h 85 5) = true))) h) : Runs d 291 0 [vA 84, vI s, none] [] h Q := by
  have q5 := w.p5
  refine Runs.go 20 [2] ?_
  refine downI (R := fun i => ftB (h 85) s i = true → Runs d 291 2 [vA 84, vI s, vI i] [] h Q) (x := 0) (n := h 85 5) q5.1 ?_ (fun i i0 i3 r => ?_) rfl
  · intro y
    rw [b2i_t y] at k
    refine Runs.go 10 [] ?_
    exact ⟨by decide, br.t (show h 85 5 ≤ h 85 5 by omega) ⟨by omega, k⟩⟩
  · intro y
    have yr := w.year (i := i) (by omega)
    have tv : (h 85 (122 + 2 * i)).tdiv s = h 85 (122 + 2 * i) / s := Int.tdiv_eq_ediv_of_nonneg yr.1.1
    refine Runs.go 40 [2] ?_
    refine ⟨by decide, br.f (show ¬ h 85 5 ≤ i by omega) ?_⟩
    refine ⟨by omega, ⟨by omega, ⟨⟨by omega, show 122 + 2 * i < (3856 : Int) by omega⟩, ⟨⟨by omega, Or.inl yr.1.1⟩, ⟨by omega, ⟨by omega, ⟨by omega, ⟨⟨by omega, show 122 + 2 * i + 1 < (3856 : Int) by omega⟩, ?_⟩⟩⟩⟩⟩⟩⟩⟩
    refine br.j (fun z => ⟨by omega, ?_⟩) (fun z => ⟨by omega, r ?_⟩)
    · have z' : ¬ (h 85 (122 + 2 * i)).tdiv s = h 85 (122 + 2 * i + 1) := z
      rw [tv] at z'
      have Z : ftB (h 85) s (i + 1) = false := by rw [ftB_s i0, decide_eq_false z', Bool.and_false]
      rw [ftB_f (by omega) Z (h 85 5) (by omega), b2i_f (by decide)] at k
      exact k
    · have z' : (h 85 (122 + 2 * i)).tdiv s = h 85 (122 + 2 * i + 1) := z
      rw [tv] at z'
      rw [ftB_s i0, y, decide_eq_true z']
      rfl
theorem c_least (I : CG h 2 a n) (hn : n ≤ 30000) (k : Q (vI (Zs a 100).2.1) h) : Runs (d + 1) 28 0 [vA 15, none] [] h Q := by
  have w := I.wf hn
  have Z := Zs_p w 100 (by decide) (by decide)
  refine Runs.go 20 [2] ?_
  refine downI (R := fun s => (∀ q, 1 ≤ q → q < s → ¬ fit a q) → Runs (d + 1) 28 2 [vA 15, vI s] [] h Q) (x := 1) (n := 100) (by decide) ?_ (fun s s0 s3 r => ?_) (fun q x y => by omega)
  · intro y
    refine Runs.go 10 [] ?_
    refine br.t (by omega) (QI k ?_)
    rcases Z with Z | Z
    · exact Z.1.symm
    · exact absurd Z.2.1 (y _ Z.1.1 (by omega))
  · intro y
    refine Runs.go 20 [2] ?_
    refine br.f (by omega) ?_
    refine c_fits I hn s0 ?_
    refine br.i (fun z => ⟨by omega, r (fun q x1 x2 => ?_)⟩) (fun z => QI k ?_)
    · by_cases e : q = s
      · rw [e]; exact fun ff => b2i_z z ff
      · exact y q x1 (by omega)
    · have f := b2i_nz z
      rcases Z with Z | Z
      · exact absurd f (Z.2.2.2 s s0 s3)
      · have u := Z.2.2.2.2 s s0 s3 f
        by_cases e : (Zs a 100).2.1 < s
        · exact absurd Z.2.1 (y _ Z.1.1 e)
        · omega
theorem c_greatest (I : CG h 2 a n) (hn : n ≤ 30000) (k : Q (vI (Zs a 100).2.2) h) : Runs (d + 1) 29 0 [vA 15, none] [] h Q := by
  have w := I.wf hn
  have Z := Zs_p w 100 (by decide) (by decide)
  have M : ∀ t : Int, 0 ≤ t → t ≤ 99 → (∀ q, 99 - t < q → q < 100 → ¬ fit a q) → Runs (d + 1) 29 3 [vA 15, vI (99 - t)] [] h Q := by
    intro t t0 t9
    refine downI (R := fun t => (∀ q, 99 - t < q → q < 100 → ¬ fit a q) → Runs (d + 1) 29 3 [vA 15, vI (99 - t)] [] h Q) (x := t) (n := 99) t9 ?_ (fun t t0' t3 r => ?_)
    · intro y
      refine Runs.go 10 [] ?_
      refine br.t (by omega) (QI k ?_)
      rcases Z with Z | Z
      · exact Z.2.1.symm
      · exact absurd Z.2.2.1 (y _ (by omega) (by omega))
    · intro y
      refine Runs.go 20 [3] ?_
      refine br.f (by omega) ?_
      refine c_fits I hn (by omega) ?_
      refine br.i (fun z => ⟨by omega, ?_⟩) (fun z => QI k ?_)
      · have R := r (fun q x1 x2 => by
          by_cases e : q = 99 - t
          · rw [e]; exact fun ff => b2i_z z ff
          · exact y q (by omega) x2)
        rw [show 99 - (t + 1) = 99 - t + -1 by omega] at R
        exact R
      · have f := b2i_nz z
        rcases Z with Z | Z
        · exact absurd f (Z.2.2.2 _ (by omega) (by omega))
        · have u := Z.2.2.2.2 (99 - t) (by omega) (by omega) f
          by_cases e : 99 - t < (Zs a 100).2.2
          · exact absurd Z.2.2.1 (y _ e (by omega))
          · omega
  refine Runs.go 20 [3] ?_
  exact M 0 (by decide) (by decide) (fun q x y => by omega)
end SH
theorem o_shrunk : op_shrunk Inv := by
  intro x hx
  refine opR (fun a _ => if x 1 = 0 then (Zs a 100).1 else if x 1 = 1 then (Zs a 100).2.1 else if x 1 = 2 then (Zs a 100).2.2 else -2) (fun h L n Q I hn t k => ?_) (fun h L Q w t k => ?_)
  · have K := k h Same.rf
    have Z := Zs_p (I.wf hn) 100 (by decide) (by decide)
    refine Runs.go 60 [] ?_
    refine c_least I hn ?_
    refine c_greatest I hn ?_
    refine br.i (fun y => ?_) (fun y0 => br.i (fun y => ?_) (fun y1 => br.i (fun y => ?_) (fun y2 => ?_)))
    · rw [if_pos y] at K
      refine br.j (fun z => QI K ?_) (fun z => ?_)
      · rcases Z with Z | Z
        · exact Z.2.2.1.symm
        · omega
      · rcases Z with Z | Z
        · exact absurd Z.1 z
        · exact ⟨by omega, ⟨by omega, QI K (by omega)⟩⟩
    · rw [if_neg y0, if_pos y] at K
      exact K
    · rw [if_neg y0, if_neg y1, if_pos y] at K
      exact K
    · rw [if_neg y0, if_neg y1, if_neg y2] at K
      exact K
  · have K := k h Same.rf
    refine Runs.go 40 [22] ?_
    refine r_isIn ?_
    refine br.j (fun y => QI K ?_) (fun y => ?_)
    · have y' := b2i_z (Decidable.not_not.mp y)
      rw [if_neg (by omega), if_neg (by omega), if_neg (by omega)]
    have y' := b2i_nz y
    have R0 : ∀ b l g : Int, (b, l, g) = Zs (h 85) 1 → Runs 150 292 22 [vA 84, vI (x 1), vI b, vI l, vI g, vI 1] [] h Q := by
      intro b l g e
      have e1 : b = (Zs (h 85) 1).1 := by rw [← e]
      have e2 : l = (Zs (h 85) 1).2.1 := by rw [← e]
      have e3 : g = (Zs (h 85) 1).2.2 := by rw [← e]
      subst e1 e2 e3
      refine downI (R := fun s => Runs 150 292 22 [vA 84, vI (x 1), vI (Zs (h 85) s).1, vI (Zs (h 85) s).2.1, vI (Zs (h 85) s).2.2, vI s] [] h Q) (x := 1) (n := 100) (by decide) ?_ (fun s s0 s3 r => ?_)
      · refine Runs.go 40 [] ?_
        refine br.t (by omega) ?_
        refine br.j (fun z => ?_) (fun z => ?_)
        · rw [if_pos (Decidable.not_not.mp z)] at K
          exact K
        · rw [if_neg z] at K
          refine br.j (fun z1 => ?_) (fun z1 => ?_)
          · rw [if_pos (Decidable.not_not.mp z1)] at K
            exact K
          · have z2 : x 1 ≠ 1 := z1
            rw [if_neg z2, if_pos (by omega)] at K
            exact K
      · have P := Zs_p w s (by omega) (by omega)
        have cn : 0 ≤ (Zs (h 85) s).1 ∧ (Zs (h 85) s).1 ≤ 100 := by rcases P with P | P <;> omega
        rw [Zs_s (by omega)] at r
        refine Runs.go 40 [22] ?_
        refine br.f (by omega) ?_
        refine r_isStd w s0 ?_
        refine br.j (fun z => ?_) (fun z => ?_)
        · rw [if_neg (b2i_z (Decidable.not_not.mp z))] at r
          exact ⟨by omega, r⟩
        · rw [if_pos (b2i_nz z)] at r
          refine ⟨by omega, ?_⟩
          refine br.i (fun c => ⟨by omega, ?_⟩) (fun c => ⟨by omega, ?_⟩)
          · rw [if_neg c] at r
            exact r
          · rw [if_pos (Decidable.not_not.mp c)] at r
            exact r
    exact R0 0 (-1) (-1) rfl
