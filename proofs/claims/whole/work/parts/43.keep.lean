/-! A STEP IS KEPT -/
def pShift (a : aA) : aA := if a 3 = 30 then (fun j => if j = 3 then 29 else if 166 ≤ j ∧ j < 1355 then a (j + 41) else a j) else a
def rowOf (b : aA) (m : Int) : Int := if m = 0 then b 0 else if m < 5 then b (7 + m) else b (12 + 9 * ((m - 5) / 6) + (m - 5) % 6)
def pRow (b : aA) : aA := fun j => if j = 3 then b 3 + 1 else if 166 + 41 * b 3 ≤ j ∧ j < 166 + 41 * b 3 + 41 then rowOf b (j - (166 + 41 * b 3)) else b j
def pKeep (a : aA) : aA := pRow (pShift a)
/-- behind a step: nobody was told since -/
def PK (a : aA) (m : Int) : Prop := (0 < a 3 ∧ a (166 + 41 * (a 3 - 1)) = a 0) ∧ a 11 ≤ a (166 + 41 * (a 3 - 1) + 4) + m
def fillR (b : aA) (x m : Int) : aA := fun j => if x ≤ j ∧ j < x + m then rowOf b (j - x) else b j
theorem fillR_s {b : aA} {x m : Int} (h : 0 ≤ m) : aset (fillR b x m) (x + m) (rowOf b m) = fillR b x (m + 1) := by
  funext j
  unfold aset fillR
  by_cases e : j = x + m
  · rw [if_pos e, if_pos (by omega), e, show x + m - x = m by omega]
  · rw [if_neg e]
    by_cases c : x ≤ j ∧ j < x + m
    · rw [if_pos c, if_pos (by omega)]
    · rw [if_neg c, if_neg (by omega)]
theorem fillR_o {b : aA} {x m j : Int} (h : j < x ∨ x + m ≤ j) : fillR b x m j = b j := by
  unfold fillR
  rw [if_neg (by omega)]
theorem pRow_e {b : aA} (h : 0 ≤ b 3) : aset (fillR b (166 + 41 * b 3) 41) 3 (b 3 + 1) = pRow b := by
  funext j
  unfold aset fillR pRow
  split
  · rfl
  · rfl
theorem rowOf_p {b : aA} {p k : Int} (hp : 0 ≤ p) (hk : 0 ≤ k ∧ k < 6) : rowOf b (5 + 6 * p + k) = b (12 + 9 * p + k) := by
  unfold rowOf
  rw [if_neg (by omega), if_neg (by omega), show (5 + 6 * p + k - 5) / 6 = p by omega, show (5 + 6 * p + k - 5) % 6 = k by omega]
theorem rowOf_4 {b : aA} {k : Int} (hk : 0 ≤ k ∧ k < 4) : rowOf b (1 + k) = b (8 + k) := by
  unfold rowOf
  rw [if_neg (by omega), if_pos (by omega), show 7 + (1 + k) = 8 + k by omega]
section KR
variable {d : Nat} {h : Hp} {Q : aPO}
theorem r_keep56 {b : aA} (hb : 0 ≤ b 3 ∧ b 3 ≤ 29) (eh : h 85 = b) (k : ∀ h1, h1 85 = pRow b → (∀ o, o ≠ 85 → h1 o = h o) → Q none h1) (u v w : AV) (ok : u = none ∨ ∃ z, u = vI z) : Runs (d + 1) 238 56 [vA 84, u, v, w] [] h Q := by
  have e3 : h 85 3 = b 3 := by rw [eh]
  -- the end
  have G4 : ∀ (g : Hp) (v w : AV), g 85 = fillR b (166 + 41 * b 3) 41 → (∀ o, o ≠ 85 → g o = h o) → Runs (d + 1) 238 163 [vA 84, vI (166 + 41 * b 3), v, w] [] g Q := by
    intro g v w e f
    have e4 : g 85 3 = b 3 := by rw [e, fillR_o (by omega)]
    refine Runs.go 20 [] ?_
    refine ⟨by decide, ⟨show -2147483648 ≤ g 85 3 + 1 ∧ g 85 3 + 1 < 2147483648 by omega, ⟨by decide, ?_⟩⟩⟩
    refine k _ (by rw [hup_s, e4, e, pRow_e hb.1]) (fun o q => by rw [hup_o q]; exact f o q)
  -- people
  have G3 : ∀ (g : Hp) (v w : AV), g 85 = fillR b (166 + 41 * b 3) 5 → (∀ o, o ≠ 85 → g o = h o) → Runs (d + 1) 238 116 [vA 84, vI (166 + 41 * b 3), vI 0, w] [] g Q := by
    intro g v w e f
    refine downI (R := fun p => ∀ (g : Hp) (w : AV), g 85 = fillR b (166 + 41 * b 3) (5 + 6 * p) → (∀ o, o ≠ 85 → g o = h o) → Runs (d + 1) 238 116 [vA 84, vI (166 + 41 * b 3), vI p, w] [] g Q) (x := 0) (n := 6) (by decide) ?_ (fun p p0 p6 r => ?_) g w e f
    · intro g w e f
      refine Runs.go 20 [163] ?_
      exact br.t (by omega) (G4 g _ _ e f)
    · intro g w e f
      refine Runs.go 20 [124] ?_
      refine br.f (by omega) ?_
      refine downI (R := fun i => ∀ (g : Hp), g 85 = fillR b (166 + 41 * b 3) (5 + 6 * p + i) → (∀ o, o ≠ 85 → g o = h o) → Runs (d + 1) 238 124 [vA 84, vI (166 + 41 * b 3), vI p, vI i] [] g Q) (x := 0) (n := 6) (by decide) ?_ (fun i i0 i6 r2 => ?_) g (by rw [Int.add_zero]; exact e) f
      · intro g e f
        refine Runs.go 20 [116] ?_
        refine br.t (by omega) ⟨by omega, r g _ ?_ f⟩
        rw [e, show 5 + 6 * (p + 1) = 5 + 6 * p + 6 by omega]
      · intro g e f
        refine Runs.go 30 [124] ?_
        refine br.f (by omega) ?_
        refine ⟨by omega, ⟨by omega, ⟨by omega, ⟨by omega, ?_⟩⟩⟩⟩
        refine r_get ⟨p0, p6⟩ (by omega) ?_
        refine ⟨⟨by omega, show 166 + 41 * b 3 + 5 + 6 * p + i < (3856 : Int) by omega⟩, ⟨by omega, ?_⟩⟩
        refine r2 _ ?_ (fun o q => by rw [hup_o q]; exact f o q)
        rw [hup_s, e, fillR_o (j := 12 + 9 * p + i) (by omega), ← rowOf_p (b := b) p0 ⟨i0, i6⟩, show 166 + 41 * b 3 + 5 + 6 * p + i = 166 + 41 * b 3 + (5 + 6 * p + i) by omega, fillR_s (by omega), Int.add_assoc]
  -- day, standard, x, how many fines
  have G2 : ∀ (g : Hp) (w : AV), g 85 = fillR b (166 + 41 * b 3) 1 → (∀ o, o ≠ 85 → g o = h o) → Runs (d + 1) 238 84 [vA 84, vI (166 + 41 * b 3), vI 0, w] [] g Q := by
    intro g w e f
    refine downI (R := fun i => ∀ (g : Hp), g 85 = fillR b (166 + 41 * b 3) (1 + i) → (∀ o, o ≠ 85 → g o = h o) → Runs (d + 1) 238 84 [vA 84, vI (166 + 41 * b 3), vI i, w] [] g Q) (x := 0) (n := 4) (by decide) ?_ (fun i i0 i6 r2 => ?_) g e f
    · intro g e f
      refine Runs.go 20 [116] ?_
      refine br.t (by omega) (G3 g none _ e f)
    · intro g e f
      refine Runs.go 30 [84] ?_
      refine br.f (by omega) ?_
      refine ⟨by omega, ⟨by omega, ⟨by omega, ⟨⟨by omega, show 8 + i < (3856 : Int) by omega⟩, ⟨⟨by omega, show 166 + 41 * b 3 + 1 + i < (3856 : Int) by omega⟩, ⟨by omega, ?_⟩⟩⟩⟩⟩⟩
      refine r2 _ ?_ (fun o q => by rw [hup_o q]; exact f o q)
      rw [hup_s, e, fillR_o (j := 8 + i) (by omega), ← rowOf_4 (b := b) ⟨i0, i6⟩, show 166 + 41 * b 3 + 1 + i = 166 + 41 * b 3 + (1 + i) by omega, fillR_s (by omega), Int.add_assoc]
  have G1 : ∀ x : Int, x = 166 + 41 * b 3 → Runs (d + 1) 238 70 [vA 84, vI x, v, w] [] h Q := by
    intro x ex
    subst ex
    refine Runs.go 20 [84] ?_
    refine ⟨by decide, ⟨⟨by omega, show 166 + 41 * b 3 < (3856 : Int) by omega⟩, ?_⟩⟩
    refine G2 _ _ ?_ (fun o q => by rw [hup_o q])
    rw [hup_s, eh]
    funext j
    unfold aset fillR
    by_cases c : j = 166 + 41 * b 3
    · rw [if_pos c, if_pos (by omega), c, show 166 + 41 * b 3 - (166 + 41 * b 3) = 0 by omega]
      rfl
    · rw [if_neg c, if_neg (by omega)]
  rcases ok with ok | ⟨z, ok⟩ <;> subst ok
  all_goals
    refine Runs.go 20 [70] ?_
    refine ⟨by decide, ⟨show -2147483648 ≤ 41 * h 85 3 ∧ 41 * h 85 3 < 2147483648 by omega, ⟨show -2147483648 ≤ 166 + 41 * h 85 3 ∧ 166 + 41 * h 85 3 < 2147483648 by omega, ?_⟩⟩⟩
    exact G1 (166 + 41 * h 85 3) (by rw [e3])
theorem r_keep (w : Wf (h 85)) (k : ∀ h1, h1 85 = pKeep (h 85) → (∀ o, o ≠ 85 → h1 o = h o) → Q none h1) : Runs (d + 1) 238 0 [vA 84, none, none, none] [] h Q := by
  have q := w.p3
  unfold pKeep pShift at k
  refine Runs.go 20 [13, 56] ?_
  refine ⟨by decide, ?_⟩
  refine br.i (fun c => ?_) (fun c => ?_)
  · have c1 : h 85 3 ≠ 30 := c
    rw [if_neg c1] at k
    exact r_keep56 (b := h 85) (by omega) rfl k _ _ _ (Or.inl rfl)
  · have c1 : h 85 3 = 30 := Decidable.not_not.mp c
    rw [if_pos c1] at k
    have G : ∀ (g : Hp) (i : Int), 0 ≤ i → i ≤ 1189 → g 85 = (fun j => if 166 ≤ j ∧ j < 166 + i then h 85 (j + 41) else h 85 j) → (∀ o, o ≠ 85 → g o = h o) → Runs (d + 1) 238 13 [vA 84, vI i, none, none] [] g Q := by
      intro g i i0 i1 e f
      refine downI (R := fun i => ∀ (g : Hp), g 85 = (fun j => if 166 ≤ j ∧ j < 166 + i then h 85 (j + 41) else h 85 j) → (∀ o, o ≠ 85 → g o = h o) → Runs (d + 1) 238 13 [vA 84, vI i, none, none] [] g Q) (x := i) (n := 1189) i1 ?_ (fun i i0' i6 r2 => ?_) g e f
      · intro g e f
        have e3 : g 85 3 = 30 := by rw [e]; show (if _ then _ else _) = _; rw [if_neg (by omega)]; exact c1
        refine Runs.go 20 [56] ?_
        refine br.t (by omega) ?_
        refine ⟨by decide, ⟨show -2147483648 ≤ g 85 3 - 1 ∧ g 85 3 - 1 < 2147483648 by omega, ⟨by decide, ?_⟩⟩⟩
        refine r_keep56 (b := fun j => if j = 3 then 29 else if 166 ≤ j ∧ j < 1355 then h 85 (j + 41) else h 85 j) (by show 0 ≤ (29 : Int) ∧ (29 : Int) ≤ 29; decide) ?_ (fun h1 e1 f1 => k h1 e1 (fun o q => by rw [f1 o q, hup_o q]; exact f o q)) _ _ _ (Or.inr ⟨_, rfl⟩)
        rw [hup_s, e3, e]
        rfl
      · intro g e f
        refine Runs.go 20 [13] ?_
        refine br.f (by omega) ?_
        refine ⟨by omega, ⟨by omega, ⟨⟨by omega, show 207 + i < (3856 : Int) by omega⟩, ⟨⟨by omega, show 166 + i < (3856 : Int) by omega⟩, ⟨by omega, ?_⟩⟩⟩⟩⟩
        refine r2 _ ?_ (fun o q => by rw [hup_o q]; exact f o q)
        rw [hup_s, e]
        funext j
        unfold aset
        show (if j = 166 + i then (if 166 ≤ 207 + i ∧ 207 + i < 166 + i then h 85 (207 + i + 41) else h 85 (207 + i)) else if 166 ≤ j ∧ j < 166 + i then h 85 (j + 41) else h 85 j) = _
        by_cases z : j = 166 + i
        · rw [if_pos z, if_neg (by omega), if_pos (by omega), z, show 166 + i + 41 = 207 + i by omega]
        · rw [if_neg z]
          by_cases y : 166 ≤ j ∧ j < 166 + i
          · rw [if_pos y, if_pos (by omega)]
          · rw [if_neg y, if_neg (by omega)]
    exact G h 0 (by decide) (by decide) (by funext j; rw [if_neg (by omega)]) (fun _ _ => rfl)
end KR
