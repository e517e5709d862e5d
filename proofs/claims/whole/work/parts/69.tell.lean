/-! CALLS: wouldTell -/
/-- how many unlike counts the standards from s to g give -/
def nbk (x g s : Int) : Int := fI (fun z j => if j = 0 then 1 else if x / (g - j) = x / (g - j + 1) then z else z + 1) (0 : Int) (g - s + 1)
theorem nbk_z {x g s : Int} (h : g < s) : nbk x g s = 0 := by
  unfold nbk fI
  rw [show (g - s + 1).toNat = 0 by omega]
  rfl
theorem nbk_s {x g s : Int} (h : s ≤ g) : nbk x g s = if s = g then 1 else if x / s = x / (s + 1) then nbk x g (s + 1) else nbk x g (s + 1) + 1 := by
  have e := fI_s (st := fun (z : Int) j => if j = 0 then 1 else if x / (g - j) = x / (g - j + 1) then z else z + 1) (x := (0 : Int)) (i := g - s) (by omega)
  have e1 : nbk x g (s + 1) = fI (fun (z : Int) j => if j = 0 then 1 else if x / (g - j) = x / (g - j + 1) then z else z + 1) (0 : Int) (g - s) := by
    unfold nbk
    rw [show g - (s + 1) + 1 = g - s by omega]
  rw [e1]
  refine Eq.trans e ?_
  rw [show g - (g - s) = s by omega]
  by_cases c : s = g
  · rw [if_pos (by omega), if_pos c]
  · rw [if_neg (by omega), if_neg c]
theorem nbk_b {x g : Int} (s : Int) (h : s ≤ g + 1) : 0 ≤ nbk x g s ∧ nbk x g s ≤ g - s + 1 ∧ (s ≤ g → 1 ≤ nbk x g s) := by
  refine downI (R := fun s => 0 ≤ nbk x g s ∧ nbk x g s ≤ g - s + 1 ∧ (s ≤ g → 1 ≤ nbk x g s)) (x := s) (n := g + 1) h ?_ (fun i i0 i3 r => ?_)
  · rw [nbk_z (by omega)]
    omega
  · rw [nbk_s (by omega)]
    split
    · omega
    · split <;> omega
theorem nbk_one {x g q t : Int} (s : Int) (h : s ≤ g) (hq : s < q) (hb : ∀ j, s ≤ j → j < q → x / j = t) (hn : q ≤ g → x / q ≠ t) : nbk x g s = 1 + nbk x g q := by
  by_cases c : q ≤ g
  · refine downI (R := fun i => nbk x g i = 1 + nbk x g q) (x := s) (n := q - 1) (by omega) ?_ (fun i i0 i3 r => ?_)
    · rw [nbk_s (by omega), if_neg (by omega), if_neg, show q - 1 + 1 = q by omega, Int.add_comm]
      rw [show q - 1 + 1 = q by omega, hb (q - 1) (by omega) (by omega)]
      exact fun e => hn c e.symm
    · rw [nbk_s (by omega), if_neg (by omega), if_pos (by rw [hb i i0 (by omega), hb (i + 1) (by omega) (by omega)])]
      exact r
  · rw [nbk_z (s := q) (by omega)]
    refine downI (R := fun i => nbk x g i = 1 + 0) (x := s) (n := g) (by omega) ?_ (fun i i0 i3 r => ?_)
    · rw [nbk_s (by omega), if_pos rfl]
      rfl
    · rw [nbk_s (by omega), if_neg (by omega), if_pos (by rw [hb i i0 (by omega), hb (i + 1) (by omega) (by omega)])]
      exact r
/-- the best drops so far, and how many counts -/
def Wt (l g i : Int) : Int × Int := fI (fun (z : Int × Int) x => if z.2 < nbk x g l then (x, nbk x g l) else z) (-1, 0) i
theorem Wt_s {l g i : Int} (h : 0 ≤ i) : Wt l g (i + 1) = if (Wt l g i).2 < nbk i g l then (i, nbk i g l) else Wt l g i := fI_s (st := fun (z : Int × Int) x => if z.2 < nbk x g l then (x, nbk x g l) else z) h
theorem Wt_b {l g : Int} (hl : l ≤ g + 1) : ∀ i, 0 ≤ i → i ≤ 1000 → (-1 ≤ (Wt l g i).1 ∧ (Wt l g i).1 ≤ 999) ∧ 0 ≤ (Wt l g i).2 ∧ (Wt l g i).2 ≤ g - l + 1 := by
  refine fI_i (st := fun (z : Int × Int) x => if z.2 < nbk x g l then (x, nbk x g l) else z) (n := 1000) (fun _ z => (-1 ≤ z.1 ∧ z.1 ≤ 999) ∧ 0 ≤ z.2 ∧ z.2 ≤ g - l + 1) ⟨⟨by decide, by decide⟩, by decide, by show (0 : Int) ≤ _; omega⟩ (fun i z i0 i6 q => ?_)
  have b := nbk_b (x := i) (g := g) l hl
  split
  · exact ⟨⟨by show -1 ≤ i; omega, by show i ≤ 999; omega⟩, b.1, b.2.1⟩
  · exact q
theorem Wt_end {l g i : Int} (hl : l ≤ g + 1) (h : 0 ≤ i) (hi : i ≤ 1000) (hc : g - l < (Wt l g i).2) : Wt l g 1000 = Wt l g i := by
  have q : ∀ k : Nat, Wt l g (i + k) = Wt l g i := by
    intro k
    induction k with
    | zero => rw [show i + ((0 : Nat) : Int) = i by omega]
    | succ k ih =>
      rw [show i + ((k + 1 : Nat) : Int) = i + k + 1 by omega, Wt_s (by omega), ih]
      have b := nbk_b (x := i + k) (g := g) l hl
      rw [if_neg (by omega)]
  have := q (1000 - i).toNat
  rw [show i + ((1000 - i).toNat : Int) = 1000 by omega] at this
  exact this
def zTell (a : aA) : Int := if (Zs a 100).2.1 = -1 then -1 else (Wt (Zs a 100).2.1 (Zs a 100).2.2 1000).1
section WT
variable {d : Nat} {h : Hp} {Q : aPO} {a : aA} {n x l g : Int}
theorem c_unlike (hx : 0 ≤ x ∧ x ≤ 999) (hl : 1 ≤ l) (hg : l ≤ g) (h9 : g ≤ 99) (k : Q (vI (nbk x g l)) h) : Runs d 31 0 [vI x, vI l, vI g, none, none, none, none] [] h Q := by
  have M : ∀ i : Int, 0 ≤ i → i ≤ 99 → ∀ (c s : Int) (u : AV), i + 1 ≤ s → s ≤ 1000 → 0 ≤ c → c ≤ i → c + nbk x g s = nbk x g l → Runs d 31 8 [vI x, vI l, vI g, vI c, vI s, vI i, u] [] h Q := by
    intro i i0 i9
    refine downI (R := fun i => ∀ (c s : Int) (u : AV), i + 1 ≤ s → s ≤ 1000 → 0 ≤ c → c ≤ i → c + nbk x g s = nbk x g l → Runs d 31 8 [vI x, vI l, vI g, vI c, vI s, vI i, u] [] h Q) (x := i) (n := 99) i9 ?_ (fun i i0' i3 r => ?_)
    · intro c s u s1 s2 c0 c1 e
      refine Runs.go 10 [] ?_
      rw [nbk_z (by omega)] at e
      exact br.t (by omega) (QI k (by omega))
    · intro c s u s1 s2 c0 c1 e
      refine Runs.go 40 [8] ?_
      refine br.f (by omega) (br.f (by omega) (br.i (fun y => ?_) (fun y => ?_)))
      · rw [nbk_z (by omega)] at e
        exact QI k (by omega)
      · have tv : x.tdiv s = x / s := Int.tdiv_eq_ediv_of_nonneg hx.1
        have q0 : 0 ≤ x / s := Int.ediv_nonneg hx.1 (by omega)
        have q1 : x / s ≤ x := Int.ediv_le_self s hx.1
        refine ⟨by omega, ⟨by omega, Or.inl hx.1⟩, ?_⟩
        rw [tv]
        refine br.i (fun z => ?_) (fun z => ?_)
        · have z' : x / s ≠ 0 := z
          have tp : 0 < x / s := by omega
          have tv2 : x.tdiv (x / s) = x / (x / s) := Int.tdiv_eq_ediv_of_nonneg hx.1
          have w0 : s ≤ x / (x / s) := Int.le_ediv_of_mul_le tp (by have := Int.ediv_mul_le x (show s ≠ 0 by omega); rw [Int.mul_comm] at this; exact this)
          have w1 : x / (x / s) ≤ x := Int.ediv_le_self _ hx.1
          refine ⟨⟨by omega, Or.inl hx.1⟩, ?_⟩
          rw [tv2]
          refine ⟨by omega, ⟨by omega, ?_⟩⟩
          refine r (c + 1) (x / (x / s) + 1) _ (by omega) (by omega) (by omega) (by omega) ?_
          rw [← e, nbk_one (q := x / (x / s) + 1) (t := x / s) s (by omega) (by omega) (fun j j0 j1 => ?_) (fun _ => ?_)]
          · omega
          · have a1 := div_an hx.1 (show 0 < s by omega) j0
            have a2 : x / s ≤ x / j := Int.le_ediv_of_mul_le (by omega) (by
              have b1 : x / s * j ≤ x / s * (x / (x / s)) := Int.mul_le_mul_of_nonneg_left (by omega) q0
              have b2 := Int.ediv_mul_le x (show x / s ≠ 0 by omega)
              rw [Int.mul_comm] at b2
              omega)
            omega
          · have b3 := Int.lt_ediv_add_one_mul_self x tp
            have b4 : x / (x / (x / s) + 1) < x / s := Int.ediv_lt_of_lt_mul (by omega) (by rw [Int.mul_comm]; exact b3)
            omega
        · have z' : x / s = 0 := Decidable.not_not.mp z
          refine QI k ?_
          rw [← e, nbk_one (q := g + 1) (t := 0) s (by omega) (by omega) (fun j j0 j1 => ?_) (fun y => by omega), nbk_z (s := g + 1) (by omega)]
          · omega
          · have a1 := div_an hx.1 (show 0 < s by omega) j0
            have a2 : 0 ≤ x / j := Int.ediv_nonneg hx.1 (by omega)
            omega
  refine Runs.go 20 [8] ?_
  exact M 0 (by decide) (by decide) 0 l none (by omega) (by omega) (by omega) (by omega) (by omega)
theorem r_counts (w : Wf (h 85)) (hx : 0 ≤ x ∧ x ≤ 999) (hz : (l, g) = (Zs (h 85) 100).2) (k : Q (vI (if l = -1 then 0 else nbk x g l)) h) : Runs (d + 1) 293 0 [vA 84, vI x, none, none, none] [] h Q := by
  have Z := Zs_p w 100 (by decide) (by decide)
  rw [← hz] at Z
  dsimp only at Z
  have F : ∀ s, 1 ≤ s → s < 100 → (fit (h 85) s ↔ l ≠ -1 ∧ l ≤ s ∧ s ≤ g) := by
    intro s s0 s1
    rcases Z with Z | Z
    · exact ⟨fun f => absurd f (Z.2.2.2 s s0 s1), fun f => absurd Z.1 f.1⟩
    · exact ⟨fun f => ⟨by omega, Z.2.2.2.2 s s0 s1 f⟩, fun f => fit_mid w (by omega) f.2.1 f.2.2 Z.2.1 Z.2.2.1⟩
  have G : l = -1 ∧ g = -1 ∨ 1 ≤ l ∧ l ≤ g ∧ g < 100 := by
    rcases Z with Z | Z
    · exact Or.inl ⟨Z.1, Z.2.1⟩
    · exact Or.inr Z.1
  have M : ∀ t : Int, 0 ≤ t → t ≤ 99 → ∀ (c f : Int), (c = if l = -1 then 0 else if 99 - t < l then nbk x g l else nbk x g (99 - t + 1)) → (99 - t < g → l ≠ -1 → l ≤ 99 - t → f = x / (99 - t + 1)) → (g ≤ 99 - t → f = -1) → Runs (d + 1) 293 8 [vA 84, vI x, vI c, vI f, vI (99 - t)] [] h Q := by
    intro t t0 t9
    refine downI (R := fun t => ∀ (c f : Int), (c = if l = -1 then 0 else if 99 - t < l then nbk x g l else nbk x g (99 - t + 1)) → (99 - t < g → l ≠ -1 → l ≤ 99 - t → f = x / (99 - t + 1)) → (g ≤ 99 - t → f = -1) → Runs (d + 1) 293 8 [vA 84, vI x, vI c, vI f, vI (99 - t)] [] h Q) (x := t) (n := 99) t9 ?_ (fun t t0' t3 r => ?_)
    · intro c f y1 y2 y3
      refine Runs.go 10 [] ?_
      refine br.t (by omega) (QI k ?_)
      rw [y1]
      rcases G with G | G
      · rw [if_pos G.1, if_pos G.1]
      · rw [if_neg (show ¬ l = -1 by omega), if_neg (show ¬ l = -1 by omega), if_pos (by omega)]
    · intro c f y1 y2 y3
      rw [show 99 - (t + 1) = 99 - t + -1 by omega] at r
      refine Runs.go 40 [8] ?_
      refine br.f (by omega) ?_
      refine r_isStd w (by omega) ?_
      refine br.i (fun z => ⟨by omega, ?_⟩) (fun z => ?_)
      · have nf : ¬ fit (h 85) (99 - t) := fun ff => b2i_z z ff
        rw [F _ (by omega) (by omega)] at nf
        refine r c f ?_ (fun _ _ _ => by omega) (fun _ => y3 (by omega))
        rw [y1]
        rcases G with G | G
        · rw [if_pos G.1, if_pos G.1]
        · rw [if_neg (show ¬ l = -1 by omega), if_neg (show ¬ l = -1 by omega)]
          by_cases e : 99 - t < l
          · rw [if_pos e, if_pos (by omega)]
          · rw [if_neg e, nbk_z (s := 99 - t + 1) (by omega)]
            split
            · omega
            · rw [nbk_z (by omega)]
      · have ff : fit (h 85) (99 - t) := by unfold fit; exact b2i_nz z
        rw [F _ (by omega) (by omega)] at ff
        have tv : x.tdiv (99 - t) = x / (99 - t) := Int.tdiv_eq_ediv_of_nonneg hx.1
        have q0 : 0 ≤ x / (99 - t) := Int.ediv_nonneg hx.1 (by omega)
        rw [if_neg ff.1, if_neg (by omega)] at y1
        have S := nbk_s (x := x) ff.2.2
        have cb := nbk_b (x := x) (g := g) (99 - t + 1) (by omega)
        have C : (c' : Int) → c' = nbk x g (99 - t) → c' = if l = -1 then 0 else if 99 - t + -1 < l then nbk x g l else nbk x g (99 - t + -1 + 1) := by
          intro c' ec
          rw [if_neg ff.1, ec, show 99 - t + -1 + 1 = 99 - t by omega]
          split
          · rw [show 99 - t = l by omega]
          · rfl
        refine ⟨⟨by omega, Or.inl hx.1⟩, ?_⟩
        rw [tv]
        refine br.i (fun z2 => ⟨⟨by omega, Or.inl hx.1⟩, ?_⟩) (fun z2 => ⟨by omega, ?_⟩)
        · rw [tv]
          refine ⟨by omega, ⟨by omega, ?_⟩⟩
          refine r (c + 1) (x / (99 - t)) (C _ ?_) (fun _ _ _ => by rw [show 99 - t + -1 + 1 = 99 - t by omega]) (fun _ => by omega)
          rw [S]
          by_cases e : 99 - t = g
          · rw [if_pos e, y1, nbk_z (by omega)]; rfl
          · rw [if_neg e, if_neg, y1]
            rw [← y2 (by omega) ff.1 ff.2.1]
            exact z2
        · have z3 : x / (99 - t) = f := Decidable.not_not.mp z2
          have ne : 99 - t ≠ g := fun e => by have := y3 (by omega); omega
          have yy := y2 (by omega) ff.1 ff.2.1
          refine r c f (C _ ?_) (fun _ _ _ => by rw [show 99 - t + -1 + 1 = 99 - t by omega]; exact z3.symm) (fun _ => by omega)
          rw [S, if_neg ne, if_pos (by rw [z3, yy]), y1]
  refine Runs.go 20 [8] ?_
  refine M 0 (by decide) (by decide) 0 (-1) ?_ (fun _ _ _ => by omega) (fun _ => rfl)
  rcases G with G | G
  · rw [if_pos G.1]
  · rw [if_neg (by omega), if_neg (by omega), nbk_z (by omega)]
theorem c_tell (I : CG h 2 a n) (hn : n ≤ 30000) (k : Q (vI (zTell a)) h) : Runs (d + 2) 30 0 [vA 15, none, none, none, none, none, none] [] h Q := by
  have Z := Zs_p (I.wf hn) 100 (by decide) (by decide)
  have M : ∀ l g : Int, 1 ≤ l ∧ l ≤ g ∧ g < 100 → (∀ b, b = (Wt l g 1000).1 → Q (vI b) h) → ∀ i : Int, 1 ≤ i → i ≤ 1000 → ∀ u, Runs (d + 2) 30 25 [vA 15, vI l, vI g, vI (Wt l g i).1, vI (Wt l g i).2, vI i, u] [] h Q := by
    intro l g G K i i0 i9
    refine downI (R := fun i => ∀ u, Runs (d + 2) 30 25 [vA 15, vI l, vI g, vI (Wt l g i).1, vI (Wt l g i).2, vI i, u] [] h Q) (x := i) (n := 1000) i9 ?_ (fun i i0' i3 r => ?_)
    · intro u
      refine Runs.go 10 [] ?_
      exact br.t (by omega) (K _ rfl)
    · intro u
      have b := Wt_b (l := l) (g := g) (by omega) i (by omega) (by omega)
      refine Runs.go 40 [25] ?_
      refine br.f (by omega) ⟨by omega, br.i (fun y => ?_) (fun y => ?_)⟩
      · refine K _ ?_
        rw [Wt_end (i := i) (by omega) (by omega) (by omega) (by omega)]
      · refine c_unlike (by omega) G.1 G.2.1 (by omega) ?_
        rw [Wt_s (by omega)] at r
        refine br.i (fun y => ⟨by omega, ?_⟩) (fun y => ⟨by omega, ?_⟩)
        · rw [if_neg (by omega)] at r
          exact r _
        · rw [if_pos (by omega)] at r
          exact r _
  have G : (Zs a 100).2.1 = -1 ∨ 1 ≤ (Zs a 100).2.1 ∧ (Zs a 100).2.1 ≤ (Zs a 100).2.2 ∧ (Zs a 100).2.2 < 100 := by
    rcases Z with Z | Z
    · exact Or.inl Z.1
    · exact Or.inr Z.1
  refine Runs.go 40 [25] ?_
  refine c_least I hn ?_
  refine c_greatest I hn ?_
  unfold zTell at k
  clear Z
  generalize (Zs a 100).2.1 = l at *
  generalize (Zs a 100).2.2 = g at *
  refine br.i (fun y => ?_) (fun y => ?_)
  · have y' : l ≠ -1 := y
    rw [if_neg y'] at k
    have G : 1 ≤ l ∧ l ≤ g ∧ g < 100 := by
      rcases G with Z | Z
      · exact absurd Z y'
      · exact Z
    have b := nbk_b (x := 0) (g := g) l (by omega)
    have R := M _ _ G (fun b e => QI k e) 1 (by decide) (by decide)
    have F : ∀ i z1 z2 : Int, i = 0 → z2 = 0 → Runs (d + 2) 30 25 [vA 15, vI l, vI g, vI z1, vI z2, vI i, none] [] h Q := by
      intro i z1 z2 e e2
      have b := nbk_b (x := i) (g := g) l (by omega)
      have e1 : Wt l g 1 = (i, nbk i g l) := by
        rw [e]
        refine Eq.trans (Wt_s (i := 0) (by decide)) ?_
        rw [e] at b
        rw [if_pos]
        show 0 < nbk 0 _ _
        omega
      rw [e1, show (1 : Int) = i + 1 by omega] at R
      refine Runs.go 40 [25] ?_
      refine br.f (by omega) ⟨by omega, br.f (by omega) ?_⟩
      refine c_unlike (by omega) G.1 G.2.1 (by omega) ?_
      refine br.f (by omega) ⟨by omega, ?_⟩
      exact R _
    exact F 0 0 0 rfl rfl
  · rw [if_pos (Decidable.not_not.mp y)] at k
    exact k
theorem r_tell (w : Wf (h 85)) (k : Q (vI (zTell (h 85))) h) : Runs (d + 2) 294 0 [vA 84, none, none, none, none] [] h Q := by
  have Z := Zs_p w 100 (by decide) (by decide)
  unfold zTell at k
  have G : (Zs (h 85) 100).2.1 = -1 ∨ 1 ≤ (Zs (h 85) 100).2.1 ∧ (Zs (h 85) 100).2.1 ≤ (Zs (h 85) 100).2.2 ∧ (Zs (h 85) 100).2.2 < 100 := by
    rcases Z with Z | Z
    · exact Or.inl Z.1
    · exact Or.inr Z.1
  have hz : ((Zs (h 85) 100).2.1, (Zs (h 85) 100).2.2) = (Zs (h 85) 100).2 := rfl
  generalize (Zs (h 85) 100).2.1 = l at *
  generalize (Zs (h 85) 100).2.2 = g at *
  have M : ∀ V : Int → Int × Int, V 0 = (-1, 0) → (∀ i, 0 ≤ i → V (i + 1) = if (V i).2 < (if l = -1 then 0 else nbk i g l) then (i, if l = -1 then 0 else nbk i g l) else V i) → Q (vI (V 1000).1) h → Runs (d + 2) 294 6 [vA 84, vI (-1), vI 0, vI 0, none] [] h Q := by
    intro V v0 vs k
    have N : ∀ u, Runs (d + 2) 294 6 [vA 84, vI (V 0).1, vI (V 0).2, vI 0, u] [] h Q := by
      refine downI (R := fun i => ∀ u, Runs (d + 2) 294 6 [vA 84, vI (V i).1, vI (V i).2, vI i, u] [] h Q) (x := 0) (n := 1000) (by decide) ?_ (fun i i0 i3 r => ?_)
      · intro u
        refine Runs.go 10 [] ?_
        exact br.t (by omega) k
      · intro u
        refine Runs.go 40 [6] ?_
        refine br.f (by omega) ?_
        refine r_counts w (by omega) hz ?_
        rw [vs i i0] at r
        refine br.j (fun y => ⟨by omega, ?_⟩) (fun y => ⟨by omega, ?_⟩)
        · rw [if_neg (fun c => y c)] at r
          exact r _
        · rw [if_pos y] at r
          exact r _
    rw [v0] at N
    exact N _
  refine Runs.go 20 [6] ?_
  by_cases e : l = -1
  · rw [if_pos e] at k
    refine M (fun _ => (-1, 0)) rfl (fun i i0 => ?_) k
    rw [if_pos e]
    exact (if_neg (by decide)).symm
  · rw [if_neg e] at k
    refine M (Wt l g) rfl (fun i i0 => ?_) k
    rw [if_neg e]
    exact Wt_s i0
end WT
theorem o_wouldTell : op_wouldTell Inv := by
  intro x hx
  refine opR (fun a _ => zTell a) (fun h L n Q I hn t k => ?_) (fun h L Q w t k => ?_)
  · have K := k h Same.rf
    refine Runs.go 10 [] ?_
    exact c_tell I hn K
  · exact r_tell w (k h Same.rf)
