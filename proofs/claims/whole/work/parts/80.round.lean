/-! CALLS: round -/
theorem rst_le {a : aA} {n : Int} {S : Int × List Nat} {p : List Nat} : (rst a n S p).1 ≤ S.1 ∧ (rst a n S p).1 ≤ totL a n (fnL p) := by
  unfold rst
  split
  · exact ⟨by show totL a n (fnL p) ≤ S.1; omega, Int.le_refl _⟩
  · exact ⟨Int.le_refl _, by omega⟩
theorem rst_fle {a : aA} {n : Int} : ∀ (l : List (List Nat)) (S : Int × List Nat), (l.foldl (rst a n) S).1 ≤ S.1 := by
  intro l
  induction l with
  | nil => intro S; exact Int.le_refl _
  | cons p l ih =>
    intro S
    have q := ih (rst a n S p)
    have q2 := (rst_le (a := a) (n := n) (S := S) (p := p)).1
    exact Int.le_trans q q2
theorem swp_nn {f : Int → Int} (hf : ∀ j, 0 ≤ f j) {x y : Int} : ∀ j, 0 ≤ swp f x y j := by
  intro j
  unfold swp aset
  split
  · exact hf x
  · split
    · exact hf y
    · exact hf j
theorem rvs_nn : ∀ (t : Nat) (f : Int → Int) (x y : Int), (∀ j, 0 ≤ f j) → ∀ j, 0 ≤ rvs t f x y j := by
  intro t
  induction t with
  | zero => intro f x y hf; exact hf
  | succ t ih =>
    intro f x y hf
    unfold rvs
    split
    · exact hf
    · exact ih _ _ _ (swp_nn hf)
section RO
variable {h : Hp} {Q : aPO} {d : Nat} {n : Nat} {a : aA}
theorem okP_f {p : List Nat} (h : okP n p = true) (hn : 1 ≤ n ∧ n ≤ 6) : (∀ j, 0 ≤ j → j < (n : Int) → 0 ≤ fnL p j ∧ fnL p j < 6) ∧ fnL p 0 = 0 := by
  have q := fnL_r h hn
  exact ⟨fun j _ _ => by have := q.1 j; omega, q.2⟩
/-- the best row is laid by -/
theorem r_layBest {f : Int → Int} {g : Hp} (e0 : g 85 0 = (n : Int)) (hn : 2 ≤ n ∧ n ≤ 6) (A : rwA n g f) {z : Int}
    (k : ∀ h1, (∀ o, o ≠ 95 → h1 o = g o) → (∀ j, 0 ≤ j → j < (n : Int) → h1 95 j = f j) → ∀ u : AV, Runs d 288 78 [vA 84, vI z, vI 1, u] [] h1 Q) : Runs d 288 50 [vA 84, vI z, vI 1, vI 0] [] g Q := by
  refine downI (R := fun i => ∀ h1 : Hp, (∀ o, o ≠ 95 → h1 o = g o) → (∀ j, 0 ≤ j → j < i → h1 95 j = f j) → Runs d 288 50 [vA 84, vI z, vI 1, vI i] [] h1 Q) (x := 0) (n := (n : Int)) (by omega) ?_ (fun i i0 i3 r => ?_) g (fun o _ => rfl) (fun j x y => by omega)
  · intro h1 q1 q2
    have e1 : h1 85 0 = (n : Int) := by rw [q1 85 (by decide)]; exact e0
    refine Runs.go 10 [78] ?_
    exact ⟨by decide, br.t (show h1 85 0 ≤ (n : Int) by omega) (k h1 q1 q2 _)⟩
  · intro h1 q1 q2
    have e1 : h1 85 0 = (n : Int) := by rw [q1 85 (by decide)]; exact e0
    have b : 0 ≤ i ∧ i < (6 : Int) := by omega
    refine Runs.go 30 [50] ?_
    refine ⟨by decide, br.f (show ¬ h1 85 0 ≤ i by omega) ?_⟩
    refine ⟨b, ⟨b, ⟨by omega, ?_⟩⟩⟩
    refine r _ (fun o o1 => ?_) (fun j j0 j1 => ?_)
    · rw [hup_o o1]
      exact q1 o o1
    · by_cases e : j = i
      · rw [e, hup_eq, q1 94 (by decide)]
        exact A i i0 i3
      · rw [hup_nj e]
        exact q2 j j0 (by omega)
theorem r_layLoop (w : Wf (h 85)) (e0 : h 85 0 = (n : Int)) (hn : 2 ≤ n ∧ n ≤ 6) : ∀ (l : List (List Nat)) (g : Hp) (p : List Nat) (S : Int × List Nat) (u : AV), chnL n (p :: l) = true → (p :: l).all (okP n) = true → (∀ o, o ≠ 94 → o ≠ 95 → g o = h o) → rwA n g (fnL p) → bsA n 1000000000 (g 95) S →
      (∀ h1, (∀ o, o ≠ 94 → o ≠ 95 → h1 o = h o) → bsA n 1000000000 (h1 95) ((p :: l).foldl (rst (h 85) n) S) → Q (vI ((p :: l).foldl (rst (h 85) n) S).1) h1) →
      Runs (d + 1) 288 31 [vA 84, vI S.1, vI 1, u] [] g Q := by
  intro l
  induction l with
  | nil =>
    intro g p S u hc ho g1 g2 g3 k
    have e85 : g 85 = h 85 := g1 85 (by decide) (by decide)
    have op : okP n p = true := List.all_eq_true.mp ho p List.mem_cons_self
    have F := okP_f op (by omega)
    have i0 : nxI n (fnL p) = 0 := Nat.eq_of_beq_eq_true hc
    have tr := totL_r w (f := fnL p) (n := (n : Int)) (by omega) F.1
    have K : ∀ (S' : Int × List Nat) (g' : Hp) (u : AV), S' = rst (h 85) n S p → (∀ o, o ≠ 95 → g' o = g o) → bsA n 1000000000 (g' 95) S' → Runs (d + 1) 288 78 [vA 84, vI S'.1, vI 1, u] [] g' Q := by
      intro S' g' u e q1 q2
      subst e
      have e85' : g' 85 = h 85 := by rw [q1 85 (by decide), e85]
      refine Runs.go 20 [] ?_
      refine r_next (f := fnL p) (n := n) (by rw [e85']; exact e0) hn (fun j j0 j1 => by rw [q1 94 (by decide)]; exact g2 j j0 j1) (fun _ => ?_) (fun z => by omega)
      refine br.t rfl ?_
      exact k g' (fun o o1 o2 => by rw [q1 o o2]; exact g1 o o1 o2) q2
    have L : ∀ (Q : aPO), Q (vI (totL (h 85) n (fnL p))) g → Runs d 286 0 [vA 84, none, none] [] g Q := by
      intro Q kk
      rw [← e85] at kk
      exact r_length (n := n) (f := fnL p) (by rw [e85]; exact w) (by rw [e85]; exact e0) hn g2 F.1 F.2 kk
    refine Runs.go 30 [50, 78] ?_
    refine br.f (by decide) ?_
    refine L _ ?_
    refine br.i (fun c => ?_) (fun c => ?_)
    · have c' : S.1 ≤ totL (h 85) n (fnL p) := c
      refine K S g u ?_ (fun o _ => rfl) g3
      unfold rst
      rw [if_neg (by omega)]
    · have c' : ¬ S.1 ≤ totL (h 85) n (fnL p) := c
      refine L _ ?_
      refine r_layBest (n := n) (f := fnL p) (by rw [e85]; exact e0) hn g2 (fun g' q1 q2 u' => ?_)
      refine K (totL (h 85) n (fnL p), p) g' u' ?_ q1 (Or.inr q2)
      unfold rst
      rw [if_pos (by omega)]
  | cons q l ih =>
    intro g p S u hc ho g1 g2 g3 k
    have e85 : g 85 = h 85 := g1 85 (by decide) (by decide)
    have op : okP n p = true := List.all_eq_true.mp ho p List.mem_cons_self
    have oq : okP n q = true := List.all_eq_true.mp ho q (List.mem_cons_of_mem _ List.mem_cons_self)
    have ho' : (q :: l).all (okP n) = true := List.all_eq_true.mpr (fun x hx => List.all_eq_true.mp ho x (List.mem_cons_of_mem _ hx))
    have F := okP_f op (by omega)
    have Fq := okP_f oq (by omega)
    unfold chnL at hc
    rw [Bool.and_eq_true, Bool.and_eq_true, decide_eq_true_eq] at hc
    obtain ⟨⟨hc1, hc2⟩, hc3⟩ := hc
    have i0 : 0 < nxI n (fnL p) := Nat.le_of_ble_eq_true hc1
    have tr := totL_r w (f := fnL p) (n := (n : Int)) (by omega) F.1
    have K : ∀ (S' : Int × List Nat) (g' : Hp) (u : AV), S' = rst (h 85) n S p → (∀ o, o ≠ 95 → g' o = g o) → bsA n 1000000000 (g' 95) S' → Runs (d + 1) 288 78 [vA 84, vI S'.1, vI 1, u] [] g' Q := by
      intro S' g' u e q1 q2
      subst e
      have e85' : g' 85 = h 85 := by rw [q1 85 (by decide), e85]
      refine Runs.go 20 [31] ?_
      refine r_next (f := fnL p) (n := n) (by rw [e85']; exact e0) hn (fun j j0 j1 => by rw [q1 94 (by decide)]; exact g2 j j0 j1) (fun z => by omega) (fun _ h1 z1 z2 => ?_)
      refine ih h1 q (rst (h 85) n S p) u hc3 ho' (fun o o1 o2 => by rw [z2 o o1, q1 o o2]; exact g1 o o1 o2) (fun j j0 j1 => ?_) (by rw [z2 95 (by decide)]; exact q2) k
      rw [z1 j j0 j1, ← hc2]
      exact (lstL_f (fun i _ _ => rvs_nn _ _ _ _ (swp_nn (fun j => (fnL_r op (by omega)).1 j |>.1)) i) j j0 j1).symm
    have L : ∀ (Q : aPO), Q (vI (totL (h 85) n (fnL p))) g → Runs d 286 0 [vA 84, none, none] [] g Q := by
      intro Q kk
      rw [← e85] at kk
      exact r_length (n := n) (f := fnL p) (by rw [e85]; exact w) (by rw [e85]; exact e0) hn g2 F.1 F.2 kk
    refine Runs.go 30 [50, 78] ?_
    refine br.f (by decide) ?_
    refine L _ ?_
    refine br.i (fun c => ?_) (fun c => ?_)
    · have c' : S.1 ≤ totL (h 85) n (fnL p) := c
      refine K S g u ?_ (fun o _ => rfl) g3
      unfold rst
      rw [if_neg (by omega)]
    · have c' : ¬ S.1 ≤ totL (h 85) n (fnL p) := c
      refine L _ ?_
      refine r_layBest (n := n) (f := fnL p) (by rw [e85]; exact e0) hn g2 (fun g' q1 q2 u' => ?_)
      refine K (totL (h 85) n (fnL p), p) g' u' ?_ q1 (Or.inr q2)
      unfold rst
      rw [if_pos (by omega)]
theorem chn_n (hn : 2 ≤ n ∧ n ≤ 6) : ∃ t, dfs n (n - 1) [0] = List.range n :: t ∧ chnL n (List.range n :: t) = true ∧ (List.range n :: t).all (okP n) = true := by
  obtain ⟨m, em⟩ : ∃ m : Nat, n = m + 2 := ⟨n - 2, by omega⟩
  have T := chn_t ⟨m, by omega⟩
  subst em
  obtain ⟨T1, T2, T3⟩ := T
  have e : m + 2 - 1 = m + 1 := by omega
  rw [e]
  revert T1 T2 T3
  cases dfs (m + 2) (m + 1) [0] with
  | nil => intro _ _ z; exact absurd z (by simp)
  | cons p t =>
    intro T1 T2 T3
    have : p = List.range (m + 2) := by simpa using T3
    subst this
    exact ⟨t, rfl, T1, T2⟩
theorem fnL_range {j : Int} (h : 0 ≤ j ∧ j < (n : Int)) : fnL (List.range n) j = j := by
  unfold fnL
  rw [List.getD_eq_getElem?_getD, List.getElem?_range (show j.toNat < n by omega), Option.getD_some]
  omega
theorem r_lay (w : Wf (h 85)) (e0 : h 85 0 = (n : Int)) (hn : 2 ≤ n ∧ n ≤ 6)
    (k : ∀ h1, (∀ o, o ≠ 94 → o ≠ 95 → h1 o = h o) → (∀ j, 0 ≤ j → j < (n : Int) → h1 95 j = fnL (rRS (h 85) n).2 j) → Q (vI (rRS (h 85) n).1) h1) : Runs (d + 1) 288 0 [vA 84, none, none, none] [] h Q := by
  obtain ⟨t, t1, t2, t3⟩ := chn_n hn
  unfold rRS at k
  rw [t1] at k
  have op : okP n (List.range n) = true := List.all_eq_true.mp t3 _ List.mem_cons_self
  have F := okP_f op (by omega)
  have tr := totL_r w (f := fnL (List.range n)) (n := (n : Int)) (by omega) F.1
  have fl : ((List.range n :: t).foldl (rst (h 85) n) (1000000000, [])).1 ≤ 594 := by
    have q := rst_fle (a := h 85) (n := (n : Int)) t (rst (h 85) n (1000000000, []) (List.range n))
    have q2 := (rst_le (a := h 85) (n := (n : Int)) (S := (1000000000, [])) (p := List.range n)).2
    exact Int.le_trans q (Int.le_trans q2 tr.2)
  refine Runs.go 10 [6] ?_
  refine downI (R := fun i => ∀ g : Hp, (∀ o, o ≠ 94 → o ≠ 95 → g o = h o) → (∀ j, 0 ≤ j → j < i → g 94 j = j) → Runs (d + 1) 288 6 [vA 84, vI 1000000000, vI i, none] [] g Q) (x := 0) (n := (n : Int)) (by omega) ?_ (fun i i0 i3 r => ?_) h (fun o _ _ => rfl) (fun j x y => by omega)
  · intro g g1 g2
    have e1 : g 85 0 = (n : Int) := by rw [g1 85 (by decide) (by decide)]; exact e0
    refine Runs.go 10 [31] ?_
    refine ⟨by decide, br.t (show g 85 0 ≤ (n : Int) by omega) ?_⟩
    refine r_layLoop (h := h) w e0 hn t g (List.range n) (1000000000, []) none t2 t3 g1 (fun j j0 j1 => ?_) (Or.inl rfl) (fun h1 q1 q2 => k h1 q1 ?_)
    · rw [g2 j j0 j1, fnL_range ⟨j0, j1⟩]
    · rcases q2 with z | z
      · omega
      · exact z
  · intro g g1 g2
    have e1 : g 85 0 = (n : Int) := by rw [g1 85 (by decide) (by decide)]; exact e0
    have b : 0 ≤ i ∧ i < (6 : Int) := by omega
    refine Runs.go 30 [6] ?_
    refine ⟨by decide, br.f (show ¬ g 85 0 ≤ i by omega) ?_⟩
    refine ⟨b, ⟨by omega, ?_⟩⟩
    refine r _ (fun o o1 o2 => ?_) (fun j j0 j1 => ?_)
    · rw [hup_o o1]
      exact g1 o o1 o2
    · by_cases e : j = i
      · rw [e, hup_eq]
      · rw [hup_nj e]
        exact g2 j j0 (by omega)
theorem c_find {m : Int} (I : CG h 2 a m) (hm : m ≤ 30000) (e0 : a 0 = (n : Int)) (hn : 2 ≤ n ∧ n ≤ 6)
    (k : ∀ h1, (∀ o, o ≠ 76 → o ≠ 77 → o ≠ 78 → h1 o = h o) → h1 76 2 = (rRS a n).1 → (∀ j, 0 ≤ j → j < (n : Int) → h1 78 j = fnL (rRS a n).2 j) → Q none h1) : Runs (d + 7) 96 0 [vA 76, vA 9, vI n] [] h Q := by
  have w := I.wf hm
  obtain ⟨t, t1, t2, t3⟩ := chn_n hn
  unfold rRS at k
  have op : okP n (List.range n) = true := List.all_eq_true.mp t3 _ List.mem_cons_self
  have F := okP_f op (by omega)
  have tr := totL_r w (f := fnL (List.range n)) (n := (n : Int)) (by omega) F.1
  have E : (dfs n (n - 1) [0]).foldl (rst a n) (595, []) = (dfs n (n - 1) [0]).foldl (rst a n) (1000000000, []) := by
    rw [t1]
    exact rst_first (by omega) (by omega)
  have fl : ((dfs n (n - 1) [0]).foldl (rst a n) (595, [])).1 ≤ 594 := by
    rw [t1]
    have q := rst_fle (a := a) (n := (n : Int)) t (rst a n (595, []) (List.range n))
    have q2 := (rst_le (a := a) (n := (n : Int)) (S := (595, [])) (p := List.range n)).2
    exact Int.le_trans q (Int.le_trans q2 tr.2)
  have wy : ∀ i, 0 ≤ i → i < 36 → h 9 i = a (86 + i) := fun i x y => (I.way i x y).1
  obtain ⟨d', ed⟩ : ∃ d' : Nat, d + 6 = d' + (n - 1) + 1 := ⟨d + 6 - (n - 1) - 1, by omega⟩
  refine Runs.go 30 [39] ?_
  refine br.f (by omega) (br.f (by omega) ?_)
  refine ⟨by decide, ?_⟩
  have G : Runs (d' + (n - 1) + 1) 97 0 [vA 76, vA 9, vI n, vI ([0] : List Nat).length, vI 1, vI (plL a (fnL [0]) ((([0] : List Nat).length : Int) - 1)), none, none] [] (hup (hup (hup h 76 2 0) 76 2 595) 77 0 0) (fun r2 h2 => Runs (d + 7) 96 39 [vA 76, vA 9, vI n] (pushR r2 []) h2 Q) := by
    refine c_walk w hn (n - 1) d' _ _ [0] 1 (595, []) (fun i x y => ?_) (by show 1 + (n - 1) = n; omega) (by decide) List.mem_cons_self (fun x hx => by rw [List.mem_singleton.mp hx]; decide) (fun j j0 j1 => ?_) (by decide) (fun y y6 => ?_) ?_ (Or.inl rfl) (fun h1 q1 q2 q3 q4 => ?_)
    · rw [hup_o (by decide), hup_o (by decide), hup_o (by decide)]
      exact wy i x y
    · have : j = 0 := by
        have : j < 1 := j1
        omega
      rw [this, hup_eq]
      rfl
    · rw [List.mem_singleton]
      have c : y = 0 ∨ y = 1 ∨ y = 2 ∨ y = 3 ∨ y = 4 ∨ y = 5 := by omega
      rcases c with c | c | c | c | c | c <;> subst c <;> decide +kernel
    · rw [hup_o (by decide), hup_eq]
    · refine Runs.go 5 [] ?_
      rw [E] at q3 q4 fl
      refine k h1 (fun o o1 o2 o3 => ?_) q3 ?_
      · rw [q1 o o1 o2 o3, hup_o o2, hup_o o1, hup_o o1]
      · rcases q4 with z | z
        · omega
        · exact z
  rw [← ed] at G
  exact G
end RO
theorem o_round : op_round Inv := by
  intro x hx
  have hx1 := hx 1
  refine opR (fun a _ => if x 1 < -1 ∨ (a 0 - 2 < x 1 ∧ x 1 ≠ -1) then -2 else if a 0 < 2 then 0 else if x 1 = -1 then (rRS a (a 0).toNat).1 else fnL (rRS a (a 0).toNat).2 (x 1 + 1)) (fun h L n Q I hn t k => ?_) (fun h L Q w t k => ?_)
  · have w := I.wf hn
    have q0 := w.p0
    have e0 : h 2 0 = h 85 0 := I.num.1.1
    have B : ∀ R : Prop, (¬ (x 1 < -1 ∨ (h 85 0 - 2 < x 1 ∧ x 1 ≠ -1)) → Runs 150 140 26 [vA 0, vI (x 1)] [] h Q) → (x 1 < -1 ∨ (h 85 0 - 2 < x 1 ∧ x 1 ≠ -1) → Q (vI (-2)) h) → Runs 150 140 0 [vA 0, vI (x 1)] [] h Q := by
      intro _ k1 k2
      refine Runs.go 20 [26] ?_
      refine br.i (fun c => k2 (Or.inl c)) (fun c => ?_)
      refine ⟨show -2147483648 ≤ h 2 0 - 2 ∧ h 2 0 - 2 < 2147483648 by omega, ?_⟩
      refine br.i (fun c2 => k1 ?_) (fun c2 => ?_)
      · have c' : x 1 ≤ h 2 0 - 2 := c2
        omega
      · have c' : ¬ x 1 ≤ h 2 0 - 2 := c2
        refine br.i (fun c3 => k1 ?_) (fun c3 => k2 ?_)
        · have c' : x 1 = -1 := c3
          omega
        · have c3' : ¬ x 1 = -1 := c3
          omega
    refine B True (fun c => ?_) (fun c => QI (k h Same.rf) (by rw [if_pos c]))
    by_cases c2 : h 85 0 < 2
    · have x1 : x 1 = -1 := by omega
      have K := k (hup h 76 2 0) (fun o so => hup_o (fun e => so (by subst e; unfold scr; omega)))
      rw [if_neg c, if_pos c2] at K
      refine Runs.go 20 [47] ?_
      refine Runs.go 10 [] ?_
      refine br.t (show h 2 0 < 2 by omega) ?_
      refine Runs.go 20 [] ?_
      refine br.f (by omega) ?_
      exact QI K hup_eq
    · have en : h 85 0 = ((h 85 0).toNat : Int) := by omega
      refine Runs.go 20 [47] ?_
      have G : Runs 149 96 0 [vA 76, vA 9, vI ((h 85 0).toNat : Int)] [] h (fun r2 h2 => Runs 150 140 47 [vA 0, vI (x 1)] (pushR r2 []) h2 Q) := by
        refine c_find (d := 142) I hn en (by omega) (fun h1 q1 q2 q3 => ?_)
        have K := k h1 (fun o so => q1 o (fun e => so (by subst e; unfold scr; omega)) (fun e => so (by subst e; unfold scr; omega)) (fun e => so (by subst e; unfold scr; omega)))
        rw [if_neg c, if_neg c2] at K
        refine Runs.go 20 [] ?_
        refine br.j (fun c3 => ?_) (fun c3 => ?_)
        · rw [if_pos (Decidable.not_not.mp c3)] at K
          exact QI K q2
        · rw [if_neg c3] at K
          refine ⟨by omega, ⟨show 0 ≤ x 1 + 1 ∧ x 1 + 1 < (6 : Int) by omega, ?_⟩⟩
          exact QI K (q3 (x 1 + 1) (by omega) (by omega))
      rw [← en, ← e0] at G
      exact G
  · have q0 := w.p0
    have B : ∀ R : Prop, (¬ (x 1 < -1 ∨ (h 85 0 - 2 < x 1 ∧ x 1 ≠ -1)) → Runs 150 289 24 [vA 84, vI (x 1), none] [] h Q) → (x 1 < -1 ∨ (h 85 0 - 2 < x 1 ∧ x 1 ≠ -1) → Q (vI (-2)) h) → Runs 150 289 0 [vA 84, vI (x 1), none] [] h Q := by
      intro _ k1 k2
      refine Runs.go 20 [24] ?_
      refine ⟨by decide, ⟨show -2147483648 ≤ h 85 0 - 2 ∧ h 85 0 - 2 < 2147483648 by omega, ?_⟩⟩
      refine r_isIn (y := h 85 0 - 2) ?_
      refine br.i (fun c => k1 ?_) (fun c => ?_)
      · have c' := b2i_nz c
        omega
      · have c' := b2i_z (Decidable.not_not.mp c)
        refine br.i (fun c3 => k1 ?_) (fun c3 => k2 ?_)
        · have c' : x 1 = -1 := c3
          omega
        · have c3' : ¬ x 1 = -1 := c3
          omega
    refine B True (fun c => ?_) (fun c => QI (k h Same.rf) (by rw [if_pos c]))
    by_cases c2 : h 85 0 < 2
    · have K := k h Same.rf
      rw [if_neg c, if_pos c2] at K
      refine Runs.go 20 [] ?_
      exact ⟨by decide, br.f (show ¬ 2 ≤ h 85 0 by omega) K⟩
    · have en : h 85 0 = ((h 85 0).toNat : Int) := by omega
      refine Runs.go 20 [] ?_
      refine ⟨by decide, br.t (show 2 ≤ h 85 0 by omega) ?_⟩
      refine r_lay (n := (h 85 0).toNat) w en (by omega) (fun h1 q1 q2 => ?_)
      have K := k h1 (fun o so => q1 o (fun e => so (by subst e; unfold scr; omega)) (fun e => so (by subst e; unfold scr; omega)))
      rw [if_neg c, if_neg c2] at K
      refine br.j (fun c3 => ?_) (fun c3 => ?_)
      · rw [if_pos (Decidable.not_not.mp c3)] at K
        exact K
      · rw [if_neg c3] at K
        refine ⟨by omega, ⟨show 0 ≤ x 1 + 1 ∧ x 1 + 1 < (6 : Int) by omega, ?_⟩⟩
        exact QI K (q2 (x 1 + 1) (by omega) (by omega))
