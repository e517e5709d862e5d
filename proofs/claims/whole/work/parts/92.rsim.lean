/-! TEXTS: the reference follows what the tokens say -/
theorem rk_lt {c : Int} (h : 1 ≤ rk c) : c < 40 := by
  by_cases z : 40 ≤ c
  · unfold rk at h
    rw [if_pos z] at h
    omega
  · omega
theorem opN_app {R : List Int} : ∀ {ops : List Int}, (∀ c ∈ ops, 1 ≤ rk c) → opN (ops ++ R) = opN R
  | [], _ => rfl
  | c :: ops, h => by
    have q := rk_lt (h c List.mem_cons_self)
    show (if 40 ≤ c then c else opN (ops ++ R)) = opN R
    rw [if_neg (by omega)]
    exact opN_app (fun x hx => h x (List.mem_cons_of_mem _ hx))
theorem cmpd_app {R : List Int} : ∀ {ops : List Int}, (∀ c ∈ ops, 5 ≤ rk c) → cmpd (ops ++ R) = cmpd R
  | [], _ => rfl
  | c :: ops, h => by
    have q := h c List.mem_cons_self
    show (if 4 < rk c then cmpd (ops ++ R) else decide (rk c = 4)) = cmpd R
    rw [if_pos (by omega)]
    exact cmpd_app (fun x hx => h x (List.mem_cons_of_mem _ hx))
theorem nnt_app {x : Int} : ∀ {ops : List Int}, nnt (ops ++ [x]) = nnt ops + nn1 x
  | [] => by show nn1 x + 0 = 0 + nn1 x; omega
  | c :: ops => by
    show nn1 c + nnt (ops ++ [x]) = nn1 c + nnt ops + nn1 x
    rw [nnt_app]
    omega
theorem nnt_0 : ∀ {ops : List Int}, (∀ c ∈ ops, 5 ≤ rk c ∧ rk c ≤ 6) → nnt ops = 0
  | [], _ => rfl
  | c :: ops, h => by
    have q := h c List.mem_cons_self
    have r := nnt_0 (ops := ops) (fun x hx => h x (List.mem_cons_of_mem _ hx))
    show nn1 c + nnt ops = 0
    have e : nn1 c = 0 := by
      unfold nn1
      rw [if_neg]
      rintro (z | z)
      · omega
      · rw [z] at q
        exact absurd q.1 (by decide)
    omega
theorem ems_app {ops : List Int} {x : Int} : ems (ops ++ [x]) = ems ops ++ [(x, 0)] := by
  unfold ems
  rw [List.map_append]
  rfl
def no41 (P : List Int) : Prop := ∀ R, P ≠ 41 :: R
theorem askA.p {P : List Int} (a : askA P) : opN P = 42 ∧ cmpd P = false ∧ top1 P 5 ∧ no41 P := by
  cases P with
  | nil => exact a.elim
  | cons c R =>
    obtain ⟨a1, a2⟩ := a
    have z : c = 42 ∨ (1 ≤ rk c ∧ rk c ≤ 3) := by
      rcases a2 with a2 | a2
      · left
        unfold opN at a1
        rw [if_pos a2] at a1
        exact a1
      · exact Or.inr a2
    have q : rk c ≤ 3 := by
      rcases z with z | z
      · rw [z]; decide
      · exact z.2
    refine ⟨a1, ?_, ?_, ?_⟩
    · unfold cmpd
      rw [if_neg (by omega)]
      exact decide_eq_false (by omega)
    · intro x S e
      cases e
      omega
    · intro S e
      cases e
      rcases z with z | z
      · exact absurd z (by decide)
      · exact absurd z.1 (by decide)
def lo (y : Nat) : Int := if y = 1 then 6 else if y = 2 then 5 else if y = 3 then 3 else if y = 4 then 2 else 1
def lnB (y : Nat) (o : Int) : Int := if y = 1 then 1 else if y = 2 then 2 else if y = 3 then 11 - o else if y = 4 then 12 - o else 13 - o
def sPre (cd : Int → Int) (y : Nat) (o k : Int) (P : List Int) : Prop := ((P.length : Int) ≤ 6 * o + (5 - y) ∧ 0 ≤ o ∧ o ≤ 8) ∧ (y ≤ 2 → askA P → cd k ≠ 31) ∧ (y = 1 → top1 P 6 ∧ no41 P) ∧ (y = 2 → top1 P 5 ∧ no41 P) ∧ (3 ≤ y → askA P) ∧ (y = 4 → top1 P 2) ∧ (y = 5 → top1 P 1)
theorem nask {c : Int} {P : List Int} (h : (c < 40 ∧ (rk c < 1 ∨ 3 < rk c)) ∨ (40 ≤ c ∧ c ≠ 42)) : ¬ askA (c :: P) := by
  rintro ⟨a1, a2⟩
  rcases h with h | h
  · omega
  · unfold opN at a1
    rw [if_pos h.1] at a1
    exact h.2 a1
theorem top1_c {c l : Int} {P : List Int} (h : rk c < l) : top1 (c :: P) l := by
  intro x S e
  cases e
  exact h
theorem no41_c {c : Int} {P : List Int} (h : c ≠ 41) : no41 (c :: P) := by
  intro S e
  cases e
  exact h rfl
theorem top1.le {l m : Int} {P : List Int} (h : top1 P l) (e : l ≤ m) : top1 P m := fun c R z => Int.lt_of_lt_of_le (h c R z) e
section SM
variable (D : Nat) (Q : aPO) (t law : Int) (G : Hp) (N : Int) (en : Int → Int)
def sPst (y : Nat) (o k1 : Int) (x : dX) (P : List Int) (W : List (Int × Int)) : Prop := match y with
  | 0 => gN D Q t G en k1 o P (W ++ x.2.1)
  | y + 1 => ∀ ops W', (∀ c ∈ ops, lo (y + 1) ≤ rk c ∧ rk c ≤ 6) → (ops.length : Int) ≤ lnB (y + 1) o → (3 ≤ y + 1 → ∀ R, cmpd (ops ++ R) = true) → W' ++ ems ops = W ++ x.2.1 → gW D Q t G en k1 (o + nnt ops) (ops ++ P) W'
def sX (y : Nat) (o k k1 : Int) (x : dX) : Prop := k < k1 ∧ ∀ P W, 0 ≤ k → k1 < N → sPre (G 80) y o k P → sPst D Q t G en y o k1 x P W → gB D Q t G en k o P W
end SM
section SM2
variable {D : Nat} {Q : aPO} {t law : Int} {G : Hp} {N : Int} {en : Int → Int}
theorem lo_r {y : Nat} (h : 1 ≤ y) : 1 ≤ lo y := by
  unfold lo
  repeat' split
  all_goals omega
theorem sim (E : rEn t law G N en) {y : Nat} {o k k1 : Int} {x : dX} (d : Der (G 80) (G 82) law y o k k1 x) : sX D Q t G N en y o k k1 x := by
  refine d _ ⟨?_, ?_, ?_, ?_, ?_, ?_, ?_, ?_, ?_, ?_⟩
  · intro o k e h0 h1
    exact ⟨by omega, fun P W k0 kn p g => g_num E (by omega) e h1 g⟩
  · intro o k e1 e2 hl
    exact ⟨by omega, fun P W k0 kn p g => g_nam E (by omega) ⟨e1, e2⟩ hl g⟩
  · -- a bracket
    intro o k k1 x e o8 X e1
    refine ⟨by have := X.1; omega, fun P W k0 kn p g => ?_⟩
    have kk := X.1
    have p1 := p.1
    have lc : ((40 :: P).length : Int) = P.length + 1 := by simp
    refine g_open E (by omega) (Or.inl (Or.inl e)) (by omega) (by omega) (fun _ => ?_) (fun z => by omega)
    rw [show opC (G 80 k) = 40 by rw [e]; decide]
    refine X.2 (40 :: P) W (by omega) (by omega) ⟨⟨by omega, by omega, by omega⟩, fun _ a => absurd a (nask (Or.inr (by decide))), fun z => absurd z (by decide), fun _ => ⟨top1_c (by decide), no41_c (by decide)⟩, fun z => absurd z (by decide), fun z => absurd z (by decide), fun z => absurd z (by decide)⟩ ?_
    intro ops W' h1 h2 h3 h4
    have hr : ∀ c ∈ ops, 1 ≤ rk c := fun c hc => by have e : (5 : Int) ≤ rk c := (h1 c hc).1; omega
    have l2 : (ops.length : Int) ≤ 2 := h2
    have on : opN (ops ++ 40 :: P) = 40 := by rw [opN_app hr]; rfl
    refine g_close E (by omega) (by omega) (Or.inl rfl) ?_ on ?_ hr (by simp; omega) (by omega) ?_
    · unfold btw
      rw [if_neg (by omega), on, if_pos (by decide)]
    · unfold prt
      rw [if_pos rfl, if_pos e1]
    · rw [if_neg (by decide), List.append_nil, h4]
      exact g
  · -- minus, brims
    intro o k k1 x c e o8 X
    refine ⟨by have := X.1; omega, fun P W k0 kn p g => ?_⟩
    have kk := X.1
    have p1 := p.1
    have eo : opn (G 80 k) := by unfold opn; omega
    have ec : opC (G 80 k) = rUn c ∧ (rUn c = 5 ∨ rUn c = 2 ∨ rUn c = 4) := by
      rcases e with e | e <;> rw [e.1, e.2] <;> decide
    have lc : ((rUn c :: P).length : Int) = P.length + 1 := by simp
    have rk7 : rk (rUn c) = 7 := by rcases ec.2 with z | z | z <;> rw [z] <;> decide
    have r40 : rUn c < 40 := by omega
    refine g_open E (by omega) (Or.inl eo) (by omega) (by omega) (fun _ => ?_) (fun z => by omega)
    rw [ec.1]
    refine X.2 (rUn c :: P) W (by omega) (by omega) ⟨⟨by omega, by omega, by omega⟩, fun _ a => absurd a (nask (Or.inl (by omega))), fun z => absurd z (by decide), fun z => absurd z (by decide), fun z => absurd z (by decide), fun z => absurd z (by decide), fun z => absurd z (by decide)⟩ ?_
    refine g_pop E (by omega) ec.2 (by omega) (by omega) ?_
    rw [List.append_assoc]
    exact g
  · -- above
    intro o k k1 k2 x y e o8 X e1 Y
    refine ⟨by have := X.1; have := Y.1; omega, fun P W k0 kn p g => ?_⟩
    have kk := X.1
    have kk2 := Y.1
    have p1 := p.1
    have lc : ((41 :: P).length : Int) = P.length + 1 := by simp
    have lc2 : ((4 :: P).length : Int) = P.length + 1 := by simp
    refine g_open E (by omega) (Or.inl (Or.inr (Or.inr (Or.inl e)))) (by omega) (by omega) (fun _ => ?_) (fun z => by omega)
    rw [show opC (G 80 k) = 41 by rw [e]; decide]
    refine X.2 (41 :: P) W (by omega) (by omega) ⟨⟨by omega, by omega, by omega⟩, fun _ a => absurd a (nask (Or.inr (by decide))), fun z => absurd z (by decide), fun z => absurd z (by decide), fun z => absurd z (by decide), fun z => absurd z (by decide), fun z => absurd z (by decide)⟩ ?_
    refine g_by E (by omega) (by omega) (fun _ => ?_) (fun z => absurd e1 z)
    refine Y.2 (4 :: P) (W ++ x.2.1) (by omega) (by omega) ⟨⟨by omega, by omega, by omega⟩, fun _ a => absurd a (nask (Or.inl (by decide))), fun z => absurd z (by decide), fun z => absurd z (by decide), fun z => absurd z (by decide), fun z => absurd z (by decide), fun z => absurd z (by decide)⟩ ?_
    refine g_pop E (by omega) (by decide) (by omega) (by omega) ?_
    rw [List.append_assoc, List.append_assoc]
    exact g
  · -- if
    intro o k k1 k2 k3 b x y e o8 B e1 X e2 Y e3
    refine ⟨by have := B.1; have := X.1; have := Y.1; omega, fun P W k0 kn p g => ?_⟩
    have kk := B.1
    have kk2 := X.1
    have kk3 := Y.1
    have p1 := p.1
    have lc : ∀ z : Int, ((z :: P).length : Int) = P.length + 1 := fun z => by simp
    refine g_open E (by omega) (Or.inl (Or.inr (Or.inr (Or.inr (Or.inr e))))) (by omega) (by omega) (fun _ => ?_) (fun z => by omega)
    rw [show opC (G 80 k) = 42 by rw [e]; decide]
    refine B.2 (42 :: P) W (by omega) (by omega) ⟨⟨by rw [lc]; omega, by omega, by omega⟩, fun z => absurd z (by decide), fun z => absurd z (by decide), fun z => absurd z (by decide), fun _ => ⟨rfl, Or.inl (by decide)⟩, fun z => absurd z (by decide), fun _ => top1_c (by decide)⟩ ?_
    intro ops W1 h1 h2 h3 h4
    have hr : ∀ c ∈ ops, 1 ≤ rk c := fun c hc => (h1 c hc).1
    have l2 : (ops.length : Int) ≤ 13 - (o + 1) := h2
    have on : opN (ops ++ 42 :: P) = 42 := by rw [opN_app hr]; rfl
    have cm := h3 (by decide) (42 :: P)
    refine g_part (y := 43) E (by omega) (by omega) (Or.inl rfl) (by decide) ?_ on ?_ hr (by simp; omega) (by omega) ?_
    · unfold btw
      rw [if_neg (by omega), on, if_neg (by decide), cm, if_neg (by decide), if_neg (by omega), if_neg (by omega)]
    · unfold prt
      rw [if_neg (by decide), if_pos rfl, if_pos ⟨e1, cm⟩]
    rw [h4]
    refine X.2 (43 :: P) (W ++ b.2.1) (by omega) (by omega) ⟨⟨by rw [lc]; omega, by omega, by omega⟩, fun _ a => absurd a (nask (Or.inr (by decide))), fun z => absurd z (by decide), fun _ => ⟨top1_c (by decide), no41_c (by decide)⟩, fun z => absurd z (by decide), fun z => absurd z (by decide), fun z => absurd z (by decide)⟩ ?_
    intro op2 W2 h1 h2 h3 h4
    have hr : ∀ c ∈ op2, 1 ≤ rk c := fun c hc => by have e : (5 : Int) ≤ rk c := (h1 c hc).1; omega
    have l2 : (op2.length : Int) ≤ 2 := h2
    have on : opN (op2 ++ 43 :: P) = 43 := by rw [opN_app hr]; rfl
    refine g_part (y := 44) E (by omega) (by omega) (Or.inr rfl) (by decide) ?_ on ?_ hr (by simp; omega) (by omega) ?_
    · unfold btw
      rw [if_neg (by omega), on, if_pos (by decide)]
    · unfold prt
      rw [if_neg (by decide), if_neg (by decide), if_pos rfl, if_pos e2]
    rw [h4]
    refine Y.2 (44 :: P) (W ++ b.2.1 ++ x.2.1) (by omega) (by omega) ⟨⟨by rw [lc]; omega, by omega, by omega⟩, fun _ a => absurd a (nask (Or.inr (by decide))), fun z => absurd z (by decide), fun _ => ⟨top1_c (by decide), no41_c (by decide)⟩, fun z => absurd z (by decide), fun z => absurd z (by decide), fun z => absurd z (by decide)⟩ ?_
    intro op3 W3 h1 h2 h3 h4
    have hr : ∀ c ∈ op3, 1 ≤ rk c := fun c hc => by have e : (5 : Int) ≤ rk c := (h1 c hc).1; omega
    have l2 : (op3.length : Int) ≤ 2 := h2
    have on : opN (op3 ++ 44 :: P) = 44 := by rw [opN_app hr]; rfl
    refine g_close E (by omega) (by omega) (Or.inr rfl) ?_ on ?_ hr (by simp; omega) (by omega) ?_
    · unfold btw
      rw [if_neg (by omega), on, if_pos (by decide)]
    · unfold prt
      rw [if_neg (by decide), if_neg (by decide), if_neg (by decide), if_pos rfl, if_pos e3]
    · rw [if_pos rfl, h4]
      simp only [List.append_assoc]
      exact g
  · -- one alone
    intro y o k k1 x hl X
    refine ⟨X.1, fun P W k0 kn p g => ?_⟩
    have kk := X.1
    have p1 := p.1
    rcases hl with e | e | e | e <;> subst e
    · have q := p.2.2.1 rfl
      refine X.2 P W k0 kn ⟨⟨by omega, p1.2⟩, fun _ => p.2.1 (by decide), fun z => absurd z (by decide), fun z => absurd z (by decide), fun z => absurd z (by decide), fun z => absurd z (by decide), fun z => absurd z (by decide)⟩ ?_
      refine g_done (by omega) (q.1.le (by decide)) q.2 ?_
      have r := g [] (W ++ x.2.1) (fun c hc => absurd hc (by simp)) (by show ((0 : Nat) : Int) ≤ 1; decide) (fun z => absurd z (by decide)) (by rw [show ems [] = [] from rfl, List.append_nil])
      rw [show o + nnt [] = o from Int.add_zero o] at r
      exact r
    · have q := p.2.2.2.1 rfl
      refine X.2 P W k0 kn ⟨⟨by omega, p1.2⟩, fun _ => p.2.1 (by decide), fun _ => ⟨q.1.le (by decide), q.2⟩, fun z => absurd z (by decide), fun z => absurd z (by decide), fun z => absurd z (by decide), fun z => absurd z (by decide)⟩ ?_
      intro ops W' h1 h2 h3 h4
      have l2 : (ops.length : Int) ≤ 1 := h2
      exact g ops W' (fun c hc => by have e1 : (6 : Int) ≤ rk c ∧ rk c ≤ 6 := h1 c hc; show (5 : Int) ≤ rk c ∧ rk c ≤ 6; omega) (by show (ops.length : Int) ≤ 2; omega) (fun z => absurd z (by decide)) h4
    · have q := p.2.2.2.2.1 (by decide)
      refine X.2 P W k0 kn ⟨⟨by omega, p1.2⟩, fun z => absurd z (by decide), fun z => absurd z (by decide), fun z => absurd z (by decide), fun _ => q, fun z => absurd z (by decide), fun z => absurd z (by decide)⟩ ?_
      intro ops W' h1 h2 h3 h4
      have l2 : (ops.length : Int) ≤ 11 - o := h2
      exact g ops W' (fun c hc => by have e1 : (3 : Int) ≤ rk c ∧ rk c ≤ 6 := h1 c hc; show (2 : Int) ≤ rk c ∧ rk c ≤ 6; omega) (by show (ops.length : Int) ≤ 12 - o; omega) (fun _ => h3 (by decide)) h4
    · have q := p.2.2.2.2.1 (by decide)
      have q5 := p.2.2.2.2.2.2 rfl
      refine X.2 P W k0 kn ⟨⟨by omega, p1.2⟩, fun z => absurd z (by decide), fun z => absurd z (by decide), fun z => absurd z (by decide), fun _ => q, fun _ => q5.le (by decide), fun z => absurd z (by decide)⟩ ?_
      intro ops W' h1 h2 h3 h4
      have l2 : (ops.length : Int) ≤ 12 - o := h2
      exact g ops W' (fun c hc => by have e1 : (2 : Int) ≤ rk c ∧ rk c ≤ 6 := h1 c hc; show (1 : Int) ≤ rk c ∧ rk c ≤ 6; omega) (by show (ops.length : Int) ≤ 13 - o; omega) (fun _ => h3 (by decide)) h4
  · -- a row of them
    intro y o k k1 k2 x z hc X Z
    refine ⟨by have := X.1; have := Z.1; omega, fun P W k0 kn p g => ?_⟩
    have kk := X.1
    have kk2 := Z.1
    have p1 := p.1
    have lc : ∀ z : Int, ((z :: P).length : Int) = P.length + 1 := fun z => by simp
    refine X.2 P W k0 (by omega) p ?_
    intro ops W' h1 h2 h3 h4
    have hr : ∀ c ∈ ops, 1 ≤ rk c := fun c hx => by have := (h1 c hx).1; have := lo_r (y := y + 1) (by omega); omega
    have on : opN (ops ++ P) = opN P := opN_app hr
    have la : (ops ++ P).length = ops.length + P.length := by simp
    rcases hc with ⟨hy, hc⟩ | ⟨hy, hc⟩ | ⟨hy, hc⟩ | ⟨hy, hc⟩ <;> subst hy
    · have q := p.2.2.1 rfl
      have l2 : (ops.length : Int) ≤ 1 := h2
      have ec : rOp (G 80 k1) = G 80 k1 - 33 := by rcases hc with e | e <;> rw [e] <;> decide
      have rc : rk (rOp (G 80 k1)) = 6 ∧ lvl (rOp (G 80 k1)) = 6 ∧ rOp (G 80 k1) < 40 ∧ rOp (G 80 k1) ≠ 41 ∧ nn1 (rOp (G 80 k1)) = 0 := by rcases hc with e | e <;> rw [e] <;> decide
      refine g_oper (c := rOp (G 80 k1)) E (by omega) (by omega) (by unfold btw; rw [if_pos (by omega), ec]) (by omega) (fun c hx => ?_) (by rw [rc.2.1]; exact q.1) (by omega) (by omega) ?_
      · have := (h1 c hx).1
        have e1 : lo 1 = 6 := rfl
        rw [rc.2.1]
        exact Int.le_trans (by decide) this
      rw [h4]
      refine Z.2 (rOp (G 80 k1) :: P) (W ++ x.2.1) (by omega) (by omega) ⟨⟨by rw [lc]; omega, by omega, by omega⟩, fun _ a => absurd a (nask (Or.inl (by omega))), fun z => absurd z (by decide), fun z => absurd z (by decide), fun z => absurd z (by decide), fun z => absurd z (by decide), fun z => absurd z (by decide)⟩ ?_
      refine g_done (by have := lc (rOp (G 80 k1)); omega) (top1_c (by omega)) (no41_c rc.2.2.2.1) ?_
      have r := g [rOp (G 80 k1)] (W ++ x.2.1 ++ z.2.1) (fun c hx => by rw [List.mem_singleton.mp hx]; show (6 : Int) ≤ _ ∧ _; omega) (by show ((1 : Nat) : Int) ≤ 1; decide) (fun z => absurd z (by decide)) (by
        show W ++ x.2.1 ++ z.2.1 ++ [(rOp (G 80 k1), 0)] = W ++ (x.2.1 ++ (z.2.1 ++ [(rOp (G 80 k1), 0)]))
        simp only [List.append_assoc])
      have en : o + nnt [rOp (G 80 k1)] = o := by
        show o + (nn1 (rOp (G 80 k1)) + 0) = o
        omega
      rw [en] at r
      exact r
    · have q := p.2.2.2.1 rfl
      have l2 : (ops.length : Int) ≤ 2 := h2
      have ec : rOp (G 80 k1) = G 80 k1 - 33 := by rcases hc with e | e <;> rw [e] <;> decide
      have rc : rk (rOp (G 80 k1)) = 5 ∧ lvl (rOp (G 80 k1)) = 5 ∧ rOp (G 80 k1) < 40 ∧ rOp (G 80 k1) ≠ 41 ∧ nn1 (rOp (G 80 k1)) = 0 := by rcases hc with e | e <;> rw [e] <;> decide
      refine g_oper (c := rOp (G 80 k1)) E (by omega) (by omega) (by unfold btw; rw [if_pos (by omega), ec]) (by omega) (fun c hx => ?_) (by rw [rc.2.1]; exact q.1) (by omega) (by omega) ?_
      · have := (h1 c hx).1
        rw [rc.2.1]
        exact Int.le_trans (by decide) this
      rw [h4]
      refine Z.2 (rOp (G 80 k1) :: P) (W ++ x.2.1) (by omega) (by omega) ⟨⟨by rw [lc]; omega, by omega, by omega⟩, fun _ a => absurd a (nask (Or.inl (by omega))), fun _ => ⟨top1_c (by omega), no41_c rc.2.2.2.1⟩, fun z => absurd z (by decide), fun z => absurd z (by decide), fun z => absurd z (by decide), fun z => absurd z (by decide)⟩ ?_
      intro op2 W2 u1 u2 u3 u4
      have l3 : (op2.length : Int) ≤ 1 := u2
      have r := g (op2 ++ [rOp (G 80 k1)]) W2 (fun c hx => ?_) (by show ((op2 ++ [rOp (G 80 k1)]).length : Int) ≤ 2; simp; omega) (fun z => absurd z (by decide)) ?_
      · rw [nnt_app, rc.2.2.2.2, Int.add_zero, List.append_assoc] at r
        exact r
      · show (5 : Int) ≤ rk c ∧ rk c ≤ 6
        rcases List.mem_append.mp hx with v | v
        · have := u1 c v
          have e1 : lo 1 = 6 := rfl
          have e2 : (6 : Int) ≤ rk c := this.1
          omega
        · rw [List.mem_singleton.mp v]
          omega
      · rw [ems_app, ← List.append_assoc, u4]
        show W ++ x.2.1 ++ z.2.1 ++ [(rOp (G 80 k1), 0)] = W ++ (x.2.1 ++ (z.2.1 ++ [(rOp (G 80 k1), 0)]))
        simp only [List.append_assoc]
    · have q := p.2.2.2.2.1 (by decide)
      have q4 := p.2.2.2.2.2.1 rfl
      have ap := q.p
      have l2 : (ops.length : Int) ≤ 12 - o := h2
      have ec : rOp (G 80 k1) = 21 := by rw [hc]; decide
      refine g_oper (c := rOp (G 80 k1)) E (by omega) (by omega) ?_ (by omega) (fun c hx => ?_) (by rw [ec]; exact q4) (by omega) (by omega) ?_
      · unfold btw
        rw [if_neg (by omega), on, if_neg (by rw [ap.1]; decide), h3 (by decide) P, if_neg (by decide), if_pos hc, ec]
      · have := (h1 c hx).1
        rw [ec]
        exact Int.le_trans (by decide) this
      rw [h4]
      refine Z.2 (rOp (G 80 k1) :: P) (W ++ x.2.1) (by omega) (by omega) ⟨⟨by rw [lc]; omega, by omega, by omega⟩, fun z => absurd z (by decide), fun z => absurd z (by decide), fun z => absurd z (by decide), fun _ => ⟨?_, Or.inr (by rw [ec]; decide)⟩, fun z => absurd z (by decide), fun z => absurd z (by decide)⟩ ?_
      · rw [ec]
        exact ap.1
      intro op2 W2 u1 u2 u3 u4
      have l3 : (op2.length : Int) ≤ 11 - o := u2
      have r := g (op2 ++ [rOp (G 80 k1)]) W2 (fun c hx => ?_) (by show ((op2 ++ [rOp (G 80 k1)]).length : Int) ≤ 12 - o; simp; omega) (fun _ R => ?_) ?_
      · rw [nnt_app, show nn1 (rOp (G 80 k1)) = 0 by rw [ec]; decide, Int.add_zero, List.append_assoc] at r
        exact r
      · show (2 : Int) ≤ rk c ∧ rk c ≤ 6
        rcases List.mem_append.mp hx with v | v
        · have := u1 c v
          have e2 : (3 : Int) ≤ rk c := this.1
          omega
        · rw [List.mem_singleton.mp v, ec]
          decide
      · rw [List.append_assoc]
        exact u3 (by decide) _
      · rw [ems_app, ← List.append_assoc, u4]
        show W ++ x.2.1 ++ z.2.1 ++ [(rOp (G 80 k1), 0)] = W ++ (x.2.1 ++ (z.2.1 ++ [(rOp (G 80 k1), 0)]))
        simp only [List.append_assoc]
    · have q := p.2.2.2.2.1 (by decide)
      have q4 := p.2.2.2.2.2.2 rfl
      have ap := q.p
      have l2 : (ops.length : Int) ≤ 13 - o := h2
      have ec : rOp (G 80 k1) = 22 := by rw [hc]; decide
      refine g_oper (c := rOp (G 80 k1)) E (by omega) (by omega) ?_ (by omega) (fun c hx => ?_) (by rw [ec]; exact q4) (by omega) (by omega) ?_
      · unfold btw
        rw [if_neg (by omega), on, if_neg (by rw [ap.1]; decide), h3 (by decide) P, if_neg (by decide), if_neg (by omega), if_pos hc, ec]
      · have := (h1 c hx).1
        rw [ec]
        exact Int.le_trans (by decide) this
      rw [h4]
      refine Z.2 (rOp (G 80 k1) :: P) (W ++ x.2.1) (by omega) (by omega) ⟨⟨by rw [lc]; omega, by omega, by omega⟩, fun z => absurd z (by decide), fun z => absurd z (by decide), fun z => absurd z (by decide), fun _ => ⟨?_, Or.inr (by rw [ec]; decide)⟩, fun _ => top1_c (by rw [ec]; decide), fun z => absurd z (by decide)⟩ ?_
      · rw [ec]
        exact ap.1
      intro op2 W2 u1 u2 u3 u4
      have l3 : (op2.length : Int) ≤ 12 - o := u2
      have r := g (op2 ++ [rOp (G 80 k1)]) W2 (fun c hx => ?_) (by show ((op2 ++ [rOp (G 80 k1)]).length : Int) ≤ 13 - o; simp; omega) (fun _ R => ?_) ?_
      · rw [nnt_app, show nn1 (rOp (G 80 k1)) = 0 by rw [ec]; decide, Int.add_zero, List.append_assoc] at r
        exact r
      · show (1 : Int) ≤ rk c ∧ rk c ≤ 6
        rcases List.mem_append.mp hx with v | v
        · have := u1 c v
          have e2 : (2 : Int) ≤ rk c := this.1
          omega
        · rw [List.mem_singleton.mp v, ec]
          decide
      · rw [List.append_assoc]
        exact u3 (by decide) _
      · rw [ems_app, ← List.append_assoc, u4]
        show W ++ x.2.1 ++ z.2.1 ++ [(rOp (G 80 k1), 0)] = W ++ (x.2.1 ++ (z.2.1 ++ [(rOp (G 80 k1), 0)]))
        simp only [List.append_assoc]
  · -- not
    intro o k k1 b e o8 X
    refine ⟨by have := X.1; omega, fun P W k0 kn p g => ?_⟩
    have kk := X.1
    have p1 := p.1
    have q := p.2.2.2.2.1 (by decide)
    have ap := q.p
    have lc : ((20 :: P).length : Int) = P.length + 1 := by simp
    refine g_open E (by omega) (Or.inr ⟨e, q⟩) (by omega) (by omega) (fun _ => ?_) (fun z => by omega)
    rw [show opC (G 80 k) = 20 by rw [e]; decide]
    refine X.2 (20 :: P) W (by omega) (by omega) ⟨⟨by rw [lc]; omega, by omega, by omega⟩, fun z => absurd z (by decide), fun z => absurd z (by decide), fun z => absurd z (by decide), fun _ => ⟨ap.1, Or.inr (by decide)⟩, fun z => absurd z (by decide), fun z => absurd z (by decide)⟩ ?_
    intro ops W' u1 u2 u3 u4
    have l3 : (ops.length : Int) ≤ 11 - (o + 1) := u2
    have r := g (ops ++ [20]) W' (fun c hx => ?_) (by show ((ops ++ [20]).length : Int) ≤ 11 - o; simp; omega) (fun _ R => ?_) ?_
    · rw [nnt_app, show nn1 20 = 1 by decide, List.append_assoc, show o + (nnt ops + 1) = o + 1 + nnt ops by omega] at r
      exact r
    · show (3 : Int) ≤ rk c ∧ rk c ≤ 6
      rcases List.mem_append.mp hx with v | v
      · exact u1 c v
      · rw [List.mem_singleton.mp v]
        decide
    · rw [List.append_assoc]
      exact u3 (by decide) _
    · rw [ems_app, ← List.append_assoc, u4]
      show W ++ b.2.1 ++ [(20, 0)] = W ++ (b.2.1 ++ [(20, 0)])
      simp only [List.append_assoc]
  · -- a comparison
    intro o k k1 k2 x z e X e1 e2 Z
    refine ⟨by have := X.1; have := Z.1; omega, fun P W k0 kn p g => ?_⟩
    have kk := X.1
    have kk2 := Z.1
    have p1 := p.1
    have q := p.2.2.2.2.1 (by decide)
    have ap := q.p
    have lc : ∀ z : Int, ((z :: P).length : Int) = P.length + 1 := fun z => by simp
    have ec : rOp (G 80 k1) = G 80 k1 - 23 ∧ rk (rOp (G 80 k1)) = 4 ∧ lvl (rOp (G 80 k1)) = 5 ∧ nn1 (rOp (G 80 k1)) = 0 := by
      have : G 80 k1 = 33 ∨ G 80 k1 = 34 ∨ G 80 k1 = 35 ∨ G 80 k1 = 36 ∨ G 80 k1 = 37 ∨ G 80 k1 = 38 := by omega
      rcases this with v | v | v | v | v | v <;> rw [v] <;> decide
    refine X.2 P W k0 (by omega) ⟨⟨by omega, p1.2⟩, fun _ _ => e, fun z => absurd z (by decide), fun _ => ⟨ap.2.2.1, ap.2.2.2⟩, fun z => absurd z (by decide), fun z => absurd z (by decide), fun z => absurd z (by decide)⟩ ?_
    intro ops W' h1 h2 h3 h4
    have h5 : ∀ c ∈ ops, 5 ≤ rk c := fun c hx => (h1 c hx).1
    have on : opN (ops ++ P) = 42 := by rw [opN_app (fun c hx => by have := h5 c hx; omega)]; exact ap.1
    have cm : cmpd (ops ++ P) = false := by rw [cmpd_app h5]; exact ap.2.1
    have l2 : (ops.length : Int) ≤ 2 := h2
    have la : (ops ++ P).length = ops.length + P.length := by simp
    refine g_oper (c := rOp (G 80 k1)) E (by omega) (by omega) ?_ (by omega) (fun c hx => by rw [ec.2.2.1]; exact h5 c hx) (by rw [ec.2.2.1]; exact ap.2.2.1) (by omega) (by omega) ?_
    · unfold btw
      rw [if_neg (by omega), on, if_neg (by decide), if_pos cm, if_pos ⟨e1, e2⟩, ec.1]
    rw [h4]
    refine Z.2 (rOp (G 80 k1) :: P) (W ++ x.2.1) (by omega) (by omega) ⟨⟨by rw [lc]; omega, by omega, by omega⟩, fun _ a => absurd a (nask (Or.inl (by omega))), fun z => absurd z (by decide), fun _ => ⟨top1_c (by omega), no41_c (by omega)⟩, fun z => absurd z (by decide), fun z => absurd z (by decide), fun z => absurd z (by decide)⟩ ?_
    intro op2 W2 u1 u2 u3 u4
    have l3 : (op2.length : Int) ≤ 2 := u2
    have r := g (op2 ++ [rOp (G 80 k1)]) W2 (fun c hx => ?_) (by show ((op2 ++ [rOp (G 80 k1)]).length : Int) ≤ 11 - o; simp; omega) (fun _ R => ?_) ?_
    · rw [nnt_app, ec.2.2.2, Int.add_zero, List.append_assoc] at r
      exact r
    · show (3 : Int) ≤ rk c ∧ rk c ≤ 6
      rcases List.mem_append.mp hx with v | v
      · have := u1 c v
        have e2 : (5 : Int) ≤ rk c := this.1
        omega
      · rw [List.mem_singleton.mp v]
        omega
    · rw [List.append_assoc, cmpd_app (fun c hx => (u1 c hx).1)]
      show (if 4 < rk (rOp (G 80 k1)) then cmpd R else decide (rk (rOp (G 80 k1)) = 4)) = true
      rw [if_neg (by omega)]
      exact decide_eq_true ec.2.1
    · rw [ems_app, ← List.append_assoc, u4]
      show W ++ x.2.1 ++ z.2.1 ++ [(rOp (G 80 k1), 0)] = W ++ (x.2.1 ++ (z.2.1 ++ [(rOp (G 80 k1), 0)]))
      simp only [List.append_assoc]
end SM2
