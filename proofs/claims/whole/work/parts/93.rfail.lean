/-! TEXTS: the reference finds the same fault -/
section FM
variable {D : Nat} {Q : aPO} {t law : Int} {G : Hp} {N : Int} {en : Int → Int} {o k k1 k2 k3 : Int} {P : List Int} {W : List (Int × Int)} {x b z : dX}
theorem pre_two (c : Int) (p : (P.length : Int) ≤ 6 * o + 5 ∧ 0 ≤ o ∧ o ≤ 8) (o8 : o < 8) (hc : c = 40 ∨ c = 43 ∨ c = 44) {cd : Int → Int} : sPre cd 2 (o + 1) k (c :: P) := by
  have lc : ((c :: P).length : Int) = P.length + 1 := by simp
  have rc : rk c = 0 := by rcases hc with e | e | e <;> rw [e] <;> decide
  exact ⟨⟨by omega, by omega, by omega⟩, fun _ a => absurd a (nask (Or.inr (by omega))), fun z => absurd z (by decide), fun _ => ⟨top1_c (by omega), no41_c (by omega)⟩, fun z => absurd z (by decide), fun z => absurd z (by decide), fun z => absurd z (by decide)⟩
theorem pre_zero (c : Int) (p : (P.length : Int) ≤ 6 * o + 5 ∧ 0 ≤ o ∧ o ≤ 8) (o8 : o < 8) (hc : c = 41 ∨ c = 5 ∨ c = 2 ∨ c = 4) {cd : Int → Int} : sPre cd 0 (o + 1) k (c :: P) := by
  have lc : ((c :: P).length : Int) = P.length + 1 := by simp
  refine ⟨⟨by omega, by omega, by omega⟩, fun _ a => absurd a (nask ?_), fun z => absurd z (by decide), fun z => absurd z (by decide), fun z => absurd z (by decide), fun z => absurd z (by decide), fun z => absurd z (by decide)⟩
  rcases hc with e | e | e | e <;> subst e
  · exact Or.inr (by decide)
  · exact Or.inl (by decide)
  · exact Or.inl (by decide)
  · exact Or.inl (by decide)
theorem pre_five (p : (P.length : Int) ≤ 6 * o + 5 ∧ 0 ≤ o ∧ o ≤ 8) (o8 : o < 8) {cd : Int → Int} : sPre cd 5 (o + 1) k (42 :: P) := by
  have lc : ((42 :: P).length : Int) = P.length + 1 := by simp
  exact ⟨⟨by omega, by omega, by omega⟩, fun z => absurd z (by decide), fun z => absurd z (by decide), fun z => absurd z (by decide), fun _ => ⟨rfl, Or.inl (by decide)⟩, fun z => absurd z (by decide), fun _ => top1_c (by decide)⟩
theorem pre_chn {y : Nat} {c : Int} {cd : Int → Int} (hc : chn y c) (p : sPre cd (y + 1) o k P) : sPre cd y o k1 (rOp c :: P) := by
  have lc : ((rOp c :: P).length : Int) = P.length + 1 := by simp
  have p1 := p.1
  rcases hc with ⟨hy, hc⟩ | ⟨hy, hc⟩ | ⟨hy, hc⟩ | ⟨hy, hc⟩ <;> subst hy
  · have rc : rk (rOp c) = 6 ∧ rOp c < 40 := by rcases hc with e | e <;> rw [e] <;> decide
    exact ⟨⟨by omega, by omega, by omega⟩, fun _ a => absurd a (nask (Or.inl (by omega))), fun z => absurd z (by decide), fun z => absurd z (by decide), fun z => absurd z (by decide), fun z => absurd z (by decide), fun z => absurd z (by decide)⟩
  · have rc : rk (rOp c) = 5 ∧ rOp c < 40 := by rcases hc with e | e <;> rw [e] <;> decide
    exact ⟨⟨by omega, by omega, by omega⟩, fun _ a => absurd a (nask (Or.inl (by omega))), fun _ => ⟨top1_c (by omega), no41_c (by omega)⟩, fun z => absurd z (by decide), fun z => absurd z (by decide), fun z => absurd z (by decide), fun z => absurd z (by decide)⟩
  · have ec : rOp c = 21 := by rw [hc]; decide
    have ap := (p.2.2.2.2.1 (by decide)).p
    exact ⟨⟨by omega, by omega, by omega⟩, fun z => absurd z (by decide), fun z => absurd z (by decide), fun z => absurd z (by decide), fun _ => ⟨by rw [ec]; exact ap.1, Or.inr (by rw [ec]; decide)⟩, fun z => absurd z (by decide), fun z => absurd z (by decide)⟩
  · have ec : rOp c = 22 := by rw [hc]; decide
    have ap := (p.2.2.2.2.1 (by decide)).p
    exact ⟨⟨by omega, by omega, by omega⟩, fun z => absurd z (by decide), fun z => absurd z (by decide), fun z => absurd z (by decide), fun _ => ⟨by rw [ec]; exact ap.1, Or.inr (by rw [ec]; decide)⟩, fun _ => top1_c (by rw [ec]; decide), fun z => absurd z (by decide)⟩
theorem pre_lif {y : Nat} {cd : Int → Int} (hl : lft y) (p : sPre cd (y + 1) o k P) : sPre cd y o k P := by
  have p1 := p.1
  rcases hl with e | e | e | e <;> subst e
  · exact ⟨⟨by omega, p1.2⟩, fun _ => p.2.1 (by decide), fun z => absurd z (by decide), fun z => absurd z (by decide), fun z => absurd z (by decide), fun z => absurd z (by decide), fun z => absurd z (by decide)⟩
  · have q := p.2.2.2.1 rfl
    exact ⟨⟨by omega, p1.2⟩, fun _ => p.2.1 (by decide), fun _ => ⟨q.1.le (by decide), q.2⟩, fun z => absurd z (by decide), fun z => absurd z (by decide), fun z => absurd z (by decide), fun z => absurd z (by decide)⟩
  · exact ⟨⟨by omega, p1.2⟩, fun z => absurd z (by decide), fun z => absurd z (by decide), fun z => absurd z (by decide), fun _ => p.2.2.2.2.1 (by decide), fun z => absurd z (by decide), fun z => absurd z (by decide)⟩
  · exact ⟨⟨by omega, p1.2⟩, fun z => absurd z (by decide), fun z => absurd z (by decide), fun z => absurd z (by decide), fun _ => p.2.2.2.2.1 (by decide), fun _ => (p.2.2.2.2.2.2 rfl).le (by decide), fun z => absurd z (by decide)⟩
/-- a sum within c ends at k1, and c can't go on there -/
theorem stuck2 (c : Int) (hc : c = 40 ∨ c = 43 ∨ c = 44) (p : (P.length : Int) ≤ 6 * o + 5 ∧ 0 ≤ o ∧ o ≤ 8) (hq : cpl 2 (G 80 k1)) (hn : G 80 k1 ≠ (if c = 40 then 44 else if c = 43 then 27 else 28)) (g : gF Q t G en 1 k1) : sPst D Q t G en 2 (o + 1) k1 x (c :: P) W := by
  intro ops W' h1 h2 h3 h4
  have hr : ∀ z ∈ ops, 1 ≤ rk z := fun z hz => by have := (h1 z hz).1; have e : (5 : Int) ≤ rk z := this; omega
  have l2 : (ops.length : Int) ≤ 2 := h2
  have on : opN (ops ++ c :: P) = c := by
    rw [opN_app hr]
    show (if 40 ≤ c then c else opN P) = c
    rw [if_pos (by omega)]
  unfold cpl at hq
  refine g_stuck (by simp; omega) ?_ ?_ (by rw [on]; omega) g
  · unfold btw
    rw [if_neg (by omega), on, if_pos (by omega)]
  · rw [on]
    unfold prt
    rcases hc with e | e | e <;> subst e
    · rw [if_pos rfl] at hn
      rw [if_pos rfl, if_neg hn]
    · rw [if_neg (by decide), if_pos rfl] at hn
      rw [if_neg (by decide), if_neg (by decide), if_pos rfl, if_neg hn]
    · rw [if_neg (by decide), if_neg (by decide)] at hn
      rw [if_neg (by decide), if_neg (by decide), if_neg (by decide), if_pos rfl, if_neg hn]
theorem goThen (E : rEn t law G N en) (k0 : 0 ≤ k) (e : G 80 k = 25) (o8 : o < 8) (p : (P.length : Int) ≤ 6 * o + 5 ∧ 0 ≤ o ∧ o ≤ 8) (B : sX D Q t G N en 5 (o + 1) (k + 1) k1 b) (e1 : G 80 k1 = 26) (kn : k1 < N) (g : gB D Q t G en (k1 + 1) (o + 1) (43 :: P) (W ++ b.2.1)) : gB D Q t G en k o P W := by
  have kk := B.1
  refine g_open E (by omega) (Or.inl (Or.inr (Or.inr (Or.inr (Or.inr e))))) (by omega) (by omega) (fun _ => ?_) (fun z => by omega)
  rw [show opC (G 80 k) = 42 by rw [e]; decide]
  refine B.2 (42 :: P) W (by omega) (by omega) (pre_five p o8) ?_
  intro ops W1 h1 h2 h3 h4
  have hr : ∀ c ∈ ops, 1 ≤ rk c := fun c hc => (h1 c hc).1
  have l2 : (ops.length : Int) ≤ 13 - (o + 1) := h2
  have on : opN (ops ++ 42 :: P) = 42 := by rw [opN_app hr]; rfl
  have cm := h3 (by decide) (42 :: P)
  refine g_part (y := 43) E (by omega) (by omega) (Or.inl rfl) (by decide) ?_ on ?_ hr (by simp; omega) (by omega) ?_
  · unfold btw
    rw [if_neg (by omega), on, if_neg (by decide), cm, if_neg (by decide), if_neg (by omega), if_neg (by omega)]
  · unfold prt
    rw [if_neg (by decide), if_pos rfl, if_pos ⟨e1, cm⟩]
  rw [h4]
  exact g
theorem goElse (E : rEn t law G N en) (k0 : 0 ≤ k) (e : G 80 k = 25) (o8 : o < 8) (p : (P.length : Int) ≤ 6 * o + 5 ∧ 0 ≤ o ∧ o ≤ 8) (B : sX D Q t G N en 5 (o + 1) (k + 1) k1 b) (e1 : G 80 k1 = 26) (X : sX D Q t G N en 2 (o + 1) (k1 + 1) k2 x) (e2 : G 80 k2 = 27) (kn : k2 < N) (g : gB D Q t G en (k2 + 1) (o + 1) (44 :: P) (W ++ b.2.1 ++ x.2.1)) : gB D Q t G en k o P W := by
  have kk := B.1
  have kk2 := X.1
  refine goThen E k0 e o8 p B e1 (by omega) ?_
  refine X.2 (43 :: P) (W ++ b.2.1) (by omega) (by omega) (pre_two 43 p o8 (by decide)) ?_
  intro op2 W2 h1 h2 h3 h4
  have hr : ∀ c ∈ op2, 1 ≤ rk c := fun c hc => by have e : (5 : Int) ≤ rk c := (h1 c hc).1; omega
  have l2 : (op2.length : Int) ≤ 2 := h2
  have on : opN (op2 ++ 43 :: P) = 43 := by rw [opN_app hr]; rfl
  refine g_part (y := 44) E (by omega) (by omega) (Or.inr rfl) (by decide) ?_ on ?_ hr (by simp; omega) (by omega) ?_
  · unfold btw
    rw [if_neg (by omega), on, if_pos (by decide)]
  · unfold prt
    rw [if_neg (by decide), if_neg (by decide), if_pos rfl, if_pos e2]
  rw [h4]
  exact g
theorem goChn {y : Nat} (E : rEn t law G N en) (k0 : 0 ≤ k) (hc : chn y (G 80 k1)) (p : sPre (G 80) (y + 1) o k P) (X : sX D Q t G N en (y + 1) o k k1 x) (kn : k1 < N) (g : gB D Q t G en (k1 + 1) o (rOp (G 80 k1) :: P) (W ++ x.2.1)) : gB D Q t G en k o P W := by
  have kk := X.1
  have p1 := p.1
  refine X.2 P W k0 kn p ?_
  intro ops W' h1 h2 h3 h4
  have hr : ∀ c ∈ ops, 1 ≤ rk c := fun c hx => by have := (h1 c hx).1; have := lo_r (y := y + 1) (by omega); omega
  have on : opN (ops ++ P) = opN P := opN_app hr
  have la : (ops ++ P).length = ops.length + P.length := by simp
  rcases hc with ⟨hy, hc⟩ | ⟨hy, hc⟩ | ⟨hy, hc⟩ | ⟨hy, hc⟩ <;> subst hy
  · have q := p.2.2.1 rfl
    have l2 : (ops.length : Int) ≤ 1 := h2
    have ec : rOp (G 80 k1) = G 80 k1 - 33 := by rcases hc with e | e <;> rw [e] <;> decide
    have rc : lvl (rOp (G 80 k1)) = 6 := by rcases hc with e | e <;> rw [e] <;> decide
    refine g_oper (c := rOp (G 80 k1)) E (by omega) (by omega) (by unfold btw; rw [if_pos (by omega), ec]) (by omega) (fun c hx => by rw [rc]; exact (h1 c hx).1) (by rw [rc]; exact q.1) (by omega) (by omega) ?_
    rw [h4]
    exact g
  · have q := p.2.2.2.1 rfl
    have l2 : (ops.length : Int) ≤ 2 := h2
    have ec : rOp (G 80 k1) = G 80 k1 - 33 := by rcases hc with e | e <;> rw [e] <;> decide
    have rc : lvl (rOp (G 80 k1)) = 5 := by rcases hc with e | e <;> rw [e] <;> decide
    refine g_oper (c := rOp (G 80 k1)) E (by omega) (by omega) (by unfold btw; rw [if_pos (by omega), ec]) (by omega) (fun c hx => by rw [rc]; exact (h1 c hx).1) (by rw [rc]; exact q.1) (by omega) (by omega) ?_
    rw [h4]
    exact g
  · have q := p.2.2.2.2.1 (by decide)
    have q4 := p.2.2.2.2.2.1 rfl
    have ap := q.p
    have l2 : (ops.length : Int) ≤ 12 - o := h2
    have ec : rOp (G 80 k1) = 21 := by rw [hc]; decide
    refine g_oper (c := rOp (G 80 k1)) E (by omega) (by omega) ?_ (by omega) (fun c hx => by rw [ec]; exact (h1 c hx).1) (by rw [ec]; exact q4) (by omega) (by omega) ?_
    · unfold btw
      rw [if_neg (by omega), on, if_neg (by rw [ap.1]; decide), h3 (by decide) P, if_neg (by decide), if_pos hc, ec]
    rw [h4]
    exact g
  · have q := p.2.2.2.2.1 (by decide)
    have q4 := p.2.2.2.2.2.2 rfl
    have ap := q.p
    have l2 : (ops.length : Int) ≤ 13 - o := h2
    have ec : rOp (G 80 k1) = 22 := by rw [hc]; decide
    refine g_oper (c := rOp (G 80 k1)) E (by omega) (by omega) ?_ (by omega) (fun c hx => by rw [ec]; exact (h1 c hx).1) (by rw [ec]; exact q4) (by omega) (by omega) ?_
    · unfold btw
      rw [if_neg (by omega), on, if_neg (by rw [ap.1]; decide), h3 (by decide) P, if_neg (by decide), if_neg (by omega), if_pos hc, ec]
    rw [h4]
    exact g
theorem pre_ask (p : sPre (G 80) 3 o k P) (e : G 80 k ≠ 31) : sPre (G 80) 2 o k P := by
  have p1 := p.1
  have ap := (p.2.2.2.2.1 (by decide)).p
  exact ⟨⟨by omega, p1.2⟩, fun _ _ => e, fun z => absurd z (by decide), fun _ => ⟨ap.2.2.1, ap.2.2.2⟩, fun z => absurd z (by decide), fun z => absurd z (by decide), fun z => absurd z (by decide)⟩
def fX (D : Nat) (Q : aPO) (t : Int) (G : Hp) (N : Int) (en : Int → Int) (y : Nat) (o k f kf : Int) : Prop := k ≤ kf ∧ ∀ P W, 0 ≤ k → kf < N → sPre (G 80) y o k P → gF Q t G en f kf → gB D Q t G en k o P W
theorem simF (E : rEn t law G N en) {y : Nat} {f kf : Int} (d : Fl (G 80) (G 82) law y o k f kf) : fX D Q t G N en y o k f kf := by
  refine d _ ⟨?_, ?_, ?_, ?_, ?_, ?_, ?_, ?_, ?_, ?_, ?_, ?_, ?_, ?_, ?_⟩
  · intro o k f h
    refine ⟨Int.le_refl _, fun P W k0 kn p g => ?_⟩
    have p1 := p.1
    rcases h with h | h | h | h
    · obtain ⟨e, hv, ef⟩ := h
      subst ef
      exact g_num2 ⟨k0, kn⟩ e hv g
    · obtain ⟨e1, e2, hl, e3, ef⟩ := h
      subst ef
      exact g_nam5 E ⟨k0, kn⟩ ⟨e1, e2⟩ ⟨hl, e3⟩ g
    · obtain ⟨hw, h8, ef⟩ := h
      subst ef
      exact g_open E ⟨k0, kn⟩ (Or.inl hw) (by omega) (by omega) (fun z => by omega) (fun _ => g)
    · obtain ⟨e1, e2, e3, ef⟩ := h
      subst ef
      exact g_bad E ⟨k0, kn⟩ ⟨e1, e2, e3⟩ (p.2.1 (by decide)) (by omega) g
  · intro o k f kf hw o8 Y
    refine ⟨by have := Y.1; omega, fun P W k0 kn p g => ?_⟩
    have kk := Y.1
    have p1 := p.1
    refine g_open E (by omega) (Or.inl hw) (by omega) (by omega) (fun _ => ?_) (fun z => by omega)
    refine Y.2 _ W (by omega) kn ?_ g
    rcases hw with e | e | e | e | e <;> rw [e]
    · exact pre_two 40 p1 o8 (by decide)
    · exact pre_zero 5 p1 o8 (by decide)
    · exact pre_zero 41 p1 o8 (by decide)
    · exact pre_zero 2 p1 o8 (by decide)
    · exact pre_five p1 o8
  · intro o k k1 x hw o8 d hq hn
    have X := sim (D := D) (Q := Q) E d
    refine ⟨by have := X.1; omega, fun P W k0 kn p g => ?_⟩
    have kk := X.1
    have p1 := p.1
    have hw' : opn (G 80 k) := by unfold opn; omega
    refine g_open E (by omega) (Or.inl hw') (by omega) (by omega) (fun _ => ?_) (fun z => by omega)
    rcases hw with e | e | e <;> rw [e] at X hq hn ⊢
    · exact X.2 (40 :: P) W (by omega) kn (pre_two 40 p1 o8 (by decide)) (stuck2 40 (by decide) p1 hq hn g)
    · refine X.2 (41 :: P) W (by omega) kn (pre_zero 41 p1 o8 (by decide)) ?_
      exact g_by E (by omega) (by omega) (fun z => absurd z hn) (fun _ => g)
    · refine X.2 (42 :: P) W (by omega) kn (pre_five p1 o8) ?_
      intro ops W1 h1 h2 h3 h4
      have hr : ∀ c ∈ ops, 1 ≤ rk c := fun c hc => (h1 c hc).1
      have l2 : (ops.length : Int) ≤ 13 - (o + 1) := h2
      have on : opN (ops ++ 42 :: P) = 42 := by rw [opN_app hr]; rfl
      have cm := h3 (by decide) (42 :: P)
      have hq' : cpl 5 (G 80 k1) := hq
      have hn' : G 80 k1 ≠ 26 := hn
      unfold cpl at hq'
      refine g_stuck (by simp; omega) ?_ ?_ (by rw [on]; decide) g
      · unfold btw
        rw [if_neg (by omega), on, if_neg (by decide), cm, if_neg (by decide), if_neg (by omega), if_neg (by omega)]
      · rw [on]
        unfold prt
        rw [if_neg (by decide), if_pos rfl, if_neg (fun z => hn' z.1)]
  · intro o k k1 x f kf e o8 d e1 Y
    have X := sim (D := D) (Q := Q) E d
    refine ⟨by have := X.1; have := Y.1; omega, fun P W k0 kn p g => ?_⟩
    have kk := X.1
    have kk2 := Y.1
    have p1 := p.1
    refine g_open E (by omega) (Or.inl (Or.inr (Or.inr (Or.inl e)))) (by omega) (by omega) (fun _ => ?_) (fun z => by omega)
    rw [show opC (G 80 k) = 41 by rw [e]; decide]
    refine X.2 (41 :: P) W (by omega) (by omega) (pre_zero 41 p1 o8 (by decide)) ?_
    refine g_by E (by omega) (by omega) (fun _ => ?_) (fun z => absurd e1 z)
    exact Y.2 (4 :: P) _ (by omega) kn (pre_zero 4 p1 o8 (by decide)) g
  · intro o k k1 b f kf e o8 d e1 Y
    have X := sim (D := D) (Q := Q) E d
    refine ⟨by have := X.1; have := Y.1; omega, fun P W k0 kn p g => ?_⟩
    have kk := X.1
    have kk2 := Y.1
    exact goThen E k0 e o8 p.1 X e1 (by omega) (Y.2 (43 :: P) _ (by omega) kn (pre_two 43 p.1 o8 (by decide)) g)
  · intro o k k1 k2 b x e o8 d e1 d2 hq hn
    have B := sim (D := D) (Q := Q) E d
    have X := sim (D := D) (Q := Q) E d2
    refine ⟨by have := X.1; have := B.1; omega, fun P W k0 kn p g => ?_⟩
    have kk := X.1
    have kk2 := B.1
    exact goThen E k0 e o8 p.1 B e1 (by omega) (X.2 (43 :: P) _ (by omega) kn (pre_two 43 p.1 o8 (by decide)) (stuck2 43 (by decide) p.1 hq hn g))
  · intro o k k1 k2 b x f kf e o8 d e1 d2 e2 Y
    have B := sim (D := D) (Q := Q) E d
    have X := sim (D := D) (Q := Q) E d2
    refine ⟨by have := X.1; have := B.1; have := Y.1; omega, fun P W k0 kn p g => ?_⟩
    have kk := X.1
    have kk2 := B.1
    have kk3 := Y.1
    exact goElse E k0 e o8 p.1 B e1 X e2 (by omega) (Y.2 (44 :: P) _ (by omega) kn (pre_two 44 p.1 o8 (by decide)) g)
  · intro o k k1 k2 k3 b x y e o8 d e1 d2 e2 d3 hq hn
    have B := sim (D := D) (Q := Q) E d
    have X := sim (D := D) (Q := Q) E d2
    have Y := sim (D := D) (Q := Q) E d3
    refine ⟨by have := X.1; have := B.1; have := Y.1; omega, fun P W k0 kn p g => ?_⟩
    have kk := X.1
    have kk2 := B.1
    have kk3 := Y.1
    exact goElse E k0 e o8 p.1 B e1 X e2 (by omega) (Y.2 (44 :: P) _ (by omega) kn (pre_two 44 p.1 o8 (by decide)) (stuck2 44 (by decide) p.1 hq hn g))
  · intro y o k f kf hl Y
    exact ⟨Y.1, fun P W k0 kn p g => Y.2 P W k0 kn (pre_lif hl p) g⟩
  · intro y o k k1 x f kf hc d Y
    have X := sim (D := D) (Q := Q) E d
    refine ⟨by have := X.1; have := Y.1; omega, fun P W k0 kn p g => ?_⟩
    have kk := X.1
    have kk2 := Y.1
    exact goChn E k0 hc p X (by omega) (Y.2 _ _ (by omega) kn (pre_chn hc p) g)
  · intro o k e h8
    refine ⟨Int.le_refl _, fun P W k0 kn p g => ?_⟩
    have p1 := p.1
    exact g_open E ⟨k0, kn⟩ (Or.inr ⟨e, p.2.2.2.2.1 (by decide)⟩) (by omega) (by omega) (fun z => by omega) (fun _ => g)
  · intro o k f kf e o8 Y
    refine ⟨by have := Y.1; omega, fun P W k0 kn p g => ?_⟩
    have kk := Y.1
    have p1 := p.1
    have q := p.2.2.2.2.1 (by decide)
    have lc : ((20 :: P).length : Int) = P.length + 1 := by simp
    refine g_open E (by omega) (Or.inr ⟨e, q⟩) (by omega) (by omega) (fun _ => ?_) (fun z => by omega)
    rw [show opC (G 80 k) = 20 by rw [e]; decide]
    exact Y.2 (20 :: P) W (by omega) kn ⟨⟨by omega, by omega, by omega⟩, fun z => absurd z (by decide), fun z => absurd z (by decide), fun z => absurd z (by decide), fun _ => ⟨q.p.1, Or.inr (by decide)⟩, fun z => absurd z (by decide), fun z => absurd z (by decide)⟩ g
  · intro o k f kf e Y
    exact ⟨Y.1, fun P W k0 kn p g => Y.2 P W k0 kn (pre_ask p e) g⟩
  · intro o k k1 x e d hq hn
    have X := sim (D := D) (Q := Q) E d
    refine ⟨by have := X.1; omega, fun P W k0 kn p g => ?_⟩
    have kk := X.1
    have p1 := p.1
    have ap := (p.2.2.2.2.1 (by decide)).p
    refine X.2 P W k0 kn (pre_ask p e) ?_
    intro ops W' h1 h2 h3 h4
    have h5 : ∀ c ∈ ops, 5 ≤ rk c := fun c hx => (h1 c hx).1
    have on : opN (ops ++ P) = 42 := by rw [opN_app (fun c hx => by have := h5 c hx; omega)]; exact ap.1
    have cm : cmpd (ops ++ P) = false := by rw [cmpd_app h5]; exact ap.2.1
    have l2 : (ops.length : Int) ≤ 2 := h2
    have la : (ops ++ P).length = ops.length + P.length := by simp
    unfold cpl at hq
    refine g_stuck (by omega) ?_ ?_ (by rw [on]; decide) g
    · unfold btw
      rw [if_neg (by omega), on, if_neg (by decide), if_pos cm, if_neg hn]
    · rw [on]
      unfold prt
      rw [if_neg (by decide), if_pos rfl, if_neg (fun z => by rw [cm] at z; exact absurd z.2 (by decide))]
  · intro o k k1 x f kf e d e1 e2 Y
    have X := sim (D := D) (Q := Q) E d
    refine ⟨by have := X.1; have := Y.1; omega, fun P W k0 kn p g => ?_⟩
    have kk := X.1
    have kk2 := Y.1
    have p1 := p.1
    have ap := (p.2.2.2.2.1 (by decide)).p
    have lc : ∀ z : Int, ((z :: P).length : Int) = P.length + 1 := fun z => by simp
    have ec : rOp (G 80 k1) = G 80 k1 - 23 ∧ rk (rOp (G 80 k1)) = 4 ∧ lvl (rOp (G 80 k1)) = 5 := by
      have : G 80 k1 = 33 ∨ G 80 k1 = 34 ∨ G 80 k1 = 35 ∨ G 80 k1 = 36 ∨ G 80 k1 = 37 ∨ G 80 k1 = 38 := by omega
      rcases this with v | v | v | v | v | v <;> rw [v] <;> decide
    refine X.2 P W k0 (by omega) (pre_ask p e) ?_
    intro ops W' h1 h2 h3 h4
    have h5 : ∀ c ∈ ops, 5 ≤ rk c := fun c hx => (h1 c hx).1
    have on : opN (ops ++ P) = 42 := by rw [opN_app (fun c hx => by have := h5 c hx; omega)]; exact ap.1
    have cm : cmpd (ops ++ P) = false := by rw [cmpd_app h5]; exact ap.2.1
    have l2 : (ops.length : Int) ≤ 2 := h2
    have la : (ops ++ P).length = ops.length + P.length := by simp
    refine g_oper (c := rOp (G 80 k1)) E (by omega) (by omega) ?_ (by omega) (fun c hx => by rw [ec.2.2]; exact h5 c hx) (by rw [ec.2.2]; exact ap.2.2.1) (by omega) (by omega) ?_
    · unfold btw
      rw [if_neg (by omega), on, if_neg (by decide), if_pos cm, if_pos ⟨e1, e2⟩, ec.1]
    exact Y.2 _ _ (by omega) kn ⟨⟨by rw [lc]; omega, by omega, by omega⟩, fun _ a => absurd a (nask (Or.inl (by omega))), fun z => absurd z (by decide), fun _ => ⟨top1_c (by omega), no41_c (by omega)⟩, fun z => absurd z (by decide), fun z => absurd z (by decide), fun z => absurd z (by decide)⟩ g
end FM
