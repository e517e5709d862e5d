/-! TEXTS: the class's tokens -/
def sb (b : Int) : Int := if b < 128 then b else b - 256
theorem wtab : (∀ w : Fin 32, (∀ j : Fin 9, j.val < nth 0 wLn w.val → nth 0 strB (nth 0 wOf w.val + j.val) ≠ 32 ∧ 0 ≤ nth 0 strB (nth 0 wOf w.val + j.val) ∧ nth 0 strB (nth 0 wOf w.val + j.val) < 128) ∧ nth 0 strB (nth 0 wOf w.val + nth 0 wLn w.val) = 32 ∧ nth 157 wOf (w.val + 1) = nth 0 wOf w.val + nth 0 wLn w.val + 1 ∧ nth 0 wLn w.val < 9 ∧ nth 0 wOf w.val + nth 0 wLn w.val < 157) := by decide +kernel
theorem wdis : ∀ w i : Fin 32, w.val ≠ i.val → nth 0 wLn w.val ≠ nth 0 wLn i.val ∨ ∃ j : Fin 9, j.val < nth 0 wLn w.val ∧ nth 0 strB (nth 0 wOf w.val + j.val) ≠ nth 0 strB (nth 0 wOf i.val + j.val) := by decide +kernel
theorem wis_one {w i : Nat} (hw : w < 32) (hi : i < 32) {tp : Int → Int} {s e : Int} (a : wis w tp s e) (b : wis i tp s e) : w = i := by
  by_cases z : w = i
  · exact z
  · rcases wdis ⟨w, hw⟩ ⟨i, hi⟩ z with y | ⟨j, y1, y2⟩
    · have a1 := a.1
      have b1 := b.1
      have y' : nth 0 wLn w ≠ nth 0 wLn i := y
      omega
    · have l : nth 0 wLn w = nth 0 wLn i := by
        have a1 := a.1
        have b1 := b.1
        omega
      have y1' : j.val < nth 0 wLn w := y1
      have q1 := a.2 j.val y1'
      have q2 := b.2 j.val (by omega)
      exact absurd (q1.symm.trans q2) y2
section SC
variable {h : Hp} {Q : aPO} {D : Nat} {tp : Int → Int} {l s e : Int}
theorem c_isLet {c : Int} (q : Q (vI (b2i (ltr c))) h) : Runs D 72 0 [vI c] [] h Q := by
  refine Runs.go 20 [] ?_
  refine br.i (fun z1 => ?_) (fun z1 => br.i (fun z2 => ?_) (fun z2 => ?_))
  · refine br.i (fun z3 => ?_) (fun z3 => br.i (fun z4 => ?_) (fun z4 => ?_))
    · exact ⟨by omega, QI q (b2i_f (by omega)).symm⟩
    · exact ⟨by omega, QI q (b2i_f (by omega)).symm⟩
    · exact ⟨by omega, QI q (b2i_t (by omega)).symm⟩
  · exact ⟨by omega, QI q (b2i_t (by omega)).symm⟩
  · refine br.i (fun z3 => ?_) (fun z3 => br.i (fun z4 => ?_) (fun z4 => ?_))
    · exact ⟨by omega, QI q (b2i_f (by omega)).symm⟩
    · exact ⟨by omega, QI q (b2i_f (by omega)).symm⟩
    · exact ⟨by omega, QI q (b2i_t (by omega)).symm⟩
theorem c_isDig {c : Int} (q : Q (vI (b2i (dgt c))) h) : Runs D 73 0 [vI c] [] h Q := by
  refine Runs.go 20 [] ?_
  refine br.i (fun z1 => ?_) (fun z1 => br.i (fun z2 => ?_) (fun z2 => ?_))
  · exact ⟨by omega, QI q (b2i_f (by omega)).symm⟩
  · exact ⟨by omega, QI q (b2i_f (by omega)).symm⟩
  · exact ⟨by omega, QI q (b2i_t (by omega)).symm⟩
/-- the class's tape against the reference's -/
def tpC (h : Hp) (tp : Int → Int) (l : Int) : Prop := (0 ≤ l ∧ l ≤ 300) ∧ ∀ j, 0 ≤ j → j < l → (0 ≤ tp j ∧ tp j ≤ 255) ∧ h 83 j = sb (tp j)
theorem sb_c {b : Int} (hb : 0 ≤ b ∧ b ≤ 255) : (ltr (sb b) ↔ ltr b) ∧ (dgt (sb b) ↔ dgt b) ∧ (blk (sb b) ↔ blk b) ∧ (∀ c, 0 ≤ c → c < 128 → (sb b = c ↔ b = c)) := by
  unfold sb
  split
  · exact ⟨Iff.rfl, Iff.rfl, Iff.rfl, fun c _ _ => Iff.rfl⟩
  · refine ⟨by omega, by omega, by omega, fun c _ _ => by omega⟩
theorem c_runL (T : tpC h tp l) (s0 : 0 ≤ s) (sl : s ≤ l) (q : ∀ e, s ≤ e → e ≤ l → (∀ j, s ≤ j → j < e → ltr (tp j)) → (e < l → ¬ ltr (tp e)) → Q (vI e) h) : Runs (D + 1) 74 0 [vA 83, vI s, vI l, vI 0, none] [] h Q := by
  have t1 := T.1
  have L : ∀ (f : Nat) (i : Int), l - i = f → s ≤ i → (∀ j, s ≤ j → j < i → ltr (tp j)) → Runs (D + 1) 74 3 [vA 83, vI s, vI l, vI 0, vI i] [] h Q := by
    intro f
    induction f with
    | zero =>
      intro i hf i0 a
      refine Runs.go 20 [] ?_
      refine br.t (by omega) ?_
      have := q i i0 (by omega) a (fun z => by omega)
      rw [show i = l by omega] at this
      exact this
    | succ f ih =>
      intro i hf i0 a
      have b := T.2 i (by omega) (by omega)
      have c := sb_c b.1
      refine Runs.go 30 [3] ?_
      refine br.f (by omega) (br.t rfl ?_)
      refine ⟨⟨by omega, show i < (300 : Int) by omega⟩, ?_⟩
      refine c_isLet ?_
      rw [b.2]
      refine br.j (fun z => ?_) (fun z => ?_)
      · have z' : ¬ ltr (sb (tp i)) := b2i_z (Decidable.not_not.mp z)
        exact q i i0 (by omega) a (fun _ y => z' (c.1.mpr y))
      · have z' : ltr (sb (tp i)) := b2i_nz z
        refine ⟨by omega, ih (i + 1) (by omega) (by omega) (fun j x y => ?_)⟩
        by_cases w : j = i
        · rw [w]; exact c.1.mp z'
        · exact a j x (by omega)
  refine Runs.go 10 [3] ?_
  exact L (l - s).toNat s (by omega) (Int.le_refl _) (fun j x y => by omega)
theorem c_runD (T : tpC h tp l) (s0 : 0 ≤ s) (sl : s ≤ l) (q : ∀ e, s ≤ e → e ≤ l → (∀ j, s ≤ j → j < e → dgt (tp j)) → (e < l → ¬ dgt (tp e)) → Q (vI e) h) : Runs (D + 1) 74 0 [vA 83, vI s, vI l, vI 1, none] [] h Q := by
  have t1 := T.1
  have L : ∀ (f : Nat) (i : Int), l - i = f → s ≤ i → (∀ j, s ≤ j → j < i → dgt (tp j)) → Runs (D + 1) 74 3 [vA 83, vI s, vI l, vI 1, vI i] [] h Q := by
    intro f
    induction f with
    | zero =>
      intro i hf i0 a
      refine Runs.go 20 [] ?_
      refine br.t (by omega) ?_
      have := q i i0 (by omega) a (fun z => by omega)
      rw [show i = l by omega] at this
      exact this
    | succ f ih =>
      intro i hf i0 a
      have b := T.2 i (by omega) (by omega)
      have c := sb_c b.1
      refine Runs.go 30 [3] ?_
      refine br.f (by omega) (br.f (by decide) ?_)
      refine ⟨⟨by omega, show i < (300 : Int) by omega⟩, ?_⟩
      refine c_isDig ?_
      rw [b.2]
      refine br.j (fun z => ?_) (fun z => ?_)
      · have z' : ¬ dgt (sb (tp i)) := b2i_z (Decidable.not_not.mp z)
        exact q i i0 (by omega) a (fun _ y => z' (c.2.1.mpr y))
      · have z' : dgt (sb (tp i)) := b2i_nz z
        refine ⟨by omega, ih (i + 1) (by omega) (by omega) (fun j x y => ?_)⟩
        by_cases w : j = i
        · rw [w]; exact c.2.1.mp z'
        · exact a j x (by omega)
  refine Runs.go 10 [3] ?_
  exact L (l - s).toNat s (by omega) (Int.le_refl _) (fun j x y => by omega)
theorem c_number2 (T : tpC h tp l) (s0 : 0 ≤ s) (se : s ≤ e) (el : e ≤ l) (a : ∀ j, s ≤ j → j < e → dgt (tp j)) (q : Q (vI (nvl tp s (e - s).toNat)) h) : Runs D 75 0 [vA 83, vI s, vI e, none, none] [] h Q := by
  have t1 := T.1
  have L : ∀ (f i : Nat), i + f = (e - s).toNat → Runs D 75 5 [vA 83, vI s, vI e, vI (nvl tp s i), vI (s + i)] [] h Q := by
    intro f
    induction f with
    | zero =>
      intro i hf
      refine Runs.go 20 [] ?_
      refine br.t (by omega) ?_
      rw [show i = (e - s).toNat by omega]
      exact q
    | succ f ih =>
      intro i hf
      have b := T.2 (s + i) (by omega) (by omega)
      have dg := a (s + i) (by omega) (by omega)
      have ev : h 83 (s + i) = tp (s + i) := by
        rw [b.2]
        unfold sb
        rw [if_pos (by omega)]
      have nr := nvl_r (tp := tp) (s := s) (m := (e - s).toNat) (fun j x y => a j x (by omega)) i (by omega)
      have n1 : 0 ≤ nvl tp s i ∧ nvl tp s i ≤ 10000 := by rw [nr.2.2]; omega
      have R := ih (i + 1) (by omega)
      rw [show s + ((i + 1 : Nat) : Int) = s + i + 1 by omega, show nvl tp s (i + 1) = min 10000 (nvl tp s i * 10 + tp (s + i) - 48) from rfl, ← ev] at R
      refine Runs.go 30 [5] ?_
      refine br.f (by omega) ?_
      refine ⟨by omega, ⟨⟨by omega, show s + (i : Int) < (300 : Int) by omega⟩, ⟨show -2147483648 ≤ nvl tp s i * 10 + h 83 (s + i) ∧ nvl tp s i * 10 + h 83 (s + i) < 2147483648 by omega, ⟨show -2147483648 ≤ nvl tp s i * 10 + h 83 (s + i) - 48 ∧ nvl tp s i * 10 + h 83 (s + i) - 48 < 2147483648 by omega, ?_⟩⟩⟩⟩
      exact ⟨by omega, R⟩
  have R := L (e - s).toNat 0 (by omega)
  rw [show s + ((0 : Nat) : Int) = s by omega] at R
  refine Runs.go 10 [5] ?_
  exact R
theorem c_spells (T : tpC h tp l) (s0 : 0 ≤ s) (se : s ≤ e) (el : e ≤ l) {o : Nat} (ho : o + (e - s).toNat ≤ 157) (hc : ∀ j : Nat, j < (e - s).toNat → 0 ≤ nth 0 strB (o + j) ∧ nth 0 strB (o + j) < 128) (q1 : (∀ j : Nat, j < (e - s).toNat → tp (s + j) = nth 0 strB (o + j)) → Q (vI 1) h) (q2 : ¬ (∀ j : Nat, j < (e - s).toNat → tp (s + j) = nth 0 strB (o + j)) → Q (vI 0) h) : Runs D 77 0 [vA 83, vI s, vI e, vI o, none] [] h Q := by
  have t1 := T.1
  have L : ∀ (f i : Nat), i + f = (e - s).toNat → (∀ j : Nat, j < i → tp (s + j) = nth 0 strB (o + j)) → Runs D 77 3 [vA 83, vI s, vI e, vI o, vI (s + i)] [] h Q := by
    intro f
    induction f with
    | zero =>
      intro i hf a
      refine Runs.go 20 [] ?_
      refine br.t (by omega) ?_
      exact ⟨by omega, q1 (fun j hj => a j (by omega))⟩
    | succ f ih =>
      intro i hf a
      have b := T.2 (s + i) (by omega) (by omega)
      have cc := (sb_c b.1).2.2.2 (nth 0 strB (o + i)) (hc i (by omega)).1 (hc i (by omega)).2
      have ei : ((o : Int) + (s + i) - s).toNat = o + i := by omega
      refine Runs.go 30 [3] ?_
      refine br.f (by omega) ?_
      refine ⟨⟨by omega, show s + (i : Int) < (300 : Int) by omega⟩, ⟨by omega, ⟨by omega, ⟨by omega, ?_⟩⟩⟩⟩
      refine br.j (fun z => ?_) (fun z => ?_)
      · have z' : ¬ h 83 (s + i) = nth 0 strB ((o : Int) + (s + i) - s).toNat := z
        rw [ei, b.2, cc] at z'
        exact ⟨by omega, q2 (fun y => z' (y i (by omega)))⟩
      · have z' : h 83 (s + i) = nth 0 strB ((o : Int) + (s + i) - s).toNat := z
        rw [ei, b.2, cc] at z'
        have R := ih (i + 1) (by omega) (fun j hj => by
          by_cases w : j = i
          · rw [w]; exact z'
          · exact a j (by omega))
        rw [show s + ((i + 1 : Nat) : Int) = s + i + 1 by omega] at R
        exact ⟨by omega, R⟩
  have R := L (e - s).toNat 0 (by omega) (fun j hj => by omega)
  rw [show s + ((0 : Nat) : Int) = s by omega] at R
  refine Runs.go 10 [3] ?_
  exact R
theorem c_wordCode (T : tpC h tp l) (s0 : 0 ≤ s) (se : s < e) (el : e ≤ l) (q : ∀ c : Int, 0 ≤ c → c ≤ 32 → (∀ i : Nat, i < 32 → (c = i ↔ wis i tp s e)) → Q (vI c) h) : Runs (D + 1) 76 0 [vA 83, vI s, vI e, none, none, none] [] h Q := by
  have t1 := T.1
  have W : ∀ (f w : Nat), w + f = 32 → (∀ i : Nat, i < w → ¬ wis i tp s e) → Runs (D + 1) 76 8 [vA 83, vI s, vI e, vI w, vI ((nth 157 wOf w : Nat) : Int), vI ((nth 157 wOf w : Nat) : Int)] [] h Q := by
    intro f
    induction f with
    | zero =>
      intro w hw a
      have ew : w = 32 := by omega
      subst ew
      refine Runs.go 20 [] ?_
      refine br.t (by decide) ?_
      refine q 32 (by decide) (by decide) (fun i hi => ⟨fun z => by omega, fun z => absurd z (a i hi)⟩)
    | succ f ih =>
      intro w hw a
      have tb := wtab ⟨w, by omega⟩
      obtain ⟨t2, t3, t4, t5, t6⟩ := tb
      have ewo : nth 157 wOf w = nth 0 wOf w := by
        have : ∀ w : Fin 32, nth 157 wOf w.val = nth 0 wOf w.val := by decide +kernel
        exact this ⟨w, by omega⟩
      have t3' : nth 0 strB (nth 0 wOf w + nth 0 wLn w) = 32 := t3
      have t4' : nth 157 wOf (w + 1) = nth 0 wOf w + nth 0 wLn w + 1 := t4
      have t5' : nth 0 wLn w < 9 := t5
      have t6' : nth 0 wOf w + nth 0 wLn w < 157 := t6
      rw [ewo]
      generalize eO : nth 0 wOf w = O at *
      generalize eL : nth 0 wLn w = K at *
      -- at the blank behind the word
      have B : Runs (D + 1) 76 8 [vA 83, vI s, vI e, vI w, vI O, vI ((O : Int) + K)] [] h Q := by
        have N : (∀ i : Nat, i < w + 1 → ¬ wis i tp s e) → Runs (D + 1) 76 54 [vA 83, vI s, vI e, vI w, vI O, vI ((O : Int) + K)] [] h Q := by
          intro a2
          have R := ih (w + 1) (by omega) a2
          rw [t4', show (((O + K + 1 : Nat)) : Int) = (O : Int) + K + 1 by omega, show ((w + 1 : Nat) : Int) = (w : Int) + 1 by omega] at R
          refine Runs.go 20 [8] ?_
          exact ⟨by omega, ⟨by omega, ⟨by omega, R⟩⟩⟩
        have NW : ¬ wis w tp s e → Runs (D + 1) 76 54 [vA 83, vI s, vI e, vI w, vI O, vI ((O : Int) + K)] [] h Q := fun nw => N (fun i hi => by
          by_cases z : i = w
          · rw [z]; exact nw
          · exact a i (by omega))
        have ech : nth 0 strB ((O : Int) + K).toNat = 32 := by rw [show ((O : Int) + K).toNat = O + K by omega]; exact t3'
        refine Runs.go 40 [54] ?_
        refine br.f (by omega) ?_
        refine ⟨by omega, ?_⟩
        refine br.f (fun z => z ech) ?_
        refine ⟨by omega, ⟨by omega, ?_⟩⟩
        refine br.i (fun z => ?_) (fun z => ?_)
        · have z' : (O : Int) + K - O ≠ e - s := z
          refine NW (fun y => ?_)
          have y1 : e - s = (nth 0 wLn w : Nat) := y.1
          rw [eL] at y1
          omega
        · have z' : (O : Int) + K - O = e - s := Decidable.not_not.mp z
          have ek : (e - s).toNat = K := by omega
          refine c_spells T s0 (by omega) el (o := O) (by omega) (fun j hj => (t2 ⟨j, by omega⟩ (by show j < _; omega)).2) (fun y => ?_) (fun y => ?_)
          · refine br.f (by decide) ?_
            have ww : wis w tp s e := by
              refine ⟨?_, fun j hj => ?_⟩
              · rw [eL]; omega
              · rw [eL] at hj
                have := y j (by omega)
                rw [eO]
                exact this
            refine q w (by omega) (by omega) (fun i hi => ⟨fun x => ?_, fun x => ?_⟩)
            · rw [← show w = i by omega]; exact ww
            · rw [wis_one (by omega) hi ww x]
          · refine br.t rfl ?_
            refine NW (fun x => y (fun j hj => ?_))
            have := x.2 j (by rw [eL]; omega)
            rw [eO] at this
            exact this
      have I : ∀ (g j : Nat), j + g = K → Runs (D + 1) 76 8 [vA 83, vI s, vI e, vI w, vI O, vI ((O : Int) + j)] [] h Q := by
        intro g
        induction g with
        | zero =>
          intro j hj
          rw [show j = K by omega]
          exact B
        | succ g ig =>
          intro j hj
          have t := t2 ⟨j, by omega⟩ (by show j < _; omega)
          have R := ig (j + 1) (by omega)
          rw [show (O : Int) + ((j + 1 : Nat) : Int) = (O : Int) + j + 1 by omega] at R
          refine Runs.go 20 [8] ?_
          refine br.f (by omega) ?_
          refine ⟨by omega, ?_⟩
          refine br.t (fun z => t.1 ?_) ⟨by omega, R⟩
          have z' : nth 0 strB ((O : Int) + j).toNat = 32 := z
          rw [show ((O : Int) + j).toNat = O + j by omega] at z'
          exact z'
      have R := I K 0 (by omega)
      rw [show (O : Int) + ((0 : Nat) : Int) = (O : Int) by omega] at R
      exact R
  refine Runs.go 10 [8] ?_
  exact W 32 0 (by decide) (fun i hi => absurd hi (by omega))
end SC
