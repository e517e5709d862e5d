/-! TEXTS: the reference's words and figures -/
/-- only token and a row of the texts -/
def u87 (h g : Hp) (x : Int) : Prop := (∀ o, o ≠ 84 → o ≠ 87 → g o = h o) ∧ (∀ j, (j < 7 ∨ 11 < j) → g 84 j = h 84 j) ∧ (∀ j, (j < x + 1 ∨ x + 4 ≤ j) → g 87 j = h 87 j)
theorem w4v {a b c d : Int} (ha : 0 ≤ a ∧ a < 256) (hb : 0 ≤ b ∧ b < 256) (hc : 0 ≤ c ∧ c < 256) (hd : 0 ≤ d ∧ d < 256) : lOr (lShl (lOr (lShl (lOr (lShl a 8) b) 8) c) 8) d = ((a * 256 + b) * 256 + c) * 256 + d := by
  rw [lOr8 (by omega) hb, lOr8 (by omega) hc, lOr8 (by omega) hd]
section WF
variable {h : Hp} {Q : aPO} {D : Nat} {G : Hp} {N k : Int} {en : Int → Int}
theorem r_isStd2 (S : tS G N en) (hk : 0 ≤ k ∧ k < N) (e88 : h 88 = G 88) (e4 : h 84 4 = G 84 4) (kk : rK G en h k) (q1 : G 80 k = 5 → Q (vI 1) h) (q2 : G 80 k ≠ 5 → Q (vI 0) h) : Runs (D + 3) 217 0 [vA 84] [] h Q := by
  obtain ⟨k7, k8, rt⟩ := kk
  have r1 := rt.1
  have l1 := S.1
  refine Runs.go 120 [] ?_
  refine br.i (fun z => ⟨by omega, q2 ?_⟩) (fun z => ?_)
  · have z' : h 84 9 ≠ 2 := z
    omega
  have z' : h 84 9 = 2 := Decidable.not_not.mp z
  have c32 : G 80 k ≤ 32 := by omega
  have kN : k < N - 1 := by
    by_cases e : k = N - 1
    · rw [e, S.2.1.1] at c32
      exact absurd c32 (by decide)
    · omega
  obtain ⟨tp, s0⟩ := S.2.2.1 k hk.1 kN
  have W : tkW (G 88) (G 84 4) (G 81 k) (en k) (G 80 k) (G 82 k) := by
    rcases tp with w | w | w
    · exact w
    · have := w.2.1
      omega
    · exfalso
      rcases w.2 with y | y
      · omega
      · have e := y.2.2
        unfold sgc at e
        repeat' split at e
        all_goals omega
  obtain ⟨rn, c0, ci, -⟩ := W
  have w5 := ci 5 (by decide)
  have en1 := rn.1
  refine ⟨show -2147483648 ≤ h 84 7 - h 84 8 ∧ h 84 7 - h 84 8 < 2147483648 by omega, ?_⟩
  refine br.i (fun y => ⟨by omega, q2 (fun x => ?_)⟩) (fun y => ?_)
  · have y' : h 84 7 - h 84 8 ≠ 8 := y
    have u : en k - G 81 k = ((8 : Nat) : Int) := (w5.mp x).1
    omega
  have y' : h 84 7 - h 84 8 = 8 := Decidable.not_not.mp y
  have bt' : ∀ j : Int, 0 ≤ j → j < 8 → (if h 84 8 + j < h 84 4 then h 88 (h 84 8 + j) else -1) = G 88 (G 81 k + j) ∧ 0 ≤ G 88 (G 81 k + j) ∧ G 88 (G 81 k + j) < 256 := by
    intro j j0 j8
    have r := S.2.2.2.1 (G 81 k + j) (by omega) (by omega)
    rw [k8, e4, e88, if_pos (by omega)]
    exact ⟨rfl, by omega, by omega⟩
  have v0 := bt' 0 (by decide) (by decide)
  rw [Int.add_zero, Int.add_zero] at v0
  have v1 := bt' 1 (by decide) (by decide)
  have v2 := bt' 2 (by decide) (by decide)
  have v3 := bt' 3 (by decide) (by decide)
  have v4 := bt' 4 (by decide) (by decide)
  have v5 := bt' 5 (by decide) (by decide)
  have v6 := bt' 6 (by decide) (by decide)
  have v7 := bt' 7 (by decide) (by decide)
  refine r_byte (p := h 84 8) (by omega) (by omega) ?_
  rw [v0.1]
  refine ⟨show -2147483648 ≤ h 84 8 + 1 ∧ h 84 8 + 1 < 2147483648 by omega, ?_⟩
  refine r_byte (p := h 84 8 + 1) (by omega) (by omega) ?_
  rw [v1.1]
  refine ⟨show -2147483648 ≤ h 84 8 + 2 ∧ h 84 8 + 2 < 2147483648 by omega, ?_⟩
  refine r_byte (p := h 84 8 + 2) (by omega) (by omega) ?_
  rw [v2.1]
  refine ⟨show -2147483648 ≤ h 84 8 + 3 ∧ h 84 8 + 3 < 2147483648 by omega, ?_⟩
  refine r_byte (p := h 84 8 + 3) (by omega) (by omega) ?_
  rw [v3.1]
  refine r_w4 ?_
  refine r_w4 ?_
  have E1 := w4v v0.2 v1.2 v2.2 v3.2
  have N1 : lOr (lShl (lOr (lShl (lOr (lShl 115 8) 116) 8) 97) 8) 110 = ((115 * 256 + 116) * 256 + 97) * 256 + 110 := by decide +kernel
  have N2 : lOr (lShl (lOr (lShl (lOr (lShl 100 8) 97) 8) 114) 8) 100 = ((100 * 256 + 97) * 256 + 114) * 256 + 100 := by decide +kernel
  have E2 := w4v v4.2 v5.2 v6.2 v7.2
  rw [E1, N1]
  have ST : G 80 k = 5 → G 88 (G 81 k) = 115 ∧ G 88 (G 81 k + 1) = 116 ∧ G 88 (G 81 k + 2) = 97 ∧ G 88 (G 81 k + 3) = 110 ∧ G 88 (G 81 k + 4) = 100 ∧ G 88 (G 81 k + 5) = 97 ∧ G 88 (G 81 k + 6) = 114 ∧ G 88 (G 81 k + 7) = 100 := by
    intro e
    have u := (w5.mp e).2
    have u0 := u 0 (by decide)
    rw [show G 81 k + ((0 : Nat) : Int) = G 81 k by omega] at u0
    exact ⟨u0, u 1 (by decide), u 2 (by decide), u 3 (by decide), u 4 (by decide), u 5 (by decide), u 6 (by decide), u 7 (by decide)⟩
  refine br.i (fun x => ⟨by omega, q2 (fun v => ?_)⟩) (fun x => ?_)
  · have v' := ST v
    exact x (lcI_0.mpr (by omega))
  have x1 := lcI_0.mp (Decidable.not_not.mp x)
  refine ⟨show -2147483648 ≤ h 84 8 + 4 ∧ h 84 8 + 4 < 2147483648 by omega, ?_⟩
  refine r_byte (p := h 84 8 + 4) (by omega) (by omega) ?_
  rw [v4.1]
  refine ⟨show -2147483648 ≤ h 84 8 + 5 ∧ h 84 8 + 5 < 2147483648 by omega, ?_⟩
  refine r_byte (p := h 84 8 + 5) (by omega) (by omega) ?_
  rw [v5.1]
  refine ⟨show -2147483648 ≤ h 84 8 + 6 ∧ h 84 8 + 6 < 2147483648 by omega, ?_⟩
  refine r_byte (p := h 84 8 + 6) (by omega) (by omega) ?_
  rw [v6.1]
  refine ⟨show -2147483648 ≤ h 84 8 + 7 ∧ h 84 8 + 7 < 2147483648 by omega, ?_⟩
  refine r_byte (p := h 84 8 + 7) (by omega) (by omega) ?_
  rw [v7.1]
  refine r_w4 ?_
  refine r_w4 ?_
  rw [E2, N2]
  refine br.i (fun x => ⟨by omega, q2 (fun v => ?_)⟩) (fun x => ?_)
  · have v' := ST v
    exact x (lcI_0.mpr (by omega))
  have x2 := lcI_0.mp (Decidable.not_not.mp x)
  refine ⟨by omega, q1 (w5.mpr ⟨show en k - G 81 k = ((8 : Nat) : Int) by omega, fun j hj => ?_⟩)⟩
  have hj' : j < 8 := hj
  have cj : j = 0 ∨ j = 1 ∨ j = 2 ∨ j = 3 ∨ j = 4 ∨ j = 5 ∨ j = 6 ∨ j = 7 := by omega
  rcases cj with e | e | e | e | e | e | e | e <;> subst e
  · show G 88 (G 81 k + ((0 : Nat) : Int)) = 115
    rw [show G 81 k + ((0 : Nat) : Int) = G 81 k by omega]
    omega
  · show G 88 (G 81 k + 1) = 116
    omega
  · show G 88 (G 81 k + 2) = 97
    omega
  · show G 88 (G 81 k + 3) = 110
    omega
  · show G 88 (G 81 k + 4) = 100
    omega
  · show G 88 (G 81 k + 5) = 97
    omega
  · show G 88 (G 81 k + 6) = 114
    omega
  · show G 88 (G 81 k + 7) = 100
    omega
theorem r_sortOf (S : tS G N en) (hk : 0 ≤ k ∧ k < N) (e88 : h 88 = G 88) (e4 : h 84 4 = G 84 4) (kk : rK G en h k) (q : Q (vI (if 0 ≤ G 80 k ∧ G 80 k ≤ 12 then G 80 k else -1)) h) : Runs (D + 5) 218 0 [vA 84] [] h Q := by
  have rt := kk.2.2
  refine Runs.go 200 [] ?_
  refine r_w5 ?_
  refine r_isWord rt 0 (by decide) (by decide) (by decide +kernel) (fun e => br.f (by decide) (QI q ?_)) (fun n0 => br.t rfl ?_)
  · have e' : G 80 k = 0 := e
    rw [if_pos (by omega)]; omega
  have m0 : G 80 k ≠ 0 := n0
  refine r_w4 ?_
  refine r_isWord rt 1 (by decide) (by decide) (by decide +kernel) (fun e => br.f (by decide) (QI q ?_)) (fun n1 => br.t rfl ?_)
  · have e' : G 80 k = 1 := e
    rw [if_pos (by omega)]; omega
  have m1 : G 80 k ≠ 1 := n1
  refine r_w4 ?_
  refine r_isWord rt 2 (by decide) (by decide) (by decide +kernel) (fun e => br.f (by decide) (QI q ?_)) (fun n2 => br.t rfl ?_)
  · have e' : G 80 k = 2 := e
    rw [if_pos (by omega)]; omega
  have m2 : G 80 k ≠ 2 := n2
  refine r_w3 ?_
  refine r_isWord rt 3 (by decide) (by decide) (by decide +kernel) (fun e => br.f (by decide) (QI q ?_)) (fun n3 => br.t rfl ?_)
  · have e' : G 80 k = 3 := e
    rw [if_pos (by omega)]; omega
  have m3 : G 80 k ≠ 3 := n3
  refine r_w4 ?_
  refine r_isWord rt 4 (by decide) (by decide) (by decide +kernel) (fun e => br.f (by decide) (QI q ?_)) (fun n4 => br.t rfl ?_)
  · have e' : G 80 k = 4 := e
    rw [if_pos (by omega)]; omega
  have m4 : G 80 k ≠ 4 := n4
  refine r_isStd2 S hk e88 e4 kk (fun e => br.f (by decide) (QI q ?_)) (fun n5 => br.t rfl ?_)
  · rw [if_pos (by omega)]; omega
  refine r_w2 ?_
  refine r_isWord rt 6 (by decide) (by decide) (by decide +kernel) (fun e => br.f (by decide) (QI q ?_)) (fun n6 => br.t rfl ?_)
  · have e' : G 80 k = 6 := e
    rw [if_pos (by omega)]; omega
  have m6 : G 80 k ≠ 6 := n6
  refine r_w4 ?_
  refine r_isWord rt 7 (by decide) (by decide) (by decide +kernel) (fun e => br.f (by decide) (QI q ?_)) (fun n7 => br.t rfl ?_)
  · have e' : G 80 k = 7 := e
    rw [if_pos (by omega)]; omega
  have m7 : G 80 k ≠ 7 := n7
  refine r_w4 ?_
  refine r_isWord rt 8 (by decide) (by decide) (by decide +kernel) (fun e => br.f (by decide) (QI q ?_)) (fun n8 => br.t rfl ?_)
  · have e' : G 80 k = 8 := e
    rw [if_pos (by omega)]; omega
  have m8 : G 80 k ≠ 8 := n8
  refine r_w4 ?_
  refine r_isWord rt 9 (by decide) (by decide) (by decide +kernel) (fun e => br.f (by decide) (QI q ?_)) (fun n9 => br.t rfl ?_)
  · have e' : G 80 k = 9 := e
    rw [if_pos (by omega)]; omega
  have m9 : G 80 k ≠ 9 := n9
  refine r_w4 ?_
  refine r_isWord rt 10 (by decide) (by decide) (by decide +kernel) (fun e => br.f (by decide) (QI q ?_)) (fun n10 => br.t rfl ?_)
  · have e' : G 80 k = 10 := e
    rw [if_pos (by omega)]; omega
  have m10 : G 80 k ≠ 10 := n10
  refine r_w6 ?_
  refine r_isWord rt 11 (by decide) (by decide) (by decide +kernel) (fun e => br.f (by decide) (QI q ?_)) (fun n11 => br.t rfl ?_)
  · have e' : G 80 k = 11 := e
    rw [if_pos (by omega)]; omega
  have m11 : G 80 k ≠ 11 := n11
  refine r_w3 ?_
  refine r_isWord rt 12 (by decide) (by decide) (by decide +kernel) (fun e => br.f (by decide) (QI q ?_)) (fun n12 => br.t rfl ?_)
  · have e' : G 80 k = 12 := e
    rw [if_pos (by omega)]; omega
  have m12 : G 80 k ≠ 12 := n12
  refine QI q ?_
  rw [if_neg (by omega)]
/-- an order under way: m parts are laid at x -/
def oRS (G : Hp) (en : Int → Int) (h g : Hp) (x k m : Int) (pr : Int → Int) : Prop := u87 h g x ∧ rK G en g k ∧ ∀ i, 1 ≤ i → i ≤ m → g 87 (x + i) = pr i
theorem r_figure {g : Hp} {x m lo hi k0 : Int} {r : List (Int × Int × Int)} (S : tS G N en) (hk : 0 ≤ k ∧ k < N) (h88 : h 88 = G 88) (h4 : h 84 4 = G 84 4) (o : oRS G en h g x k m (oPar (G 82) k0)) (m3 : 0 ≤ m ∧ m < 3) (ek : k = k0 + 2 * m) (hx : 0 ≤ x ∧ x < 2810) (hl : 0 ≤ lo ∧ hi ≤ 9999)
    (q1 : oRun (G 80) (G 82) ((-1, lo, hi) :: r) k = oRun (G 80) (G 82) r (k + 1) → k + 1 < N → ∀ g1, oRS G en h g1 x (k + 1) (m + 1) (oPar (G 82) k0) → Q (vI 0) g1)
    (q2 : ∀ f, f ≠ 0 → oRun (G 80) (G 82) ((-1, lo, hi) :: r) k = (f, k) → Q (vI f) g) : Runs (D + 2) 211 0 [vA 84, vI (x + (m + 1)), vI lo, vI hi] [] g Q := by
  obtain ⟨⟨o1, o2, o3⟩, kk, o4⟩ := o
  have rt := kk.2.2
  have r1 := rt.1
  refine Runs.go 40 [] ?_
  refine br.j (fun z => q2 1 (by decide) (oR_a ?_)) (fun z => ?_)
  · have z' : ¬ g 84 9 = 1 := z
    omega
  have z' : g 84 9 = 1 := z
  have c46 : G 80 k = 46 := by omega
  have rn := rt.2.1 c46
  refine r_isIn ?_
  refine br.j (fun y => q2 2 (by decide) (oR_b c46 ?_)) (fun y => ?_)
  · have y' : ¬ (lo ≤ g 84 10 ∧ g 84 10 ≤ hi) := b2i_z (Decidable.not_not.mp y)
    omega
  have y' : lo ≤ g 84 10 ∧ g 84 10 ≤ hi := b2i_nz y
  have ev : g 84 10 = G 82 k := by omega
  have kn := S.tkn.nxt hk (by omega)
  refine ⟨⟨by omega, show x + (m + 1) < (2820 : Int) by omega⟩, ?_⟩
  have tp := S.2.2.1 k hk.1 (by omega)
  have lt := tp.1.lt
  refine r_nextT S (k := k + 1) (by omega) (p := en k) (by omega) (S.2.2.2.2.2 k hk.1 (by omega)) ?_ ?_ ?_ (fun g1 u a2 a3 a4 => ?_)
  · rw [hup_o (by decide), o1 88 (by decide) (by decide)]; exact h88
  · rw [hup_o (by decide), o2 4 (by omega)]; exact h4
  · rw [hup_o (by decide)]; exact kk.1
  · refine q1 (oR_c c46 (by omega) (by omega)) kn g1 ⟨⟨fun o x y => ?_, fun j e => ?_, fun j e => ?_⟩, ⟨a2, a3, a4⟩, fun i i1 i2 => ?_⟩
    · rw [u.1 o x, hup_o y]; exact o1 o x y
    · rw [u.2 j e, hup_o (by decide)]; exact o2 j e
    · rw [u.1 87 (by decide), hup_nj (by omega)]; exact o3 j e
    · rw [u.1 87 (by decide)]
      by_cases w : i = m + 1
      · rw [w, hup_eq, ev]
        unfold oPar
        rw [ek, show k0 + 2 * (m + 1 - 1) = k0 + 2 * m by omega]
      · rw [hup_nj (by omega)]
        exact o4 i i1 (by omega)
theorem r_worded {g : Hp} {x m hi k0 w : Int} {r : List (Int × Int × Int)} (i : Nat) (hi32 : i < 32) (hi5 : i ≠ 5) (ew : w = Hw i) (S : tS G N en) (hk : 0 ≤ k ∧ k < N) (h88 : h 88 = G 88) (h4 : h 84 4 = G 84 4) (o : oRS G en h g x k m (oPar (G 82) k0)) (m3 : 0 ≤ m ∧ m < 3) (ek : k + 1 = k0 + 2 * m) (hx : 0 ≤ x ∧ x < 2810) (hl : hi ≤ 9999)
    (q1 : oRun (G 80) (G 82) (((i : Int), 0, hi) :: r) k = oRun (G 80) (G 82) r (k + 1 + 1) → k + 1 + 1 < N → ∀ g1, oRS G en h g1 x (k + 1 + 1) (m + 1) (oPar (G 82) k0) → Q (vI 0) g1)
    (q2 : ∀ f kf g1, f ≠ 0 → oRun (G 80) (G 82) (((i : Int), 0, hi) :: r) k = (f, kf) → kf < N → (∃ m, oRS G en h g1 x kf m (oPar (G 82) k0)) → Q (vI f) g1) : Runs (D + 3) 212 0 [vA 84, vL w, none, vI (x + (m + 1)), vI 0, vI hi] [] g Q := by
  obtain ⟨⟨o1, o2, o3⟩, kk, o4⟩ := id o
  have rt := kk.2.2
  refine Runs.go 40 [] ?_
  refine r_isWord rt i hi32 hi5 ew (fun e => ?_) (fun e => ?_)
  · refine br.t (by decide) ?_
    have kn := S.tkn.nxt hk (by omega)
    have tp := S.2.2.1 k hk.1 (by omega)
    have lt := tp.1.lt
    refine r_nextT S (k := k + 1) (by omega) (p := en k) (by omega) (S.2.2.2.2.2 k hk.1 (by omega)) ?_ ?_ kk.1 (fun g1 u a2 a3 a4 => ?_)
    · rw [o1 88 (by decide) (by decide)]; exact h88
    · rw [o2 4 (by omega)]; exact h4
    · have rx := oR_x (vl := G 82) (lo := 0) (hi := hi) (r := r) (show (0 : Int) ≤ (i : Int) by omega) e
      refine r_figure (r := r) (m := m) (k0 := k0) S (by omega) h88 h4 (g := g1) ⟨⟨fun o x y => ?_, fun j e => ?_, fun j e => ?_⟩, ⟨a2, a3, a4⟩, fun j j1 j2 => ?_⟩ m3 ek hx ⟨by decide, hl⟩ (fun rr kl g2 o2 => ?_) (fun f f0 rr => ?_)
      · rw [u.1 o x]; exact o1 o x y
      · rw [u.2 j e]; exact o2 j e
      · rw [u.1 87 (by decide)]; exact o3 j e
      · rw [u.1 87 (by decide)]; exact o4 j j1 j2
      · exact q1 (rx.trans rr) kl g2 o2
      · refine q2 f (k + 1) g1 f0 (rx.trans rr) kn ⟨m, ⟨fun o x y => ?_, fun j e => ?_, fun j e => ?_⟩, ⟨a2, a3, a4⟩, fun j j1 j2 => ?_⟩
        · rw [u.1 o x]; exact o1 o x y
        · rw [u.2 j e]; exact o2 j e
        · rw [u.1 87 (by decide)]; exact o3 j e
        · rw [u.1 87 (by decide)]; exact o4 j j1 j2
  · exact br.f (by decide) (q2 1 k g (by decide) (oR_w (by omega) e) hk.2 ⟨m, o⟩)
end WF

