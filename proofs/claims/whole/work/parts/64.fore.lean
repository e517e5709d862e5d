/-! CALLS: foretold, firstBrim -/
theorem r_aside {d : Nat} {h : Hp} {Q : aPO} (k : ∀ h1, (∀ j, 8 ≤ j → j < 66 → h1 93 j = h 85 j) → (∀ o, o ≠ 93 → h1 o = h o) → Q none h1) : Runs d 272 0 [vA 84, none] [] h Q := by
  refine Runs.go 20 [3] ?_
  refine downI (R := fun i => ∀ g : Hp, (∀ j, 8 ≤ j → j < i → g 93 j = h 85 j) → (∀ o, o ≠ 93 → g o = h o) → Runs d 272 3 [vA 84, vI i] [] g Q) (x := 8) (n := 66) (by decide) ?_ (fun i i0 i3 r => ?_) h (fun j x y => by omega) (fun _ _ => rfl)
  · intro g e f
    refine Runs.go 20 [] ?_
    exact br.t (by omega) (k g e f)
  · intro g e f
    refine Runs.go 20 [3] ?_
    refine br.f (by omega) ⟨⟨by omega, show i < (3856 : Int) by omega⟩, ⟨⟨by omega, show i < (66 : Int) by omega⟩, ⟨by omega, ?_⟩⟩⟩
    refine r _ (fun j x y => ?_) (fun o z => by rw [hup_o z]; exact f o z)
    by_cases ej : j = i
    · rw [ej, hup_eq, f 85 (by decide)]
    · rw [hup_nj ej]; exact e j x (by omega)
theorem r_putBack {d : Nat} {h : Hp} {Q : aPO} (k : ∀ h1, h1 85 = (fun j => if 8 ≤ j ∧ j < 66 then h 93 j else h 85 j) → (∀ o, o ≠ 85 → h1 o = h o) → Q none h1) : Runs d 273 0 [vA 84, none] [] h Q := by
  refine Runs.go 20 [3] ?_
  refine downI (R := fun i => ∀ g : Hp, g 85 = (fun j => if 8 ≤ j ∧ j < i then h 93 j else h 85 j) → (∀ o, o ≠ 85 → g o = h o) → Runs d 273 3 [vA 84, vI i] [] g Q) (x := 8) (n := 66) (by decide) ?_ (fun i i0 i3 r => ?_) h (by funext j; rw [if_neg (by omega)]) (fun _ _ => rfl)
  · intro g e f
    refine Runs.go 20 [] ?_
    exact br.t (by omega) (k g e f)
  · intro g e f
    refine Runs.go 20 [3] ?_
    refine br.f (by omega) ⟨⟨by omega, show i < (66 : Int) by omega⟩, ⟨⟨by omega, show i < (3856 : Int) by omega⟩, ⟨by omega, ?_⟩⟩⟩
    refine r _ ?_ (fun o z => by rw [hup_o z]; exact f o z)
    rw [hup_s, f 93 (by decide), e]
    funext j
    unfold aset
    dsimp only
    by_cases z : j = i
    · rw [if_pos z, if_pos (by omega), z]
    · rw [if_neg z]
      by_cases y : 8 ≤ j ∧ j < i
      · rw [if_pos y, if_pos (by omega)]
      · rw [if_neg y, if_neg (by omega)]
/-- back as it was -/
theorem back_s {h g : Hp} {s : aA} (e9 : ∀ j, 8 ≤ j → j < 66 → g 93 j = h 85 j) (e5 : g 85 = s) (so : ∀ j, ¬ (j = 8 ∨ (12 ≤ j ∧ j < 66)) → s j = h 85 j) : (fun j => if 8 ≤ j ∧ j < 66 then g 93 j else g 85 j) = h 85 := by
  funext j
  split
  · rename_i y
    exact e9 j y.1 y.2
  · rw [e5]
    exact so j (by omega)
theorem NR.look {a : aA} {p kd : Int} {f : Int → Int} (w : Wf a) (hp : 0 ≤ p ∧ p < 6) (hk : 0 ≤ kd ∧ kd < 4) (e : r9 f = pNm a p kd) : NR a a p kd f := by
  refine ⟨fun i i0 i7 => ?_, nOk_9 e (pNm_ok w hp hk), fun _ _ => rfl, w, rfl⟩
  have := congrFun e i
  unfold r9 at this
  rw [if_pos ⟨i0, by omega⟩] at this
  exact this
theorem pDn1_s {L : aL} {s : aA} {i : Int} (h : 0 ≤ i) : pDn 1 L s (i + 1) = if pDn 1 L s i 8 < 9999 then pPass L (pDn 1 L s i) else pDn 1 L s i := by
  rw [pDn_s h, pSt1]
theorem pDn1_o {L : aL} {s : aA} (w : Wf s) {i : Int} (hi : 0 ≤ i) : Wf (pDn 1 L s i) ∧ ∀ j, ¬ (j = 8 ∨ (12 ≤ j ∧ j < 66)) → pDn 1 L s i j = s j := by
  have q : ∀ (k : Nat), Wf (pDn 1 L s k) ∧ ∀ j, ¬ (j = 8 ∨ (12 ≤ j ∧ j < 66)) → pDn 1 L s k j = s j := by
    intro k
    induction k with
    | zero => exact ⟨w, fun _ _ => rfl⟩
    | succ k ih =>
      rw [show ((k + 1 : Nat) : Int) = (k : Int) + 1 by omega, pDn1_s (by omega)]
      split
      · rename_i y
        exact ⟨ih.1.pass y, fun j hj => by rw [pPass_o ih.1 (by omega) (by omega)]; exact ih.2 j hj⟩
      · exact ih
  have := q i.toNat
  rw [show ((i.toNat : Nat) : Int) = i by omega] at this
  exact this
theorem o_foretold : op_foretold Inv := by
  intro x hx
  refine opR (fun a L => if (1 ≤ x 1 ∧ x 1 ≤ 60) ∧ (0 ≤ x 2 ∧ x 2 < a 0) ∧ 0 ≤ x 3 ∧ x 3 ≤ 3 then pDn 1 L a (x 1) (12 + 9 * x 2 + (2 + x 3)) else -1) (fun h L n Q I hn t k => ?_) (fun h L Q w t k => ?_)
  · have q0 := I.num.1.2
    have w := I.wf hn
    have F : ¬ ((1 ≤ x 1 ∧ x 1 ≤ 60) ∧ (0 ≤ x 2 ∧ x 2 < h 85 0) ∧ 0 ≤ x 3 ∧ x 3 ≤ 3) → Q (vI (-1)) h := fun y => by
      have K := k h Same.rf
      rw [if_neg y] at K
      exact K
    refine Runs.go 40 [] ?_
    refine sp_between ?_
    refine br.i (fun y => F (fun q => b2i_z y q.1)) (fun y1 => ?_)
    refine c_has I ?_
    refine br.i (fun y => F (fun q => b2i_z y q.2.1)) (fun y2 => ?_)
    refine sp_between ?_
    refine br.j (fun y => F (fun q => b2i_z (Decidable.not_not.mp y) q.2.2)) (fun y3 => ?_)
    have k1 := b2i_nz y1
    have k2 := b2i_nz y2
    have k3 := b2i_nz y3
    rw [if_pos ⟨k1, k2, k3⟩] at k
    have p6 : 0 ≤ x 2 ∧ x 2 < 6 := by omega
    have d4 : 0 ≤ x 3 ∧ x 3 < 4 := by omega
    have C : ∀ (Q2 : aPO), (∀ h1, Same h h1 → Q2 (vI (pDn 1 L (h 85) (x 1) (12 + 9 * x 2 + (2 + x 3)))) h1) → Runs 149 0 0 [vA 1, vI (x 1), vI (x 2), vI (x 3), none] [] h Q2 := by
      intro Q2 k
      refine Runs.go 20 [16] ?_
      refine c_look I p6 d4 (fun h1 e1 en => ?_)
      have E : ∀ (g : Hp) (i : Int) (v : AV), (∀ o, o ≠ 49 → o ≠ 50 → g o = h o) → NR (h 85) (pDn 1 L (h 85) (x 1)) (x 2) (x 3) (g 49) → Runs 149 0 38 [vA 1, vI (x 1), vI (x 2), vI (x 3), v] [] g Q2 := by
        intro g i v f N
        have z : g 49 6 = pDn 1 L (h 85) (x 1) (12 + 9 * x 2 + (2 + x 3)) := N.1 6 (by decide) (by decide)
        refine Runs.go 20 [] ?_
        exact ⟨by decide, QI (k g (fun o y => f o (fun z => y (Or.inl z)) (fun z => y (Or.inr (Or.inl z))))) z⟩
      refine downI (R := fun i => ∀ (g : Hp), (∀ o, o ≠ 49 → o ≠ 50 → g o = h o) → NR (h 85) (pDn 1 L (h 85) i) (x 2) (x 3) (g 49) → Runs 149 0 16 [vA 1, vI (x 1), vI (x 2), vI (x 3), vI i] [] g Q2) (x := 0) (n := x 1) (by omega) ?_ (fun i i0 i3 r => ?_) h1 (fun o y _ => e1 o y) (NR.look w p6 d4 en)
      · intro g f N
        refine Runs.go 20 [38] ?_
        exact br.t (by omega) (E g 0 _ f N)
      · intro g f N
        have J : CG g 2 (h 85) n := I.fr (fun o _ _ => f o (by omega) (by omega))
        have tg : cTx g L (h 85 1) := t.fr (fun o _ _ => f o (by omega) (by omega)) (f 87 (by decide) (by decide))
        have rr := r
        rw [pDn1_s i0] at rr
        refine Runs.go 20 [16, 38] ?_
        refine br.f (by omega) ?_
        refine c_dryOne J hn tg (by omega) d4 N (fun y => ?_) (fun y h2 N2 f2 => ?_)
        · refine br.f (by decide) ?_
          have El := pDn_l (z := 1) (L := L) (s := h 85) (i := i) i0 y (x 1) (by omega)
          exact E g 0 _ f (by rw [El]; exact N)
        · rw [if_pos y] at rr
          refine br.t (by decide) ⟨by omega, ?_⟩
          exact rr h2 (fun o a b => (f2 o a b).trans (f o a b)) N2
    exact C _ k
  · have q0 := w.p0
    have F : ¬ ((1 ≤ x 1 ∧ x 1 ≤ 60) ∧ (0 ≤ x 2 ∧ x 2 < h 85 0) ∧ 0 ≤ x 3 ∧ x 3 ≤ 3) → Q (vI (-1)) h := fun y => by
      have K := k h Same.rf
      rw [if_neg y] at K
      exact K
    refine Runs.go 60 [36] ?_
    refine r_isIn ?_
    refine br.i (fun y => F (fun q => b2i_z y q.1)) (fun y1 => ?_)
    refine r_isOne w ?_
    refine br.i (fun y => F (fun q => b2i_z y q.2.1)) (fun y2 => ?_)
    refine r_isIn ?_
    refine br.j (fun y => F (fun q => b2i_z (Decidable.not_not.mp y) q.2.2)) (fun y3 => ?_)
    have k1 := b2i_nz y1
    have k2 := b2i_nz y2
    have k3 := b2i_nz y3
    rw [if_pos ⟨k1, k2, k3⟩] at k
    have p6 : 0 ≤ x 2 ∧ x 2 < 6 := by omega
    refine r_aside (fun h1 e9 f9 => ?_)
    have b5 : h1 85 = h 85 := f9 85 (by decide)
    refine downI (R := fun i => ∀ (g : Hp), g 85 = pDn 1 L (h 85) i → frQ h1 g → Runs 150 274 36 [vA 84, vI (x 1), vI (x 2), vI (x 3), vI i] [] g Q) (x := 0) (n := x 1) (by omega) ?_ (fun i i0 i3 r => ?_) h1 b5 frQ.rf
    · intro g e f
      have e93 : g 93 = h1 93 := f 93 (by decide) (by decide) (by decide) (by decide)
      have W := pDn1_o (L := L) w (i := x 1) (by omega)
      refine Runs.go 40 [] ?_
      refine br.t (by omega) ⟨by omega, ?_⟩
      refine r_get p6 (by omega) ?_
      refine r_putBack (fun h2 e2 f2 => ?_)
      have B := back_s (h := h) (g := g) (s := pDn 1 L (h 85) (x 1)) (fun j a b => by rw [e93]; exact e9 j a b) e W.2
      refine QI (k h2 (fun o y => ?_)) (by rw [e])
      by_cases c5 : o = 85
      · subst c5; rw [e2]; exact B
      · rw [f2 o c5, f.r o c5 y]; exact f9 o (by unfold scr at y; omega)
    · intro g e f
      have W := pDn1_o (L := L) w (i := i) i0
      have rr := r
      rw [pDn1_s i0] at rr
      have g8 : g 85 8 = pDn 1 L (h 85) i 8 := by rw [e]
      refine Runs.go 40 [36] ?_
      refine br.f (by omega) ⟨by decide, ?_⟩
      refine br.i (fun y => ⟨by omega, ?_⟩) (fun y => ?_)
      · have y' : 9999 ≤ g 85 8 := y
        rw [if_neg (by omega)] at rr
        exact rr g e f
      · have y' : ¬ 9999 ≤ g 85 8 := y
        rw [if_pos (by omega)] at rr
        have tg : cTx g L (g 85 1) := by
          rw [e, W.2 1 (by decide)]
          exact (t.fr (fun o _ _ => f9 o (by omega)) (f9 87 (by decide))).frR f.r
        exact r_pass2 (by rw [e]; exact W.1) tg (fun h2 e2 f2 => ⟨by omega, rr h2 (by rw [e2, e]) (f.tr f2)⟩)
def fB (L : aL) (p kd v : Int) : Nat → Int → aA → Int
  | 0, _, _ => -1
  | f + 1, i, s => if 0 < pExc (pAdd s p kd v) p kd (pRoom (pAdd s p kd v) p) then i else if s 8 < 9999 then fB L p kd v f (i + 1) (pPass L (pAdd s p kd v)) else -1
theorem pAdd_n {s : aA} {p kd v j : Int} (h : j ≠ 12 + 9 * p + (2 + kd)) : pAdd s p kd v j = s j := aset_ne h
theorem NR.add {a s : aA} {p kd v : Int} {f : Int → Int} (N : NR a s p kd f) (hp : 0 ≤ p ∧ p < 6) (hk : 0 ≤ kd ∧ kd < 4) (hv : 0 ≤ v ∧ v ≤ 99) : NR a (pAdd s p kd v) p kd (aset f 6 (min 999 (f 6 + v))) := by
  obtain ⟨n7, nk, so, wf, rm⟩ := N
  have f6 : f 6 = s (12 + 9 * p + (2 + kd)) := n7 6 (by decide) (by decide)
  have dr := wf.drop hp hk
  have z := n7
  have R : pRoom (pAdd s p kd v) p = pRoom s p := by
    unfold pRoom
    rw [pAdd_n (j := 9) (by omega), pAdd_n (j := 12 + 9 * p + 0) (by omega)]
  refine ⟨fun i i0 i7 => ?_, fun i i0 i9 => ?_, fun j hj => ?_, wf.amt hp hk (cutI_r (by decide)), R.trans rm⟩
  · have : i = 0 ∨ i = 1 ∨ i = 2 ∨ i = 3 ∨ i = 4 ∨ i = 5 ∨ i = 6 := by omega
    rcases this with c | c | c | c | c | c | c <;> subst c
    · rw [aset_ne (by decide), z 0 (by decide) (by decide)]; exact (pAdd_n (j := 8) (by omega)).symm
    · rw [aset_ne (by decide)]; exact z 1 (by decide) (by decide)
    · rw [aset_ne (by decide), z 2 (by decide) (by decide)]; exact (pAdd_n (j := 12 + 9 * p + 6) (by omega)).symm
    · rw [aset_ne (by decide), z 3 (by decide) (by decide)]; exact (pAdd_n (j := 12 + 9 * p + 0) (by omega)).symm
    · rw [aset_ne (by decide), z 4 (by decide) (by decide)]
      exact R.symm
    · rw [aset_ne (by decide)]; exact z 5 (by decide) (by decide)
    · rw [aset_eq]
      show _ = pAdd s p kd v (12 + 9 * p + (2 + kd))
      rw [pAdd_v, f6, cutI_m]
      omega
  · unfold aset
    have := nk i i0 i9
    split <;> omega
  · rw [pAdd_n (by omega)]; exact so j hj
theorem o_firstBrim : op_firstBrim Inv := by
  intro x hx
  refine opR (fun a L => if ((0 ≤ x 1 ∧ x 1 < a 0) ∧ 0 ≤ x 2 ∧ x 2 ≤ 2) ∧ 1 ≤ x 3 ∧ x 3 ≤ 99 then fB L (x 1) (x 2) (x 3) 61 0 a else -1) (fun h L n Q I hn t k => ?_) (fun h L Q w t k => ?_)
  · have q0 := I.num.1.2
    have w := I.wf hn
    have F : ¬ (((0 ≤ x 1 ∧ x 1 < h 85 0) ∧ 0 ≤ x 2 ∧ x 2 ≤ 2) ∧ 1 ≤ x 3 ∧ x 3 ≤ 99) → Q (vI (-1)) h := fun y => by
      have K := k h Same.rf
      rw [if_neg y] at K
      exact K
    refine Runs.go 40 [] ?_
    refine c_isCase I ?_
    refine br.i (fun y => F (fun q => b2i_z y q.1)) (fun y1 => ?_)
    refine sp_between ?_
    refine br.j (fun y => F (fun q => b2i_z (Decidable.not_not.mp y) q.2)) (fun y3 => ?_)
    have k1 := b2i_nz y1
    have k3 := b2i_nz y3
    rw [if_pos ⟨k1, k3⟩] at k
    have p6 : 0 ≤ x 1 ∧ x 1 < 6 := by omega
    have d4 : 0 ≤ x 2 ∧ x 2 < 4 := by omega
    have rm := w.room p6
    have bm := w.brim (k := x 2) (by omega)
    have hm := mul_b0 (x := h 85 (66 + x 2)) (p := 9) (by omega) (y := pRoom (h 85) (x 1)) (q := 99) (by omega)
    have C : ∀ (Q2 : aPO), (∀ h1, Same h h1 → Q2 (vI (fB L (x 1) (x 2) (x 3) 61 0 (h 85))) h1) → Runs 149 1 0 [vA 1, vI (x 1), vI (x 2), vI (x 3), none, none, none] [] h Q2 := by
      intro Q2 k
      refine Runs.go 40 [42] ?_
      refine c_look I p6 d4 (fun h1 e1 en => ?_)
      have J1 : CG h1 2 (h 85) n := I.fr (fun o _ _ => e1 o (by omega))
      have e7 : h1 7 (x 2) = h 85 (66 + x 2) := (J1.brim (x 2) d4.1 (by omega)).1
      refine ⟨⟨by omega, show x 2 < (3 : Int) by omega⟩, ?_⟩
      refine c_room J1 p6 ?_
      refine ⟨show -2147483648 ≤ h1 7 (x 2) * pRoom (h 85) (x 1) ∧ h1 7 (x 2) * pRoom (h 85) (x 1) < 2147483648 by rw [e7]; omega, ?_⟩
      have M : ∀ (f : Nat) (i : Int) (g : Hp) (s : aA), 0 ≤ i → i + f = 61 → (∀ o, o ≠ 49 → o ≠ 50 → g o = h o) → NR (h 85) s (x 1) (x 2) (g 49) → (∀ h2, Same h h2 → Q2 (vI (fB L (x 1) (x 2) (x 3) f i s)) h2) → Runs 149 1 45 [vA 1, vI (x 1), vI (x 2), vI (x 3), vA 49, vI (h 85 (66 + x 2) * pRoom (h 85) (x 1)), vI i] [] g Q2 := by
        intro f
        induction f with
        | zero =>
          intro i g s i0 ie fr N k
          refine Runs.go 20 [] ?_
          exact br.t (by omega) (k g (fun o y => fr o (fun z => y (Or.inl z)) (fun z => y (Or.inr (Or.inl z)))))
        | succ f ih =>
          intro i g s i0 ie fr N k
          have nk := N.2.1 6 (by decide) (by decide)
          have N2 := N.add (v := x 3) p6 d4 (by omega)
          have so := N.2.2.1
          have z6 : min 999 (g 49 6 + x 3) = pAdd s (x 1) (x 2) (x 3) (12 + 9 * x 1 + (2 + x 2)) := by
            have := N2.1 6 (by decide) (by decide)
            rw [aset_eq] at this
            exact this
          have ex : pExc (pAdd s (x 1) (x 2) (x 3)) (x 1) (x 2) (pRoom (pAdd s (x 1) (x 2) (x 3)) (x 1)) = min 999 (g 49 6 + x 3) - h 85 (66 + x 2) * pRoom (h 85) (x 1) := by
            unfold pExc
            rw [N2.2.2.2.2, ← z6, pAdd_n (by omega), so _ (by omega)]
          have e8 : pAdd s (x 1) (x 2) (x 3) 8 = s 8 := pAdd_n (by omega)
          have g6 : hup g 49 6 (min 999 (g 49 6 + x 3)) 49 6 = min 999 (g 49 6 + x 3) := hup_eq
          have fg : ∀ o, o ≠ 49 → o ≠ 50 → hup g 49 6 (min 999 (g 49 6 + x 3)) o = h o := fun o a b => by rw [hup_o a]; exact fr o a b
          have gN : NR (h 85) (pAdd s (x 1) (x 2) (x 3)) (x 1) (x 2) (hup g 49 6 (min 999 (g 49 6 + x 3)) 49) := by rw [hup_s]; exact N2
          unfold fB at k
          rw [ex] at k
          refine Runs.go 60 [45, 70] ?_
          refine br.f (by omega) ?_
          refine ⟨by decide, ⟨show -2147483648 ≤ g 49 6 + x 3 ∧ g 49 6 + x 3 < 2147483648 by omega, ⟨by decide, ?_⟩⟩⟩
          have H : Runs 149 1 70 [vA 1, vI (x 1), vI (x 2), vI (x 3), vA 49, vI (h 85 (66 + x 2) * pRoom (h 85) (x 1)), vI i] [] (hup g 49 6 (min 999 (g 49 6 + x 3))) Q2 := by
            generalize hup g 49 6 (min 999 (g 49 6 + x 3)) = q at *
            have J : CG q 2 (h 85) n := I.fr (fun o _ _ => fg o (by omega) (by omega))
            have tg : cTx q L (h 85 1) := t.fr (fun o _ _ => fg o (by omega) (by omega)) (fg 87 (by decide) (by decide))
            have sm : Same h q := fun o y => fg o (fun z => y (Or.inl z)) (fun z => y (Or.inr (Or.inl z)))
            refine Runs.go 40 [45] ?_
            refine ⟨by decide, ?_⟩
            refine br.j (fun y => ?_) (fun y => ?_)
            · have y' : ¬ q 49 6 ≤ h 85 (66 + x 2) * pRoom (h 85) (x 1) := y
              rw [if_pos (by omega)] at k
              exact k q sm
            · have y' : q 49 6 ≤ h 85 (66 + x 2) * pRoom (h 85) (x 1) := y
              rw [if_neg (by omega)] at k
              refine c_dryOne J hn tg (by omega) d4 gN (fun z => ?_) (fun z h2 N3 f3 => ?_)
              · rw [if_neg (by omega)] at k
                exact br.f (by decide) (k q sm)
              · rw [if_pos (by omega)] at k
                refine br.t (by decide) ⟨by omega, ?_⟩
                exact ih (i + 1) h2 _ (by omega) (by omega) (fun o a b => (f3 o a b).trans (fg o a b)) N3 k
          exact H
      have G : ∀ m : Int, m = h 85 (66 + x 2) * pRoom (h 85) (x 1) → Runs 149 1 42 [vA 1, vI (x 1), vI (x 2), vI (x 3), vA 49, vI m, none] [] h1 Q2 := by
        intro m em
        subst em
        refine Runs.go 10 [45] ?_
        exact M 61 0 h1 (h 85) (by decide) (by decide) (fun o y _ => e1 o y) (NR.look w p6 d4 en) k
      exact G _ (by rw [e7])
    exact C _ k
  · have q0 := w.p0
    have F : ¬ (((0 ≤ x 1 ∧ x 1 < h 85 0) ∧ 0 ≤ x 2 ∧ x 2 ≤ 2) ∧ 1 ≤ x 3 ∧ x 3 ≤ 99) → Q (vI (-1)) h := fun y => by
      have K := k h Same.rf
      rw [if_neg y] at K
      exact K
    refine Runs.go 60 [40] ?_
    refine r_isOne w ?_
    refine br.i (fun y => F (fun q => b2i_z y q.1.1)) (fun y1 => ?_)
    refine r_isKind ?_
    refine br.i (fun y => F (fun q => b2i_z y q.1.2)) (fun y2 => ?_)
    refine r_isIn ?_
    refine br.j (fun y => F (fun q => b2i_z (Decidable.not_not.mp y) q.2)) (fun y3 => ?_)
    have k1 := b2i_nz y1
    have k2 := b2i_nz y2
    have k3 := b2i_nz y3
    rw [if_pos ⟨⟨k1, k2⟩, k3⟩] at k
    have p6 : 0 ≤ x 1 ∧ x 1 < 6 := by omega
    refine r_aside (fun h1 e9 f9 => ?_)
    have b5 : h1 85 = h 85 := f9 85 (by decide)
    have t1 : cTx h1 L (h 85 1) := t.fr (fun o _ _ => f9 o (by omega)) (f9 87 (by decide))
    have E : ∀ (g : Hp) (s : aA) (v b i : Int), g 85 = s → (∀ j, ¬ (j = 8 ∨ (12 ≤ j ∧ j < 66)) → s j = h 85 j) → frQ h1 g → (b = 0 ∨ 60 < i) → (∀ h2, Same h h2 → Q (vI v) h2) → Runs 150 275 40 [vA 84, vI (x 1), vI (x 2), vI (x 3), vI v, vI b, vI i] [] g Q := by
      intro g s v b i e so f hb kk
      have P : Runs 150 275 113 [vA 84, vI (x 1), vI (x 2), vI (x 3), vI v, vI b, vI i] [] g Q := by
        refine Runs.go 20 [] ?_
        refine r_putBack (fun h2 e2 f2 => ?_)
        have e93 : g 93 = h1 93 := f 93 (by decide) (by decide) (by decide) (by decide)
        have B := back_s (h := h) (g := g) (s := s) (fun j a b => by rw [e93]; exact e9 j a b) e so
        refine kk h2 (fun o y => ?_)
        by_cases c5 : o = 85
        · subst c5; rw [e2]; exact B
        · rw [f2 o c5, f.r o c5 y]; exact f9 o (by unfold scr at y; omega)
      refine Runs.go 20 [113] ?_
      refine br.i (fun _ => P) (fun y => br.i (fun _ => P) (fun z => ?_))
      omega
    have M : ∀ (f : Nat) (i : Int) (g : Hp) (s : aA), 0 ≤ i → i + f = 61 → g 85 = s → Wf s → (∀ j, ¬ (j = 8 ∨ (12 ≤ j ∧ j < 66)) → s j = h 85 j) → frQ h1 g → (∀ h2, Same h h2 → Q (vI (fB L (x 1) (x 2) (x 3) f i s)) h2) → Runs 150 275 40 [vA 84, vI (x 1), vI (x 2), vI (x 3), vI (-1), vI 1, vI i] [] g Q := by
      intro f
      induction f with
      | zero =>
        intro i g s i0 ie es ws so fr kk
        exact E g s (-1) 1 i es so fr (Or.inr (by omega)) kk
      | succ f ih =>
        intro i g s i0 ie es ws so fr kk
        have wA : Wf (pAdd s (x 1) (x 2) (x 3)) := ws.amt p6 (by omega) (cutI_r (by decide))
        have sA : ∀ j, ¬ (j = 8 ∨ (12 ≤ j ∧ j < 66)) → pAdd s (x 1) (x 2) (x 3) j = h 85 j := fun j hj => by rw [pAdd_n (by omega)]; exact so j hj
        have e8 : pAdd s (x 1) (x 2) (x 3) 8 = s 8 := pAdd_n (by omega)
        unfold fB at kk
        refine Runs.go 40 [40] ?_
        refine br.f (by omega) (br.f (by decide) ?_)
        refine r_more (by rw [es]; exact ws) p6 (by omega) (by omega) ?_
        have eq : hup g 85 (12 + 9 * x 1 + (2 + x 2)) (cutI 0 999 (g 85 (12 + 9 * x 1 + (2 + x 2)) + x 3)) 85 = pAdd s (x 1) (x 2) (x 3) := by rw [hup_s, es]; rfl
        have fq : frQ h1 (hup g 85 (12 + 9 * x 1 + (2 + x 2)) (cutI 0 999 (g 85 (12 + 9 * x 1 + (2 + x 2)) + x 3))) := fr.up
        generalize hup g 85 (12 + 9 * x 1 + (2 + x 2)) (cutI 0 999 (g 85 (12 + 9 * x 1 + (2 + x 2)) + x 3)) = q at *
        refine r_isOver (by rw [eq]; exact wA) p6 (by omega) ?_
        rw [eq]
        refine br.i (fun y => ?_) (fun y => ?_)
        · rw [if_neg (b2i_z y)] at kk
          refine br.f (by decide) ⟨by decide, ?_⟩
          refine br.i (fun z => ?_) (fun z => ?_)
          · have z' : 9999 ≤ q 85 8 := z
            rw [eq, e8] at z'
            rw [if_neg (by omega)] at kk
            refine br.t rfl ⟨by omega, ?_⟩
            exact E q _ (-1) 0 (i + 1) eq sA fq (Or.inl rfl) kk
          · have z' : ¬ 9999 ≤ q 85 8 := z
            rw [eq, e8] at z'
            rw [if_pos (by omega)] at kk
            refine br.f (by decide) ?_
            refine r_pass2 (by rw [eq]; exact wA) (by rw [eq, sA 1 (by decide)]; exact t1.frR fq.r) (fun h2 e2 f2 => ⟨by omega, ?_⟩)
            exact ih (i + 1) h2 (pPass L (pAdd s (x 1) (x 2) (x 3))) (by omega) (by omega) (by rw [e2, eq]) (wA.pass (by omega)) (fun j hj => by rw [pPass_o wA (by omega) (by omega)]; exact sA j hj) (fq.tr f2) kk
        · rw [if_pos (b2i_nz y)] at kk
          refine br.t (by omega) (br.t rfl ⟨by omega, ?_⟩)
          exact E q _ i 0 (i + 1) eq sA fq (Or.inl rfl) kk
    exact M 61 0 h1 (h 85) (by decide) (by decide) b5 w (fun _ _ => rfl) frQ.rf k
