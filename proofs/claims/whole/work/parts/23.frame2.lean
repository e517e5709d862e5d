/-! FRAMES, second half -/
def aset (a : aA) (i v : Int) : aA := fun j => if j = i then v else a j
theorem aset_eq {a : aA} {i v : Int} : aset a i v i = v := if_pos rfl
theorem aset_ne {a : aA} {i v j : Int} (e : j ≠ i) : aset a i v j = a j := if_neg e
theorem hup_o {h : Hp} {o q : Nat} {i v : Int} (e : q ≠ o) : hup h o i v q = h q := by
  funext j
  unfold hup
  exact if_neg (fun z => e z.1)
theorem hup_s {h : Hp} {o : Nat} {i v : Int} : hup h o i v o = aset (h o) i v := by
  funext j
  unfold hup aset
  by_cases z : j = i
  · rw [if_pos ⟨rfl, z⟩, if_pos z]
  · rw [if_neg (fun y => z y.2), if_neg z]
theorem hup_eq {h : Hp} {o : Nat} {i v : Int} : hup h o i v o i = v := by rw [hup_s, aset_eq]
theorem hup_nj {h : Hp} {o : Nat} {i v j : Int} (e : j ≠ i) : hup h o i v o j = h o j := by rw [hup_s, aset_ne e]
theorem hcp_o {h : Hp} {o q x : Nat} {s d n : Int} (e : x ≠ q) : hcp h o s q d n x = h x := by
  funext j
  unfold hcp
  exact if_neg (fun z => e z.1)
theorem hcp_in {h : Hp} {o q : Nat} {s d n j : Int} (e : d ≤ j ∧ j < d + n) : hcp h o s q d n q j = h o (s + (j - d)) := by
  unfold hcp
  exact if_pos ⟨rfl, e⟩
theorem hcp_out {h : Hp} {o q : Nat} {s d n j : Int} (e : ¬ (d ≤ j ∧ j < d + n)) : hcp h o s q d n q j = h q j := by
  unfold hcp
  exact if_neg (fun z => e z.2)
section FR2
variable {h h1 : Hp} {c c1 : Nat} {a a1 : aA} {n : Int}
theorem cSeq.cg (hp : ∀ j, 0 ≤ j → j < a 3 → 0 ≤ a (166 + 41 * j) ∧ a (166 + 41 * j) ≤ a 0) (h3 : a 3 ≤ 30) (e3 : a1 3 = a 3) (e11 : a1 11 = a 11) (h0 : a 0 ≤ 6)
    (eT : ∀ p, 0 ≤ p → p < a 0 → a1 (12 + 9 * p + 7) = a (12 + 9 * p + 7) ∧ a1 (12 + 9 * p + 8) = a (12 + 9 * p + 8)) (ea : ∀ j, 166 ≤ j → j < 1396 → a1 j = a j) (I : cSeq a) : cSeq a1 := by
  unfold cSeq at *
  rw [e3, e11]
  refine ⟨fun i j i0 ij j3 => ?_, fun i i0 i3 => ?_, fun j p j0 j3 p0 p1 => ?_⟩
  · rw [ea (166 + 41 * i) (by omega) (by omega), ea (166 + 41 * j) (by omega) (by omega), ea (166 + 41 * i + 4) (by omega) (by omega), ea (166 + 41 * j + 4) (by omega) (by omega)]
    exact I.1 i j i0 ij j3
  · rw [ea (166 + 41 * i + 4) (by omega) (by omega)]
    exact I.2.1 i i0 i3
  · rw [ea (166 + 41 * j) (by omega) (by omega)] at p0
    rw [ea (166 + 41 * (j + 1)) (by omega) (by omega)] at p1
    have q1 := hp j (by omega) (by omega)
    have q2 := hp (j + 1) (by omega) (by omega)
    exact (I.2.2 j p j0 j3 p0 p1).cg (fun k _ _ => ea _ (by omega) (by omega)) (eT p (by omega) (by omega)).1 (eT p (by omega) (by omega)).2
theorem cSteps.hp (I : cSteps h c a) : ∀ j, 0 ≤ j → j < a 3 → 0 ≤ a (166 + 41 * j) ∧ a (166 + 41 * j) ≤ a 0 := fun j j0 j3 => (I.2.2.1 j j0 j3).1.2
theorem cSteps.cg (e1 : h1 (c1 + 21) 1 = h (c + 21) 1) (e2 : h1 (c1 + 21) 2 = h (c + 21) 2) (e : ∀ j, 0 ≤ j → j < 2130 → h1 (c1 + 22) j = h (c + 22) j) (h0 : a 0 ≤ 6) (e0 : a 0 ≤ a1 0) (e3 : a1 3 = a 3) (e11 : a1 11 = a 11)
    (eT : ∀ p, 0 ≤ p → p < a 0 → a1 (12 + 9 * p + 7) = a (12 + 9 * p + 7) ∧ a1 (12 + 9 * p + 8) = a (12 + 9 * p + 8)) (ea : ∀ j, 166 ≤ j → j < 3856 → a1 j = a j) (I : cSteps h c a) : cSteps h1 c1 a1 := by
  have hp := I.hp
  unfold cSteps at *
  rw [e1, e2, e3]
  refine ⟨I.1, I.2.1, fun j j0 j3 => ?_, I.2.2.2.cg hp I.1.2.2 e3 e11 h0 eT (fun j _ _ => ea j (by omega) (by omega))⟩
  exact (I.2.2.1 j j0 j3).cg (fun i _ _ => e _ (by omega) (by omega)) (fun i _ _ => ea _ (by omega) (by omega)) (fun z => by omega) (fun i _ _ => ⟨ea _ (by omega) (by omega), ea _ (by omega) (by omega)⟩)
theorem cNow.cg (h3 : a 3 ≤ 30) (hp : ∀ j, 0 ≤ j → j < a 3 → 0 ≤ a (166 + 41 * j) ∧ a (166 + 41 * j) ≤ a 0) (h0 : a 0 ≤ 6) (ea : ∀ j, 0 ≤ j → j < 1396 → (j = 0 ∨ j = 3 ∨ (12 ≤ j ∧ j < 66) ∨ 166 ≤ j) → a1 j = a j) (I : cNow a) : cNow a1 := by
  intro p p3 p0 p1
  rw [ea 3 (by decide) (by decide) (by decide)] at p3 p0
  rw [ea 0 (by decide) (by decide) (by decide)] at p1
  rw [ea _ (by omega) (by omega) (by omega)] at p0
  have q := hp (a 3 - 1) (by omega) (by omega)
  exact (I p p3 p0 p1).cg (fun k _ _ => ea _ (by omega) (by omega) (by omega)) (ea _ (by omega) (by omega) (by omega)) (ea _ (by omega) (by omega) (by omega))
/-- how many cells an object of a city has -/
def szC (i : Nat) : Int := nth 0 [7, 6, 6, 6, 24, 3, 3, 36, 30, 4, 8, 8, 8, 4, 8, 8, 8, 4, 8, 8, 8, 3, 2130] i
theorem CG.cg (e : ∀ i : Nat, i ≤ 22 → ∀ j, 0 ≤ j → j < szC i → h1 (c1 + i) j = h (c + i) j) (ea : ∀ j, 0 ≤ j → j < 3856 → a1 j = a j) (I : CG h c a n) : CG h1 c1 a1 n := by
  obtain ⟨i1, i2, i3, i4, i5, i6, i7, i8, i9, i10, i11⟩ := I
  have hp := i10.hp
  have q0 := i1.1.2
  have q3 := i10.1.2
  refine ⟨i1.cg (fun j _ _ => e 0 (by decide) j (by omega) (show j < (7 : Int) by omega)) (fun j _ _ _ => ea j (by omega) (by omega)), i2.cg ?_ (fun j _ z => e 4 (by decide) j (by omega) z) (fun j _ _ => ea j (by omega) (by omega)), i3.cg (fun j _ z => e 5 (by decide) j (by omega) z) (fun j _ _ => ea j (by omega) (by omega)),
    i4.cg (fun j _ z => e 6 (by decide) j (by omega) z) (fun j _ _ => ea j (by omega) (by omega)), i5.cg (fun j _ z => e 7 (by decide) j (by omega) z) (fun j _ _ => ea j (by omega) (by omega)),
    i6.cg (e 9 (by decide) 3 (by decide) (by decide)) ?_ (ea _ (by omega) (by omega)) (fun j _ _ => ea j (by omega) (by omega)), i7.cg (e 13 (by decide) 3 (by decide) (by decide)) ?_ (ea _ (by omega) (by omega)) (fun j _ _ => ea j (by omega) (by omega)), i8.cg (e 17 (by decide) 3 (by decide) (by decide)) ?_ (ea _ (by omega) (by omega)) (fun j _ _ => ea j (by omega) (by omega)),
    i9.cg (e 0 (by decide) 6 (by decide) (by decide)) (fun j _ z => e 8 (by decide) j (by omega) z) (ea _ (by omega) (by omega)) (fun j _ _ => ea j (by omega) (by omega)),
    i10.cg (e 21 (by decide) 1 (by decide) (by decide)) (e 21 (by decide) 2 (by decide) (by decide)) (fun j _ z => e 22 (by decide) j (by omega) z) q0.2 (Int.le_of_eq (ea 0 (by decide) (by decide)).symm) (ea _ (by omega) (by omega)) (ea _ (by omega) (by omega)) (fun p _ _ => ⟨ea _ (by omega) (by omega), ea _ (by omega) (by omega)⟩) (fun j _ _ => ea j (by omega) (by omega)), i11.cg q3.2 hp q0.2 (fun j _ _ _ => ea j (by omega) (by omega))⟩
  · intro i i1 i3 j j0 j6
    have : i = 1 ∨ i = 2 ∨ i = 3 := by omega
    rcases this with z | z | z <;> subst z <;> exact e _ (by decide) j j0 j6
  · intro i i1 i3 j j0 j6
    have : i = 10 ∨ i = 11 := by omega
    rcases this with z | z <;> subst z <;> exact e _ (by decide) j j0 j6
  · intro i i1 i3 j j0 j6
    have : i = 14 ∨ i = 15 := by omega
    rcases this with z | z <;> subst z <;> exact e _ (by decide) j j0 j6
  · intro i i1 i3 j j0 j6
    have : i = 18 ∨ i = 19 ∨ i = 20 := by omega
    rcases this with z | z | z <;> subst z <;> exact e _ (by decide) j j0 j6
theorem CG.fr (e : ∀ o, c ≤ o → o ≤ c + 22 → h1 o = h o) (I : CG h c a n) : CG h1 c a n := I.cg (fun i _ j _ _ => by rw [e (c + i) (by omega) (by omega)]) (fun _ _ _ => rfl)
theorem CG.le {m : Int} (hm : n ≤ m) (I : CG h c a n) : CG h c a m := by
  obtain ⟨a1, a2, a3, a4, a5, a6, a7, a8, ⟨⟨b1, b2, b3⟩, b4⟩, a10⟩ := I
  exact ⟨a1, a2, a3, a4, a5, a6, a7, a8, ⟨⟨b1, b2, by omega⟩, b4⟩, a10⟩
end FR2
theorem LawC.fr {h h1 : Hp} {T : Nat} {s : Int} {F : aF} (e : ∀ o, T ≤ o → o < T + 6 → h1 o = h o) (I : LawC h T s F) : LawC h1 T s F := fun d h2 Q e2 => I d h2 Q (fun o a b => (e2 o a b).trans (e o a b))
theorem LawR.fr {h h1 : Hp} {t k : Int} {F : aF} (e : h1 87 = h 87) (I : LawR h t k F) : LawR h1 t k F := fun d h2 Q e2 => I d h2 Q (fun j a b => (e2 j a b).trans (by rw [e]))
theorem TxtOK.fr {h h1 : Hp} {T : Nat} {t : Int} {l : Int → Option aF} (e : ∀ o, T ≤ o → o < T + 6 → h1 o = h o) (e7 : h1 87 = h 87) (I : TxtOK h T t l) : TxtOK h1 T t l := by
  have e0 : h1 T = h T := e _ (by omega) (by omega)
  have e1 : h1 (T + 1) = h (T + 1) := e _ (by omega) (by omega)
  have e4 : h1 (T + 4) = h (T + 4) := e _ (by omega) (by omega)
  unfold TxtOK at *
  simp only [e0, e1, e4, e7]
  refine ⟨I.1, I.2.1, I.2.2.1, fun s F a b z => ?_⟩
  obtain ⟨c, f1, f0, f2, k, c1, c2, c3, f3⟩ := I.2.2.2 s F a b z
  exact ⟨c, f1, f0, f2.fr e, k, c1, c2, c3, f3.fr e7⟩
theorem cTx.fr {h h1 : Hp} {L : aL} {m : Int} (e : ∀ o, 52 ≤ o → o < 76 → h1 o = h o) (e7 : h1 87 = h 87) (I : cTx h L m) : cTx h1 L m :=
  fun t a b => (I t a b).fr (fun o _ _ => e o (by omega) (by omega)) e7
theorem cTape.fr {h h1 : Hp} (e0 : h1 0 = h 0) (e4 : h1 84 = h 84) (e3 : h1 83 = h 83) (e8 : h1 88 = h 88) (I : cTape h) : cTape h1 := by
  unfold cTape at *
  rw [e0, e3, e4, e8]
  exact I
/-- what is scratch may change -/
theorem Inv.sc {n : Nat} {h h1 : Hp} (e : ∀ o, ¬ scr o → h1 o = h o) (I : Inv n h) : Inv n h1 := by
  have E : ∀ o, (o < 49 ∨ (50 < o ∧ o < 76) ∨ (82 < o ∧ o < 89)) → h1 o = h o := fun o a => e o (by unfold scr; omega)
  obtain ⟨i1, i2, i3, i4, i5, L, i6⟩ := I
  refine ⟨?_, ?_, i3.fr (E _ (by omega)) (E _ (by omega)) (E _ (by omega)) (E _ (by omega)), ?_, ?_, L, ?_⟩
  · rw [E 85 (by omega)]; exact i1.fr (fun o a b => E o (by omega))
  · rw [E 86 (by omega)]; exact i2.fr (fun o a b => E o (by omega))
  · rw [E 1 (by omega)]; exact i4
  · rw [E 85 (by omega), E 86 (by omega)]; exact i5
  · rw [E 85 (by omega)]; exact i6.fr (fun o a b => E o (by omega)) (E _ (by omega))
theorem Inv.le {h : Hp} {n m : Nat} (hm : n ≤ m) (I : Inv n h) : Inv m h := ⟨I.1.le (by omega), I.2.1.le (by omega), I.2.2⟩
/-! a call that only reads -/
def Same (h h1 : Hp) : Prop := ∀ o, ¬ scr o → h1 o = h o
theorem Same.rf {h : Hp} : Same h h := fun _ _ => rfl
theorem Same.tr {h h1 h2 : Hp} (a : Same h h1) (b : Same h1 h2) : Same h h2 := fun o c => (b o c).trans (a o c)
theorem CG.c0 {h : Hp} {c : Nat} {a : aA} {n : Int} (I : CG h c a n) : CG0 h c a n := ⟨I.1, I.2.1, I.2.2.1, I.2.2.2.1, I.2.2.2.2.1, I.2.2.2.2.2.1, I.2.2.2.2.2.2.1, I.2.2.2.2.2.2.2.1, I.2.2.2.2.2.2.2.2.1, I.2.2.2.2.2.2.2.2.2.1.1.2⟩
theorem Ws.wf {a : aA} (w : Ws a) : Wf a := by obtain ⟨g, n, I, hn⟩ := w; exact ⟨g, n, I.c0, hn⟩
theorem Inv.ws {n : Nat} {h : Hp} (I : Inv n h) (hn : n < 512) : Ws (h 85) := ⟨h, 40 * n, I.1, by omega⟩
theorem Inv.wf {n : Nat} {h : Hp} (I : Inv n h) (hn : n < 512) : Wf (h 85) := (I.ws hn).wf
theorem opR {mc mr : Nat} {av : List AV} (z : aA → aL → Int)
    (hc : ∀ h L n (Q : aPO), CG h 2 (h 85) n → n ≤ 30000 → cTx h L (h 85 1) → (∀ h1, Same h h1 → Q (vI (z (h 85) L)) h1) → Runs 150 mc 0 (pad (ents (vA 0 :: av)) (mLo mc)) [] h Q)
    (hr : ∀ h L (Q : aPO), Wf (h 85) → cTx h L (h 85 1) → (∀ h1, Same h h1 → Q (vI (z (h 85) L)) h1) → Runs 150 mr 0 (pad (ents (vA 84 :: av)) (mLo mr)) [] h Q) : OpI Inv mc mr av := by
  intro n hn h I ok
  obtain ⟨L, iL⟩ := I.2.2.2.2.2
  refine hc h L (40 * n) _ I.1 (by omega) iL (fun h1 s => ⟨_, rfl, ?_⟩)
  have I1 := I.sc s
  have e85 : h1 85 = h 85 := s 85 (by unfold scr; omega)
  have iL1 : cTx h1 L (h1 85 1) := by
    rw [e85]
    exact iL.fr (fun o _ _ => s o (by unfold scr; omega)) (s 87 (by unfold scr; omega))
  refine hr h1 L _ (I1.wf hn) iL1 (fun h2 s2 => ⟨?_, (I1.sc s2).le (by omega)⟩)
  rw [e85]
/-- the class's part and the reference's part of what a call may write -/
def frC (h h1 : Hp) : Prop := ∀ o, ¬ (2 ≤ o ∧ o ≤ 24) → ¬ scr o → h1 o = h o
def frR (h h1 : Hp) : Prop := ∀ o, o ≠ 85 → ¬ scr o → h1 o = h o
theorem frC.rf {h : Hp} : frC h h := fun _ _ _ => rfl
theorem frR.rf {h : Hp} : frR h h := fun _ _ _ => rfl
theorem frC.tr {h h1 h2 : Hp} (x : frC h h1) (y : frC h1 h2) : frC h h2 := fun o p q => (y o p q).trans (x o p q)
theorem frR.tr {h h1 h2 : Hp} (x : frR h h1) (y : frR h1 h2) : frR h h2 := fun o p q => (y o p q).trans (x o p q)
theorem frC.up {h h1 : Hp} {o : Nat} {i v : Int} (x : frC h h1) (e : (2 ≤ o ∧ o ≤ 24) ∨ scr o) : frC h (hup h1 o i v) := fun q p z => by
  rw [hup_o (fun y => by subst y; rcases e with e | e; exact p e; exact z e)]; exact x q p z
theorem frR.up {h h1 : Hp} {o : Nat} {i v : Int} (x : frR h h1) (e : o = 85 ∨ scr o) : frR h (hup h1 o i v) := fun q p z => by
  rw [hup_o (fun y => by subst y; rcases e with e | e; exact p e; exact z e)]; exact x q p z
theorem frC.cp {h h1 : Hp} {o p : Nat} {i v w : Int} (x : frC h h1) (e : (2 ≤ o ∧ o ≤ 24) ∨ scr o) : frC h (hcp h1 p i o v w) := fun q p z => by
  rw [hcp_o (fun y => by subst y; rcases e with e | e; exact p e; exact z e)]; exact x q p z
theorem cTx.frC {h h1 : Hp} {L : aL} {m : Int} (x : frC h h1) (I : cTx h L m) : cTx h1 L m := I.fr (fun o _ _ => x o (by omega) (by unfold scr; omega)) (x 87 (by omega) (by unfold scr; omega))
theorem cTx.frR {h h1 : Hp} {L : aL} {m : Int} (x : frR h h1) (I : cTx h L m) : cTx h1 L m := I.fr (fun o _ _ => x o (by omega) (by unfold scr; omega)) (x 87 (by omega) (by unfold scr; omega))
/-- a call that writes: the class's city, the reference's row -/
theorem opM {mc mr : Nat} {av : List AV} (z : aA → aL → Int) (f : aA → aL → aA)
    (hc : ∀ h L n (Q : aPO), CG h 2 (h 85) n → n ≤ 30000 → h 1 3 = 0 → cTx h L (h 85 1) → (∀ h1, CG h1 2 (f (h 85) L) (n + 40) → frC h h1 → Q (vI (z (h 85) L)) h1) → Runs 150 mc 0 (pad (ents (vA 0 :: av)) (mLo mc)) [] h Q)
    (hr : ∀ h L (Q : aPO), Ws (h 85) → cTx h L (h 85 1) → (∀ h1, h1 85 = f (h 85) L → frR h h1 → Q (vI (z (h 85) L)) h1) → Runs 150 mr 0 (pad (ents (vA 84 :: av)) (mLo mr)) [] h Q)
    (h1 : ∀ a L, Wf a → f a L 1 = a 1) : OpI Inv mc mr av := by
  intro n hn h I ok
  have ws := I.ws hn
  have w := ws.wf
  obtain ⟨i1, i2, i3, i4, i5, L, iL⟩ := I
  refine hc h L (40 * n) _ i1 (by omega) i4 iL (fun g1 j1 s => ⟨_, rfl, ?_⟩)
  have e85 : g1 85 = h 85 := s 85 (by omega) (by unfold scr; omega)
  have iL1 : cTx g1 L (g1 85 1) := by rw [e85]; exact iL.frC s
  refine hr g1 L _ (by rw [e85]; exact ws) iL1 (fun g2 e s2 => ⟨by rw [e85], ?_⟩)
  have S : ∀ o, ¬ (2 ≤ o ∧ o ≤ 24) → o ≠ 85 → ¬ scr o → g2 o = h o := fun o p q r => (s2 o q r).trans (s o p r)
  have T : ∀ o, 2 ≤ o → o ≤ 24 → g2 o = g1 o := fun o p q => s2 o (by omega) (by unfold scr; omega)
  rw [e85] at e
  have e6 : g2 86 = h 86 := S 86 (by omega) (by omega) (by unfold scr; omega)
  refine ⟨?_, ?_, i3.fr (S _ (by omega) (by omega) (by unfold scr; omega)) (S _ (by omega) (by omega) (by unfold scr; omega)) (S _ (by omega) (by omega) (by unfold scr; omega)) (S _ (by omega) (by omega) (by unfold scr; omega)), ?_, ?_, L, ?_⟩
  · rw [e]; exact (j1.fr (fun o p q => T o p (by omega))).le (by omega)
  · rw [e6]; exact (i2.fr (fun o p q => S o (by omega) (by omega) (by unfold scr; omega))).le (by omega)
  · rw [S 1 (by omega) (by omega) (by unfold scr; omega)]; exact i4
  · rw [e, e6, h1 _ _ w]; exact i5
  · rw [e, h1 _ _ w]; exact iL.fr (fun o _ _ => S o (by omega) (by omega) (by unfold scr; omega)) (S 87 (by omega) (by omega) (by unfold scr; omega))
theorem b2i_z {c : Prop} [Decidable c] (h : b2i c = 0) : ¬ c := fun z => by rw [b2i_t z] at h; exact absurd h (by decide)
theorem b2i_nz {c : Prop} [Decidable c] (h : ¬ b2i c = 0) : c := by
  by_cases z : c
  · exact z
  · exact absurd (b2i_f z) h
section ACC
variable {n : Int} {h : Hp} {c : Nat} {a : aA}
theorem CG.num (I : CG h c a n) : cNum h c a := I.1
theorem CG.per (I : CG h c a n) : cPer h c a := I.2.1
theorem CG.brim (I : CG h c a n) : cBrim h c a := I.2.2.1
theorem CG.cost (I : CG h c a n) : cCost h c a := I.2.2.2.1
theorem CG.way (I : CG h c a n) : cWay h c a := I.2.2.2.2.1
theorem CG.plan (I : CG h c a n) : cPlan h c a := I.2.2.2.2.2.1
theorem CG.year (I : CG h c a n) : cYear h c a := I.2.2.2.2.2.2.1
theorem CG.dried (I : CG h c a n) : cDried h c a := I.2.2.2.2.2.2.2.1
theorem CG.book (I : CG h c a n) : cBook h c a n := I.2.2.2.2.2.2.2.2.1
theorem CG.steps (I : CG h c a n) : cSteps h c a := I.2.2.2.2.2.2.2.2.2.1
theorem CG.now (I : CG h c a n) : cNow a := I.2.2.2.2.2.2.2.2.2.2
variable {h0 : Hp}
theorem CG0.num (I : CG0 h c a n) : cNum h c a := I.1
theorem CG0.per (I : CG0 h c a n) : cPer h c a := I.2.1
theorem CG0.brim (I : CG0 h c a n) : cBrim h c a := I.2.2.1
theorem CG0.cost (I : CG0 h c a n) : cCost h c a := I.2.2.2.1
theorem CG0.way (I : CG0 h c a n) : cWay h c a := I.2.2.2.2.1
theorem CG0.plan (I : CG0 h c a n) : cPlan h c a := I.2.2.2.2.2.1
theorem CG0.year (I : CG0 h c a n) : cYear h c a := I.2.2.2.2.2.2.1
theorem CG0.dried (I : CG0 h c a n) : cDried h c a := I.2.2.2.2.2.2.2.1
theorem CG0.book (I : CG0 h c a n) : cBook h c a n := I.2.2.2.2.2.2.2.2.1
theorem CG0.st3 (I : CG0 h c a n) : 0 ≤ a 3 ∧ a 3 ≤ 30 := I.2.2.2.2.2.2.2.2.2
end ACC
