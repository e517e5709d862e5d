/-! TEXTS: what was read is the text -/
def eG (cd vl : Int → Int) (e : cE) : Prop := (0 ≤ e.1 ∧ e.1 ≤ 12) ∧ (e.1 ≤ 2 → ∃ a b, Der cd vl e.1 2 0 a b e.2.2) ∧ ∀ j, 1 ≤ j → j ≤ parts e.1 → 0 ≤ e.2.1 j ∧ e.2.1 j ≤ 9999
section EG
variable {cd vl : Int → Int} {k k2 lo hi c : Int} {r : List (Int × Int × Int)}
theorem oRun_1 (e : oRun cd vl ((-1, lo, hi) :: r) k = (0, k2)) : (lo ≤ vl k ∧ vl k ≤ hi) ∧ oRun cd vl r (k + 1) = (0, k2) := by
  by_cases z1 : cd k = 46
  · by_cases z2 : vl k < lo ∨ hi < vl k
    · rw [oR_b z1 z2] at e
      exact absurd (Prod.mk.inj e).1 (by decide)
    · rw [oR_c z1 (by omega) (by omega)] at e
      exact ⟨by omega, e⟩
  · rw [oR_a z1] at e
    exact absurd (Prod.mk.inj e).1 (by decide)
theorem oRun_2 (c0 : 0 ≤ c) (e : oRun cd vl ((c, lo, hi) :: r) k = (0, k2)) : (lo ≤ vl (k + 1) ∧ vl (k + 1) ≤ hi) ∧ oRun cd vl r (k + 2) = (0, k2) := by
  by_cases z : cd k = c
  · rw [oR_x c0 z] at e
    have := oRun_1 e
    rw [show k + 1 + 1 = k + 2 by omega] at this
    exact this
  · rw [oR_w c0 z] at e
    exact absurd (Prod.mk.inj e).1 (by decide)
theorem oPar_r {w : Int} (hw : 3 ≤ w ∧ w ≤ 12) (e : oRun cd vl (its w) k = (0, k2)) : ∀ j, 1 ≤ j → j ≤ parts w → 0 ≤ oPar vl k j ∧ oPar vl k j ≤ 9999 := by
  intro j j1 j2
  have cw : w = 3 ∨ w = 4 ∨ w = 5 ∨ w = 6 ∨ w = 7 ∨ w = 8 ∨ w = 9 ∨ w = 10 ∨ w = 11 ∨ w = 12 := by omega
  unfold oPar
  rcases cw with z | z | z | z | z | z | z | z | z | z <;> subst z
  · have a := oRun_1 (lo := 0) (hi := 2) (r := [(15, 0, 9), (19, 0, 9999)]) e
    have b := oRun_2 (by decide) a.2
    have d := oRun_2 (by decide) b.2
    have j3 : j ≤ 3 := j2
    have cj : j = 1 ∨ j = 2 ∨ j = 3 := by omega
    rcases cj with y | y | y <;> subst y
    · rw [show k + 2 * (1 - 1) = k by omega]; omega
    · rw [show k + 2 * (2 - 1) = k + 1 + 1 by omega]; omega
    · rw [show k + 2 * (3 - 1) = k + 1 + 2 + 1 by omega]; omega
  · have a := oRun_1 (lo := 0) (hi := 9) (r := [(21, 0, 2)]) e
    have b := oRun_2 (by decide) a.2
    have j3 : j ≤ 2 := j2
    have cj : j = 1 ∨ j = 2 := by omega
    rcases cj with y | y <;> subst y
    · rw [show k + 2 * (1 - 1) = k by omega]; omega
    · rw [show k + 2 * (2 - 1) = k + 1 + 1 by omega]; omega
  · have a := oRun_1 (lo := 1) (hi := 99) (r := []) e
    have j3 : j ≤ 1 := j2
    have y : j = 1 := by omega
    subst y
    rw [show k + 2 * (1 - 1) = k by omega]; omega
  · have a := oRun_1 (lo := 1) (hi := 99) (r := [(21, 0, 2), (22, 0, 5)]) e
    have b := oRun_2 (by decide) a.2
    have d := oRun_2 (by decide) b.2
    have j3 : j ≤ 3 := j2
    have cj : j = 1 ∨ j = 2 ∨ j = 3 := by omega
    rcases cj with y | y | y <;> subst y
    · rw [show k + 2 * (1 - 1) = k by omega]; omega
    · rw [show k + 2 * (2 - 1) = k + 1 + 1 by omega]; omega
    · rw [show k + 2 * (3 - 1) = k + 1 + 2 + 1 by omega]; omega
  · have a := oRun_1 (lo := 1) (hi := 99) (r := [(22, 0, 5)]) e
    have b := oRun_2 (by decide) a.2
    have j3 : j ≤ 2 := j2
    have cj : j = 1 ∨ j = 2 := by omega
    rcases cj with y | y <;> subst y
    · rw [show k + 2 * (1 - 1) = k by omega]; omega
    · rw [show k + 2 * (2 - 1) = k + 1 + 1 by omega]; omega
  · have a := oRun_1 (lo := 1) (hi := 99) (r := [(21, 0, 2), (22, 0, 5)]) e
    have b := oRun_2 (by decide) a.2
    have d := oRun_2 (by decide) b.2
    have j3 : j ≤ 3 := j2
    have cj : j = 1 ∨ j = 2 ∨ j = 3 := by omega
    rcases cj with y | y | y <;> subst y
    · rw [show k + 2 * (1 - 1) = k by omega]; omega
    · rw [show k + 2 * (2 - 1) = k + 1 + 1 by omega]; omega
    · rw [show k + 2 * (3 - 1) = k + 1 + 2 + 1 by omega]; omega
  · have a := oRun_1 (lo := 0) (hi := 5) (r := [(21, 0, 2)]) e
    have b := oRun_2 (by decide) a.2
    have j3 : j ≤ 2 := j2
    have cj : j = 1 ∨ j = 2 := by omega
    rcases cj with y | y <;> subst y
    · rw [show k + 2 * (1 - 1) = k by omega]; omega
    · rw [show k + 2 * (2 - 1) = k + 1 + 1 by omega]; omega
  · have a := oRun_1 (lo := 0) (hi := 5) (r := []) e
    have j3 : j ≤ 1 := j2
    have y : j = 1 := by omega
    subst y
    rw [show k + 2 * (1 - 1) = k by omega]; omega
  · have a := oRun_1 (lo := 1) (hi := 99) (r := []) e
    have j3 : j ≤ 1 := j2
    have y : j = 1 := by omega
    subst y
    rw [show k + 2 * (1 - 1) = k by omega]; omega
  · have a := oRun_1 (lo := 1) (hi := 60) (r := []) e
    have j3 : j ≤ 1 := j2
    have y : j = 1 := by omega
    subst y
    rw [show k + 2 * (1 - 1) = k by omega]; omega
theorem ClS.eg {E : List cE} {e : cE} {k1 : Int} (s : ClS cd vl k E e k1) : eG cd vl e := by
  rcases s.2 with ⟨a, b, -, k2, x, d, -, -, -, ee⟩ | ⟨a, b, k2, o, -, -, -, ee⟩
  · subst ee
    refine ⟨⟨a, by show cd k ≤ 12; omega⟩, fun _ => ⟨_, _, d⟩, fun j j1 j2 => ?_⟩
    have : parts (cd k) = 0 := by unfold parts; rw [if_pos b]
    have j2' : j ≤ parts (cd k) := j2
    omega
  · subst ee
    exact ⟨⟨by show 0 ≤ cd k; omega, b⟩, fun z => by have z' : cd k ≤ 2 := z; omega, oPar_r ⟨a, b⟩ o⟩
theorem Tr.eg {E E' : List cE} {f kf : Int} (T : Tr cd vl k E f kf E') : (∀ e ∈ E, eG cd vl e) → ∀ e ∈ E', eG cd vl e := by
  refine T (fun _ E _ _ E' => (∀ e ∈ E, eG cd vl e) → ∀ e ∈ E', eG cd vl e) ⟨fun _ _ _ z => z, fun _ _ _ _ _ z => z, fun k E e k1 f kf E' s _ X z => X (fun a ha => ?_)⟩
  rcases List.mem_append.mp ha with y | y
  · exact z a y
  · rw [List.mem_singleton.mp y]
    exact s.eg
end EG
def lwO : List cE → Int → Option aF
  | [], _ => none
  | e :: r, s => if e.1 = s then some (fun nm br => clp (e.2.2.2.2 nm br)) else lwO r s
section GT
variable {T : Nat} {h : Hp} {t : Int} {cd vl : Int → Int}
theorem rows_get : ∀ {E : List cE} {i b b2 : Int}, rwC T h i b E → rwR h t i b2 E → (∀ e ∈ E, eG cd vl e) → ∀ j, i ≤ j → j < i + E.length →
    h (T + 1) (j * 4 + 0) = h 87 (705 * t + 1 + 4 * j) ∧ (0 ≤ h 87 (705 * t + 1 + 4 * j) ∧ h 87 (705 * t + 1 + 4 * j) ≤ 12) ∧ ∀ m, 1 ≤ m → m ≤ parts (h 87 (705 * t + 1 + 4 * j)) → h (T + 1) (j * 4 + m) = h 87 (705 * t + 1 + 4 * j + m) ∧ 0 ≤ h 87 (705 * t + 1 + 4 * j + m) ∧ h 87 (705 * t + 1 + 4 * j + m) ≤ 9999
  | [], i, b, b2, _, _, _, j, j0, j1 => by
    have : j < i + ((0 : Nat) : Int) := j1
    omega
  | a :: E, i, b, b2, c, r, g, j, j0, j1 => by
    have l : ((a :: E).length : Int) = E.length + 1 := by simp
    by_cases z : j = i
    · subst z
      have ga := g a List.mem_cons_self
      rw [c.1.1.1, r.1.1.1]
      refine ⟨rfl, ga.1, fun m m1 m2 => ?_⟩
      rw [c.1.1.2 m m1 m2, r.1.1.2 m m1 m2]
      exact ⟨rfl, ga.2.2 m m1 m2⟩
    · exact rows_get c.2 r.2 (fun e he => g e (List.mem_cons_of_mem _ he)) j (by omega) (by omega)
theorem law_get (hT : tT T) (t4 : 0 ≤ t ∧ t < 4) {s : Int} (hs : 0 ≤ s ∧ s < 3) : ∀ {E : List cE} {i b b2 : Int}, 0 ≤ i → 0 ≤ b → 0 ≤ b2 → b + lC E ≤ 300 → b2 + lR E ≤ 303 → i + E.length ≤ 24 → rwC T h i b E → rwR h t i b2 E → (∀ e ∈ E, eG cd vl e) →
    (lwO E s = none → ¬ srt E s ∧ ∀ j, i ≤ j → j < i + E.length → h 87 (705 * t + 1 + 4 * j) ≠ s) ∧
    (∀ F, lwO E s = some F → h (T + 4) s ≠ -1 ∧ (∀ a b, -1000000 ≤ F a b ∧ F a b ≤ 1000000) ∧ (s = 0 → six F) ∧ LawC h T s F ∧ ∃ k, (i ≤ k ∧ k < i + E.length) ∧ h 87 (705 * t + 1 + 4 * k) = s ∧ (∀ j, i ≤ j → j < k → h 87 (705 * t + 1 + 4 * j) ≠ s) ∧ LawR h t k F)
  | [], i, b, b2, _, _, _, _, _, _, _, _, _ => by
    refine ⟨fun _ => ⟨fun z => ?_, fun j j0 j1 => ?_⟩, fun F e => ?_⟩
    · obtain ⟨e, e1, -⟩ := z
      exact absurd e1 (by simp)
    · have : j < i + ((0 : Nat) : Int) := j1
      omega
    · exact absurd e (by simp [lwO])
  | a :: E, i, b, b2, i0, b0, b20, lc, lr, ln, c, r, g => by
    have l : ((a :: E).length : Int) = E.length + 1 := by simp
    have lc' : b + ((a.2.2.1.length : Int) + lC E) ≤ 300 := lc
    have lr' : b2 + ((a.2.2.2.1.length : Int) + lR E) ≤ 303 := lr
    have z1 := lC_0 (E := E)
    have z2 := lR_0 (E := E)
    have ga := g a List.mem_cons_self
    have ih := law_get hT t4 hs (E := E) (i := i + 1) (b := b + a.2.2.1.length) (b2 := b2 + a.2.2.2.1.length) (by omega) (by omega) (by omega) (by omega) (by omega) (by omega) c.2 r.2 (fun e he => g e (List.mem_cons_of_mem _ he))
    by_cases z : a.1 = s
    · have le : lwO (a :: E) s = some (fun nm br => clp (a.2.2.2.2 nm br)) := by
        show (if a.1 = s then _ else _) = _
        rw [if_pos z]
      refine ⟨fun e => by rw [le] at e; exact absurd e (by simp), fun F e => ?_⟩
      rw [le] at e
      have eF : (fun nm br => clp (a.2.2.2.2 nm br)) = F := Option.some.inj e
      subst eF
      obtain ⟨ka, kb, d⟩ := ga.2.1 (by omega)
      have c3 := c.1.2.1 (by omega)
      have r3 := r.1.2.1 (by omega)
      rw [z] at c3 d
      refine ⟨by omega, fun x y => clp_r, fun s0 f g bb hfg => ?_, lawC_of hT hs d b0 c.1.2.2 c3.1 c3.2 (by omega), i, by omega, by rw [r.1.1.1]; exact z, fun j x y => by omega, lawR_of t4 (by omega) d b20 r.1.2.2 r3.1 r3.2 (by omega)⟩
      show clp _ = clp _
      rw [Der_six d s0 f g bb hfg]
    · have le : lwO (a :: E) s = lwO E s := by
        show (if a.1 = s then _ else _) = _
        rw [if_neg z]
      rw [le]
      refine ⟨fun e => ⟨?_, fun j j0 j1 => ?_⟩, fun F e => ?_⟩
      · rintro ⟨x, x1, x2⟩
        rcases List.mem_cons.mp x1 with y | y
        · exact z (y ▸ x2)
        · exact (ih.1 e).1 ⟨x, y, x2⟩
      · by_cases y : j = i
        · rw [y, r.1.1.1]
          exact z
        · exact (ih.1 e).2 j (by omega) (by omega)
      · obtain ⟨q1, q2, q3, q4, k, k1, k2, k3, k4⟩ := ih.2 F e
        refine ⟨q1, q2, q3, q4, k, by omega, k2, fun j x y => ?_, k4⟩
        by_cases w : j = i
        · rw [w, r.1.1.1]
          exact z
        · exact k3 j (by omega) y
theorem txt_new {E : List cE} (hT : tT T) (t4 : 0 ≤ t ∧ t < 4) (e5 : h T 5 = E.length) (eN : h 87 (705 * t) = E.length) (l24 : E.length ≤ 24) (lc : lC E ≤ 300) (lr : lR E ≤ 300) (c : rwC T h 0 0 E) (r : rwR h t 0 0 E) (g : ∀ e ∈ E, eG cd vl e) (ns : ∀ s, 0 ≤ s → s < 3 → ¬ srt E s → h (T + 4) s = -1) : TxtOK h T t (lwO E) := by
  refine ⟨?_, fun i i0 i1 => ?_, fun s s0 s3 e => ?_, fun s F s0 s3 e => ?_⟩
  · rw [e5, eN]
    omega
  · rw [eN] at i1
    have q := rows_get c r g i i0 (by omega)
    exact q
  · have q := (law_get hT t4 ⟨s0, s3⟩ (by decide) (by decide) (by decide) (by omega) (by omega) (by omega) c r g).1 e
    refine ⟨ns s s0 s3 q.1, fun i i0 i1 => ?_⟩
    rw [eN] at i1
    exact q.2 i i0 (by omega)
  · obtain ⟨q1, q2, q3, q4, k, k1, k2, k3, k4⟩ := (law_get hT t4 ⟨s0, s3⟩ (by decide) (by decide) (by decide) (by omega) (by omega) (by omega) c r g).2 F e
    rw [eN]
    exact ⟨q1, q2, q3, q4, k, by omega, k2, fun i i0 i1 => k3 i i0 i1, k4⟩
end GT
/-- texts before stay as they were -/
theorem TxtOK.fr2 {h h1 : Hp} {T : Nat} {t : Int} {l : Int → Option aF} (e : ∀ o, T ≤ o → o < T + 6 → h1 o = h o) (e7 : ∀ j, 705 * t ≤ j → j < 705 * t + 705 → h1 87 j = h 87 j) (I : TxtOK h T t l) : TxtOK h1 T t l := by
  have e0 : h1 T = h T := e _ (by omega) (by omega)
  have e1 : h1 (T + 1) = h (T + 1) := e _ (by omega) (by omega)
  have e4 : h1 (T + 4) = h (T + 4) := e _ (by omega) (by omega)
  obtain ⟨i1, i2, i3, i4⟩ := I
  have c0 : h1 87 (705 * t) = h 87 (705 * t) := e7 _ (by omega) (by omega)
  have cR : ∀ i, 0 ≤ i → i < h 87 (705 * t) → h1 87 (705 * t + 1 + 4 * i) = h 87 (705 * t + 1 + 4 * i) := fun i x y => e7 _ (by omega) (by omega)
  refine ⟨by rw [e0, c0]; exact i1, fun i x y => ?_, fun s x y z => ?_, fun s F x y z => ?_⟩
  · rw [c0] at y
    rw [e1, cR i x y]
    refine ⟨(i2 i x y).1, (i2 i x y).2.1, fun k k1 k2 => ?_⟩
    have pr := parts_r (s := h 87 (705 * t + 1 + 4 * i))
    rw [e7 (705 * t + 1 + 4 * i + k) (by omega) (by omega)]
    exact (i2 i x y).2.2 k k1 k2
  · rw [e4]
    refine ⟨(i3 s x y z).1, fun i i0 i5 => ?_⟩
    rw [c0] at i5
    rw [cR i i0 i5]
    exact (i3 s x y z).2 i i0 i5
  · obtain ⟨q1, q2, q3, q4, k, k1, k2, k3, k4⟩ := i4 s F x y z
    rw [e4, c0]
    refine ⟨q1, q2, q3, q4.fr e, k, k1, by rw [cR k k1.1 k1.2]; exact k2, fun i i0 i5 => by rw [cR i i0 (by omega)]; exact k3 i i0 i5, ?_⟩
    exact fun d h2 Q e2 => k4 d h2 Q (fun j a b => (e2 j a b).trans (e7 j a b))
theorem CG.tx {h h1 : Hp} {a a1 : aA} {n v : Int} (I : CG h 2 a n) (e : ∀ o, 3 ≤ o → o ≤ 24 → h1 o = h o) (e2 : ∀ j, j ≠ 4 → h1 2 j = h 2 j) (e4 : h1 2 4 = v) (ea : ∀ j, j ≠ 1 → a1 j = a j) (ea1 : a1 1 = v) (hv : (0 ≤ v ∧ v ≤ 4) ∧ a 1 ≤ v) : CG h1 2 a1 n := by
  obtain ⟨i1, i2, i3, i4, i5, i6, i7, i8, i9, i10, i11⟩ := I
  have hp := i10.hp
  have q0 := i1.1.2
  have q3 := i10.1.2
  have E : ∀ i : Nat, 1 ≤ i → i ≤ 22 → ∀ j, h1 (2 + i) j = h (2 + i) j := fun i x y j => by rw [e (2 + i) (by omega) (by omega)]
  refine ⟨?_, i2.cg (fun i x y j _ _ => E i x (by omega) j) (fun j _ _ => E 4 (by decide) (by decide) j) (fun j _ _ => ea j (by omega)), i3.cg (fun j _ _ => E 5 (by decide) (by decide) j) (fun j _ _ => ea j (by omega)), i4.cg (fun j _ _ => E 6 (by decide) (by decide) j) (fun j _ _ => ea j (by omega)), i5.cg (fun j _ _ => E 7 (by decide) (by decide) j) (fun j _ _ => ea j (by omega)),
    i6.cg (E 9 (by decide) (by decide) 3) (fun i x y j _ _ => E i (by omega) (by omega) j) (ea 4 (by decide)) (fun j _ _ => ea j (by omega)), i7.cg (E 13 (by decide) (by decide) 3) (fun i x y j _ _ => E i (by omega) (by omega) j) (ea 5 (by decide)) (fun j _ _ => ea j (by omega)), i8.cg (E 17 (by decide) (by decide) 3) (fun i x y j _ _ => E i (by omega) (by omega) j) (ea 6 (by decide)) (fun j _ _ => ea j (by omega)),
    i9.cg (e2 6 (by decide)) (fun j _ _ => E 8 (by decide) (by decide) j) (ea 11 (by decide)) (fun j _ _ => ea j (by omega)),
    i10.cg (E 21 (by decide) (by decide) 1) (E 21 (by decide) (by decide) 2) (fun j _ _ => E 22 (by decide) (by decide) j) q0.2 (Int.le_of_eq (ea 0 (by decide)).symm) (ea 3 (by decide)) (ea 11 (by decide)) (fun p _ _ => ⟨ea _ (by omega), ea _ (by omega)⟩) (fun j _ _ => ea j (by omega)), i11.cg q3.2 hp q0.2 (fun j _ _ z => ea j (by omega))⟩
  obtain ⟨n1, n2, n3, n4, n5, n6⟩ := i1
  unfold cNum
  rw [e2 0 (by decide), e2 1 (by decide), e2 2 (by decide), e2 3 (by decide), e2 5 (by decide), e4, ea1, ea 0 (by decide), ea 9 (by decide), ea 8 (by decide), ea 10 (by decide), ea 2 (by decide)]
  exact ⟨n1, n2, n3, n4, ⟨rfl, hv.1⟩, n6.1, n6.2.1, by omega⟩
