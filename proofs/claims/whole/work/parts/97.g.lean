/-! TEXTS: the reference reads a clause -/
def cRl : List cE → List (Int × Int)
  | [] => []
  | e :: r => e.2.2.2.1 ++ cRl r
theorem cRl_app {e : cE} : ∀ {E : List cE}, cRl (E ++ [e]) = cRl E ++ e.2.2.2.1
  | [] => by show e.2.2.2.1 ++ [] = [] ++ e.2.2.2.1; simp
  | a :: E => by
    show a.2.2.2.1 ++ cRl (E ++ [e]) = a.2.2.2.1 ++ cRl E ++ e.2.2.2.1
    rw [cRl_app, List.append_assoc]
theorem cRl_len : ∀ {E : List cE}, ((cRl E).length : Int) = lR E
  | [] => rfl
  | a :: E => by
    show ((a.2.2.2.1 ++ cRl E).length : Int) = (a.2.2.2.1.length : Int) + lR E
    rw [List.length_append, ← cRl_len (E := E)]
    omega
def rwR (h : Hp) (t : Int) : Int → Int → List cE → Prop
  | _, _, [] => True
  | i, b, e :: r => ((h 87 (705 * t + 1 + 4 * i) = e.1 ∧ ∀ j, 1 ≤ j → j ≤ parts e.1 → h 87 (705 * t + 1 + 4 * i + j) = e.2.1 j) ∧ (e.1 ≤ 2 → h 87 (705 * t + 1 + 4 * i + 1) = b ∧ h 87 (705 * t + 1 + 4 * i + 2) = b + e.2.2.2.1.length) ∧ plR h (705 * t + 97) b e.2.2.2.1) ∧ rwR h t (i + 1) (b + e.2.2.2.1.length) r
theorem rwR_app {h : Hp} {t : Int} {e : cE} : ∀ {E : List cE} {i b : Int}, rwR h t i b E → rwR h t (i + E.length) (b + lR E) [e] → rwR h t i b (E ++ [e])
  | [], i, b, _, q => by
    have q' : rwR h t (i + ((0 : Nat) : Int)) (b + 0) [e] := q
    rw [show i + ((0 : Nat) : Int) = i by omega, Int.add_zero] at q'
    exact q'
  | a :: E, i, b, p, q => by
    refine ⟨p.1, rwR_app p.2 ?_⟩
    have q' : rwR h t (i + ((E.length + 1 : Nat) : Int)) (b + ((a.2.2.2.1.length : Int) + lR E)) [e] := q
    rw [show i + ((E.length + 1 : Nat) : Int) = i + 1 + E.length by omega, show b + ((a.2.2.2.1.length : Int) + lR E) = b + a.2.2.2.1.length + lR E by omega] at q'
    exact q'
theorem rwR_fr {h h1 : Hp} {t : Int} : ∀ {E : List cE} {i b : Int}, 0 ≤ i → 0 ≤ b → (∀ j, 705 * t + 1 ≤ j → j < 705 * t + 1 + 4 * (i + E.length) → h1 87 j = h 87 j) → (∀ j, 705 * t + 97 ≤ j → j < 705 * t + 97 + 2 * (b + lR E) → h1 87 j = h 87 j) → rwR h t i b E → rwR h1 t i b E
  | [], _, _, _, _, _, _, _ => trivial
  | a :: E, i, b, i0, b0, q1, q3, p => by
    have l : ((a :: E).length : Int) = E.length + 1 := by simp
    have pr := parts_r (s := a.1)
    have lc := lR_0 (E := E)
    have q3' : ∀ j, 705 * t + 97 ≤ j → j < 705 * t + 97 + 2 * (b + ((a.2.2.2.1.length : Int) + lR E)) → h1 87 j = h 87 j := q3
    obtain ⟨⟨⟨p1, p2⟩, p3, p4⟩, p5⟩ := p
    refine ⟨⟨⟨by rw [q1 _ (by omega) (by omega)]; exact p1, fun j j1 j2 => by rw [q1 _ (by omega) (by omega)]; exact p2 j j1 j2⟩, fun z => ?_, plR_fr _ b (fun j x y => q3' j (by omega) (by omega)) p4⟩, rwR_fr (by omega) (by omega) (fun j x y => q1 j x (by omega)) (fun j x y => q3' j x (by omega)) p5⟩
    rw [q1 _ (by omega) (by omega), q1 _ (by omega) (by omega)]
    exact p3 z
/-- only what may change, at token kf -/
def rBd (t : Int) (G : Hp) (en : Int → Int) (h : Hp) (kf : Int) : Prop := (∀ q, q ≠ 84 → q ≠ 87 → q ≠ 89 → h q = G q) ∧ (∀ j, ¬ (705 * t ≤ j ∧ j < 705 * t + 705) → h 87 j = G 87 j) ∧ (∀ j, j < 7 → h 84 j = G 84 j) ∧ rK G en h kf
def onc (v : Int) (p : Int → Prop) : Prop := (0 ≤ v ∧ v < 8) ∧ ∀ s, 0 ≤ s → s < 3 → (bt v s ↔ p s)
/-- the reference before a clause -/
def tR (t : Int) (G : Hp) (en : Int → Int) (h : Hp) (k : Int) (E : List cE) : Prop := rBd t G en h k ∧ h 84 12 = 705 * t ∧ rW t h (cRl E) ∧ h 87 (705 * t) = E.length ∧ rwR h t 0 0 E ∧ onc (h 84 19) (srt E) ∧ lR E ≤ k ∧ E.length ≤ 24
theorem srt_app {E : List cE} {e : cE} {s : Int} : srt (E ++ [e]) s ↔ srt E s ∨ s = e.1 := by
  constructor
  · rintro ⟨a, a1, a2⟩
    rcases List.mem_append.mp a1 with z | z
    · exact Or.inl ⟨a, z, a2⟩
    · rw [List.mem_singleton.mp z] at a2
      exact Or.inr a2.symm
  · rintro (⟨a, a1, a2⟩ | z)
    · exact ⟨a, List.mem_append_left _ a1, a2⟩
    · exact ⟨e, List.mem_append_right _ List.mem_cons_self, z.symm⟩
section RG2
variable {h : Hp} {Q : aPO} {D : Nat} {G : Hp} {N k t : Int} {en : Int → Int} {E : List cE}
theorem rBd.nx {h1 : Hp} {kf : Int} (b : rBd t G en h k) (u : u84 h h1) (kk : rK G en h1 kf) : rBd t G en h1 kf := ⟨fun q x y z => (u.1 q x).trans (b.1 q x y z), fun j e => by rw [u.1 87 (by decide)]; exact b.2.1 j e, fun j e => (u.2 j (by omega)).trans (b.2.2.1 j e), kk⟩
/-- nextToken anywhere -/
theorem r_advB (S : tS G N en) (hk : 0 ≤ k ∧ k < N) (nk : G 80 k ≠ 48) (b : rBd t G en h k) (q : ∀ h1, u84 h h1 → rBd t G en h1 (k + 1) → Q none h1) : Runs (D + 1) 188 0 [vA 84, none] [] h Q := by
  have kn := S.tkn.nxt hk nk
  have tp := S.2.2.1 k hk.1 (by omega)
  have lt := tp.1.lt
  exact r_nextT S (k := k + 1) (by omega) (p := en k) (by omega) (S.2.2.2.2.2 k hk.1 (by omega)) (b.1 88 (by decide) (by decide) (by decide)) (b.2.2.1 4 (by decide)) b.2.2.2.1 (fun h1 u a2 a3 a4 => q h1 u (b.nx u ⟨a2, a3, a4⟩))
/-- behind the body of a clause -/
theorem r_ctail {e : cE} {k2 c n xx : Int} (S : tS G N en) (t4 : 0 ≤ t ∧ t < 4) (hk : 0 ≤ k2 ∧ k2 < N) (n24 : E.length < 24) (b : rBd t G en h k2) (e12 : h 84 12 = 705 * t) (w : rW t h (cRl E ++ e.2.2.2.1)) (eN : h 87 (705 * t) = E.length) (r : rwR h t 0 0 E) (re : rwR h t E.length (lR E) [e]) (on : onc (h 84 19) (srt (E ++ [e]))) (ll : lR E + e.2.2.2.1.length ≤ k2)
    (q1 : G 80 k2 = 45 → k2 + 1 < N → ∀ h1, tR t G en h1 (k2 + 1) (E ++ [e]) → Q (vI 0) h1) (q2 : G 80 k2 ≠ 45 → ∀ h1, rBd t G en h1 k2 → Q (vI 1) h1) : Runs (D + 2) 219 108 [vA 84, vI c, vI n, vI xx, vI 0] [] h Q := by
  have l1 := S.1
  have lr := lR_0 (E := E)
  -- the count is one more
  have K : ∀ g : Hp, g = hup h 87 (705 * t) ((E.length : Int) + 1) → Runs (D + 2) 219 121 [vA 84, vI c, vI n, vI xx, vI 0] [] g Q := by
    intro g eg
    have bg : rBd t G en g k2 := by
      subst eg
      refine ⟨fun q x y z => by rw [hup_o y]; exact b.1 q x y z, fun j e => by rw [hup_nj (by omega)]; exact b.2.1 j e, fun j e => by rw [hup_o (by decide)]; exact b.2.2.1 j e, ?_⟩
      unfold rK at *
      rw [hup_o (by decide)]
      exact b.2.2.2
    have r1 := bg.2.2.2.2.2.1
    have g84 : g 84 = h 84 := by subst eg; rw [hup_o (by decide)]
    have g87 : ∀ j, j ≠ 705 * t → g 87 j = h 87 j := fun j e => by subst eg; rw [hup_nj e]
    refine Runs.go 30 [] ?_
    refine br.j (fun z => ?_) (fun z => ?_)
    · have z' : ¬ g 84 9 = 59 := z
      exact q2 (by omega) g bg
    · have z' : g 84 9 = 59 := z
      have c45 : G 80 k2 = 45 := by omega
      have kn := S.tkn.nxt hk (by omega)
      refine r_advB S hk (by omega) bg (fun h1 u b1 => ?_)
      have u87' : h1 87 = g 87 := u.1 87 (by decide)
      have le1 : ((E ++ [e]).length : Int) = E.length + 1 := by simp
      have le2 : (E ++ [e]).length = E.length + 1 := by simp
      refine q1 c45 kn h1 ⟨b1, ?_, ⟨?_, ?_⟩, ?_, ?_, ?_, ?_, by omega⟩
      · rw [u.2 12 (by omega), g84]; exact e12
      · rw [u.2 13 (by omega), g84, cRl_app]; exact w.1
      · rw [cRl_app]
        exact plR_fr _ 0 (fun j x y => by rw [u87', g87 j (by omega)]) w.2
      · rw [u87', le1]
        subst eg
        rw [hup_eq]
      · refine rwR_fr (h := h) (by decide) (by decide) (fun j x y => by rw [u87', g87 j (by omega)]) (fun j x y => by rw [u87', g87 j (by omega)]) (rwR_app r ?_)
        rw [Int.zero_add, Int.zero_add]
        exact re
      · rw [u.2 19 (by omega), g84]; exact on
      · rw [lR_app]
        omega
  rw [← eN] at K
  have hB : -2147483648 ≤ h 87 (705 * t) + 1 ∧ h 87 (705 * t) + 1 < 2147483648 := by omega
  rw [← e12] at K hB
  have bb : 0 ≤ h 84 12 ∧ h 84 12 < (2820 : Int) := by omega
  refine Runs.go 20 [121] ?_
  exact ⟨bb, ⟨hB, ⟨bb, K _ rfl⟩⟩⟩
theorem once_t : ∀ v : Fin 8, ∀ c s : Fin 3, (0 ≤ iOr v.val (iShl 1 c.val) ∧ iOr v.val (iShl 1 c.val) < 8) ∧ (bt (iOr v.val (iShl 1 c.val)) s.val ↔ bt v.val s.val ∨ s = c) := by decide +kernel
theorem onc.add {v c : Int} {p q : Int → Prop} (o : onc v p) (hc : 0 ≤ c ∧ c ≤ 2) (hq : ∀ s, q s ↔ p s ∨ s = c) : onc (iOr v (iShl 1 c)) q := by
  obtain ⟨o1, o2⟩ := o
  have T : ∀ s : Int, 0 ≤ s → s < 3 → (0 ≤ iOr v (iShl 1 c) ∧ iOr v (iShl 1 c) < 8) ∧ (bt (iOr v (iShl 1 c)) s ↔ bt v s ∨ s = c) := by
    intro s s0 s3
    have q := once_t ⟨v.toNat, by omega⟩ ⟨c.toNat, by omega⟩ ⟨s.toNat, by omega⟩
    simp only [Int.toNat_of_nonneg o1.1, Int.toNat_of_nonneg hc.1, Int.toNat_of_nonneg s0, Fin.mk.injEq] at q
    refine ⟨q.1, ?_⟩
    rw [q.2]
    constructor
    · rintro (z | z)
      · exact Or.inl z
      · exact Or.inr (by omega)
    · rintro (z | z)
      · exact Or.inl z
      · exact Or.inr (by omega)
  refine ⟨(T 0 (by decide) (by decide)).1, fun s s0 s3 => ?_⟩
  rw [(T s s0 s3).2, o2 s s0 s3, hq s]
/-- a law's clause -/
theorem r_lawClause {c : Int} (S : tS G N en) (t4 : 0 ≤ t ∧ t < 4) (hk : 0 ≤ k ∧ k < N) (n24 : E.length < 24) (b : rBd t G en h k) (e12 : h 84 12 = 705 * t) (e14 : h 84 14 = c) (w : rW t h (cRl E)) (ll : lR E ≤ k)
    (q : (∃ k2 x, Der (G 80) (G 82) c 2 0 k k2 x ∧ cpl 2 (G 80 k2) ∧ k2 < N ∧ ∀ h1, rBd t G en h1 k2 → (∀ j, (j = 12 ∨ j = 14 ∨ j = 19) → h1 84 j = h 84 j) → rW t h1 (cRl E ++ x.2.1) → (∀ j, 705 * t ≤ j → j < 705 * t + 97 → j ≠ 705 * t + 1 + 4 * E.length + 1 → j ≠ 705 * t + 1 + 4 * E.length + 2 → h1 87 j = h 87 j) → h1 87 (705 * t + 1 + 4 * E.length + 1) = lR E → h1 87 (705 * t + 1 + 4 * E.length + 2) = lR E + x.2.1.length → Q (vI 0) h1) ∨
      (∃ f kf, Fl (G 80) (G 82) c 2 0 k f kf ∧ kf < N ∧ ∀ h1, rBd t G en h1 kf → Q (vI f) h1)) : Runs (D + 10) 213 0 [vA 84, vI (705 * t + 1 + 4 * E.length), none] [] h Q := by
  have l1 := S.1
  have lr := lR_0 (E := E)
  have e13 : h 84 13 = lR E := by rw [w.1]; exact cRl_len
  have bx : 0 ≤ 705 * t + 1 + 4 * (E.length : Int) + 1 ∧ 705 * t + 1 + 4 * (E.length : Int) + 1 < (2820 : Int) := by omega
  have bx2 : 0 ≤ 705 * t + 1 + 4 * (E.length : Int) + 2 ∧ 705 * t + 1 + 4 * (E.length : Int) + 2 < (2820 : Int) := by omega
  have M : ∀ G1 : Hp, G1 = hup h 87 (705 * t + 1 + 4 * E.length + 1) (lR E) → Runs (D + 9) 210 0 [vA 84, none] [] G1 (fun r h2 => Runs (D + 10) 213 16 [vA 84, vI (705 * t + 1 + 4 * E.length), none] (pushR r []) h2 Q) := by
    intro G1 eG
    have o1 : ∀ q, q ≠ 87 → G1 q = h q := fun q x => by subst eG; rw [hup_o x]
    have p87 : ∀ j, j ≠ 705 * t + 1 + 4 * E.length + 1 → G1 87 j = h 87 j := fun j e => by subst eG; rw [hup_nj e]
    have p87e : G1 87 (705 * t + 1 + 4 * E.length + 1) = lR E := by subst eG; rw [hup_eq]
    have g80 : G1 80 = G 80 := (o1 80 (by decide)).trans (b.1 80 (by decide) (by decide) (by decide))
    have g81 : G1 81 = G 81 := (o1 81 (by decide)).trans (b.1 81 (by decide) (by decide) (by decide))
    have g82 : G1 82 = G 82 := (o1 82 (by decide)).trans (b.1 82 (by decide) (by decide) (by decide))
    have g88 : G1 88 = G 88 := (o1 88 (by decide)).trans (b.1 88 (by decide) (by decide) (by decide))
    have g84 : G1 84 = h 84 := o1 84 (by decide)
    have g844 : G1 84 4 = G 84 4 := by rw [g84]; exact b.2.2.1 4 (by decide)
    have S1 : tS G1 N en := by
      unfold tS at *
      rw [g80, g81, g82, g88, g844]
      exact S
    have En : rEn t c G1 N en := ⟨S1, t4, by rw [g84]; exact e12, by rw [g84]; exact e14⟩
    have kG : ∀ (h1 : Hp) (k : Int), rK G1 en h1 k ↔ rK G en h1 k := fun h1 k => by unfold rK; rw [g80, g81, g82]
    have kk : rK G1 en G1 k := by
      rw [kG]
      have := b.2.2.2
      unfold rK at *
      rw [g84]
      exact this
    have w1 : rW t G1 (cRl E) := ⟨by rw [g84]; exact w.1, plR_fr _ 0 (fun j x y => p87 j (by omega)) w.2⟩
    have bF : ∀ (h1 : Hp) (kf : Int), rF t G1 h1 → rK G1 en h1 kf → rBd t G en h1 kf := by
      intro h1 kf f1 k1
      refine ⟨fun q x y z => ?_, fun j e => ?_, fun j e => ?_, (kG h1 kf).mp k1⟩
      · rw [f1.1 q x y z, o1 q y]; exact b.1 q x y z
      · rw [f1.2.1 j (by omega), p87 j (by omega)]; exact b.2.1 j e
      · rw [f1.2.2 j (by omega), g84]; exact b.2.2.1 j e
    -- behind the sum
    have fin : ∀ (f kf : Int) (h1 : Hp), rF t G1 h1 → rK G1 en h1 kf → (∀ h2 : Hp, rBd t G en h2 kf → h2 = hup h1 87 (705 * t + 1 + 4 * E.length + 2) (h1 84 13) → Q (vI f) h2) → Runs (D + 10) 213 16 [vA 84, vI (705 * t + 1 + 4 * E.length), none] [vI f] h1 Q := by
      intro f kf h1 f1 k1 hq
      have bb := bF h1 kf f1 k1
      refine Runs.go 20 [] ?_
      refine ⟨by omega, ⟨bx2, hq _ ⟨fun q x y z => ?_, fun j e => ?_, fun j e => ?_, ?_⟩ rfl⟩⟩
      · rw [hup_o y]; exact bb.1 q x y z
      · rw [hup_nj (by omega)]; exact bb.2.1 j e
      · rw [hup_o (by decide)]; exact bb.2.2.1 j e
      · have := bb.2.2.2
        unfold rK at *
        rw [hup_o (by decide)]
        exact this
    refine r_summed (D := D) En hk kk w1 (by rw [cRl_len]; exact ll) ?_
    rw [g80, g82]
    rcases q with ⟨k2, x, d, cp, kl, q⟩ | ⟨f, kf, fl, kl, q⟩
    · have dl := Der_len d
      refine Or.inl ⟨k2, x, d, cp, kl, fun h1 f1 k1 ww => fin 0 k2 h1 f1 k1 (fun h2 b2 e2 => ?_)⟩
      have lw : ((cRl E ++ x.2.1).length : Int) = lR E + x.2.1.length := by
        rw [List.length_append, ← cRl_len (E := E)]
        omega
      have x13 : h1 84 13 = lR E + x.2.1.length := by rw [ww.1]; exact lw
      have s1 : ∀ j, 705 * t ≤ j → j < 705 * t + 97 → j ≠ 705 * t + 1 + 4 * E.length + 2 → h2 87 j = G1 87 j := fun j x y z => by
        subst e2
        rw [hup_nj z]
        exact f1.2.1 j (by omega)
      refine q h2 b2 (fun j e => ?_) ⟨?_, ?_⟩ (fun j j0 j1 j2 j3 => ?_) ?_ ?_
      · subst e2
        rw [hup_o (by decide), f1.2.2 j (by omega), g84]
      · subst e2
        rw [hup_o (by decide)]
        exact ww.1
      · subst e2
        exact plR_fr _ 0 (fun j x y => by rw [hup_nj (by omega)]) ww.2
      · rw [s1 j j0 j1 j3, p87 j j2]
      · rw [s1 _ (by omega) (by omega) (by omega), p87e]
      · subst e2
        rw [hup_eq, x13]
    · exact Or.inr ⟨f, kf, fl, kl, fun h1 f1 k1 => fin f kf h1 f1 k1 (fun h2 b2 _ => q h2 b2)⟩
  rw [← e13] at M
  refine Runs.go 20 [16] ?_
  exact ⟨by omega, ⟨bx, M _ rfl⟩⟩
end RG2
