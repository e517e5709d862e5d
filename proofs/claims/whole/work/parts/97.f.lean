/-! TEXTS: the reference's orders and laws -/
section RB2
variable {h g : Hp} {Q : aPO} {D : Nat} {G : Hp} {N k x : Int} {en : Int → Int}
theorem r_three {lo hi h2 h3 w2 w3 : Int} (i2 i3 : Nat) (a2 : i2 < 32 ∧ i2 ≠ 5) (a3 : i3 < 32 ∧ i3 ≠ 5) (e2 : w2 = Hw i2) (e3 : w3 = Hw i3) (S : tS G N en) (hk : 0 ≤ k ∧ k < N) (h88 : h 88 = G 88) (h4 : h 84 4 = G 84 4) (o : oRS G en h h x k 0 (oPar (G 82) k)) (hx : 0 ≤ x ∧ x < 2810) (hl : 0 ≤ lo ∧ hi ≤ 9999 ∧ h2 ≤ 9999 ∧ h3 ≤ 9999)
    (q1 : ∀ k2, oRun (G 80) (G 82) [(-1, lo, hi), ((i2 : Int), 0, h2), ((i3 : Int), 0, h3)] k = (0, k2) → k < k2 → k2 < N → ∀ g1, oRS G en h g1 x k2 3 (oPar (G 82) k) → Q (vI 0) g1)
    (q2 : ∀ f kf g1, f ≠ 0 → oRun (G 80) (G 82) [(-1, lo, hi), ((i2 : Int), 0, h2), ((i3 : Int), 0, h3)] k = (f, kf) → kf < N → (∃ m, oRS G en h g1 x kf m (oPar (G 82) k)) → Q (vI f) g1) : Runs (D + 4) 214 0 [vA 84, vI x, vI lo, vI hi, vL w2, none, vI h2, vL w3, none, vI h3, none] [] h Q := by
  refine Runs.go 60 [30] ?_
  refine ⟨by omega, ?_⟩
  have Z : ∀ f kf g1, f ≠ 0 → oRun (G 80) (G 82) [(-1, lo, hi), ((i2 : Int), 0, h2), ((i3 : Int), 0, h3)] k = (f, kf) → kf < N → (∃ m, oRS G en h g1 x kf m (oPar (G 82) k)) → Runs (D + 4) 214 30 [vA 84, vI x, vI lo, vI hi, vL w2, none, vI h2, vL w3, none, vI h3, vI f] [] g1 Q := by
    intro f kf g1 f0 rr kl mm
    refine Runs.go 20 [] ?_
    exact br.f f0 (q2 f kf g1 f0 rr kl mm)
  refine r_figure (D := D + 1) (m := 0) (k0 := k) (r := [((i2 : Int), 0, h2), ((i3 : Int), 0, h3)]) S hk h88 h4 o (by decide) (by omega) hx ⟨hl.1, hl.2.1⟩ (fun r1 kl1 g1 o1 => ?_) (fun f f0 rr => ?_)
  · refine br.f (fun y => y rfl) ?_
    refine ⟨by omega, ?_⟩
    refine r_worded (D := D) (m := 1) (k0 := k) (r := [((i3 : Int), 0, h3)]) i2 a2.1 a2.2 e2 S (by omega) h88 h4 o1 (by decide) (by omega) hx hl.2.2.1 (fun r2 kl2 g2 o2 => ?_) (fun f kf g2 f0 rr kl mm => ?_)
    · refine Runs.go 40 [] ?_
      refine br.t rfl ?_
      refine ⟨by omega, ?_⟩
      refine r_worded (D := D) (m := 2) (k0 := k) (r := []) i3 a3.1 a3.2 e3 S (by omega) h88 h4 o2 (by decide) (by omega) hx hl.2.2.2 (fun r3 kl3 g3 o3 => ?_) (fun f kf g3 f0 rr kl mm => ?_)
      · exact q1 _ (by rw [r1, r2, r3]; rfl) (by omega) kl3 g3 o3
      · exact q2 f kf g3 f0 (by rw [r1, r2, rr]) kl mm
    · exact Z f kf g2 f0 (by rw [r1, rr]) kl mm
  · exact br.t f0 (Z f k h f0 rr hk.2 ⟨0, o⟩)
theorem r_pair {lo hi h2 w2 : Int} (i2 : Nat) (a2 : i2 < 32 ∧ i2 ≠ 5) (e2 : w2 = Hw i2) (S : tS G N en) (hk : 0 ≤ k ∧ k < N) (h88 : h 88 = G 88) (h4 : h 84 4 = G 84 4) (o : oRS G en h h x k 0 (oPar (G 82) k)) (hx : 0 ≤ x ∧ x < 2810) (hl : 0 ≤ lo ∧ hi ≤ 9999 ∧ h2 ≤ 9999)
    (q1 : ∀ k2, oRun (G 80) (G 82) [(-1, lo, hi), ((i2 : Int), 0, h2)] k = (0, k2) → k < k2 → k2 < N → ∀ g1, oRS G en h g1 x k2 2 (oPar (G 82) k) → Q (vI 0) g1)
    (q2 : ∀ f kf g1, f ≠ 0 → oRun (G 80) (G 82) [(-1, lo, hi), ((i2 : Int), 0, h2)] k = (f, kf) → kf < N → (∃ m, oRS G en h g1 x kf m (oPar (G 82) k)) → Q (vI f) g1) : Runs (D + 4) 215 0 [vA 84, vI x, vI lo, vI hi, vL w2, none, vI h2, none] [] h Q := by
  refine Runs.go 60 [] ?_
  refine ⟨by omega, ?_⟩
  refine r_figure (D := D + 1) (m := 0) (k0 := k) (r := [((i2 : Int), 0, h2)]) S hk h88 h4 o (by decide) (by omega) hx ⟨hl.1, hl.2.1⟩ (fun r1 kl1 g1 o1 => ?_) (fun f f0 rr => ?_)
  · refine br.t rfl ?_
    refine ⟨by omega, ?_⟩
    refine r_worded (D := D) (m := 1) (k0 := k) (r := []) i2 a2.1 a2.2 e2 S (by omega) h88 h4 o1 (by decide) (by omega) hx hl.2.2 (fun r2 kl2 g2 o2 => ?_) (fun f kf g2 f0 rr kl mm => ?_)
    · exact q1 _ (by rw [r1, r2]; rfl) (by omega) kl2 g2 o2
    · exact q2 f kf g2 f0 (by rw [r1, rr]) kl mm
  · exact br.f f0 (q2 f k h f0 rr hk.2 ⟨0, o⟩)
theorem r_order {w : Int} (hw : 3 ≤ w ∧ w ≤ 12) (S : tS G N en) (hk : 0 ≤ k ∧ k < N) (h88 : h 88 = G 88) (h4 : h 84 4 = G 84 4) (kk : rK G en h k) (hx : 0 ≤ x ∧ x < 2810)
    (q1 : ∀ k2, oRun (G 80) (G 82) (its w) k = (0, k2) → k < k2 → k2 < N → ∀ g1, oRS G en h g1 x k2 (parts w) (oPar (G 82) k) → Q (vI 0) g1)
    (q2 : ∀ f kf g1, f ≠ 0 → oRun (G 80) (G 82) (its w) k = (f, kf) → kf < N → (∃ m, oRS G en h g1 x kf m (oPar (G 82) k)) → Q (vI f) g1) : Runs (D + 5) 216 0 [vA 84, vI w, vI x] [] h Q := by
  have o : oRS G en h h x k 0 (oPar (G 82) k) := ⟨⟨fun _ _ _ => rfl, fun _ _ => rfl, fun _ _ => rfl⟩, kk, fun i a b => by omega⟩
  have F : ∀ (Q' : aPO) (lo hi : Int), 0 ≤ lo → hi ≤ 9999 → (∀ k2, oRun (G 80) (G 82) [(-1, lo, hi)] k = (0, k2) → k < k2 → k2 < N → ∀ g1, oRS G en h g1 x k2 1 (oPar (G 82) k) → Q' (vI 0) g1) → (∀ f kf g1, f ≠ 0 → oRun (G 80) (G 82) [(-1, lo, hi)] k = (f, kf) → kf < N → (∃ m, oRS G en h g1 x kf m (oPar (G 82) k)) → Q' (vI f) g1) → Runs (D + 4) 211 0 [vA 84, vI (x + (0 + 1)), vI lo, vI hi] [] h Q' := by
    intro Q' lo hi l0 h9 p1 p2
    exact r_figure (D := D + 2) (m := 0) (k0 := k) (r := []) S hk h88 h4 o (by decide) (by omega) hx ⟨l0, h9⟩ (fun r1 kl1 g1 o1 => p1 _ (by rw [r1]; rfl) (by omega) kl1 g1 o1) (fun f f0 rr => p2 f k h f0 rr hk.2 ⟨0, o⟩)
  have cw : w = 3 ∨ w = 4 ∨ w = 5 ∨ w = 6 ∨ w = 7 ∨ w = 8 ∨ w = 9 ∨ w = 10 ∨ w = 11 ∨ w = 12 := by omega
  rcases cw with e | e | e | e | e | e | e | e | e | e <;> subst e
  · have ei : its 3 = [(-1, 0, 2), (((15 : Nat) : Int), 0, 9), (((19 : Nat) : Int), 0, 9999)] := by decide
    rw [ei] at q1 q2
    refine Runs.go 60 [] ?_
    refine br.t rfl ?_
    refine r_w4 ?_
    refine r_w5 ?_
    exact r_three (D := D) 15 19 (by decide) (by decide) (by decide +kernel) (by decide +kernel) S hk h88 h4 o hx (by decide) q1 q2
  · have ei : its 4 = [(-1, 0, 9), (((21 : Nat) : Int), 0, 2)] := by decide
    rw [ei] at q1 q2
    refine Runs.go 60 [] ?_
    refine br.f (by decide) (br.t rfl ?_)
    refine r_w2 ?_
    exact r_pair (D := D) 21 (by decide) (by decide +kernel) S hk h88 h4 o hx (by decide) q1 q2
  · have ei : its 5 = [(-1, 1, 99)] := by decide
    rw [ei] at q1 q2
    refine Runs.go 60 [] ?_
    refine br.f (by decide) (br.f (by decide) (br.t rfl ?_))
    refine ⟨by omega, ?_⟩
    exact F _ 1 99 (by decide) (by decide) q1 q2
  · have ei : its 6 = [(-1, 1, 99), (((21 : Nat) : Int), 0, 2), (((22 : Nat) : Int), 0, 5)] := by decide
    rw [ei] at q1 q2
    refine Runs.go 60 [] ?_
    refine br.f (by decide) (br.f (by decide) (br.f (by decide) (br.t rfl ?_)))
    refine r_w2 ?_
    refine r_w2 ?_
    exact r_three (D := D) 21 22 (by decide) (by decide) (by decide +kernel) (by decide +kernel) S hk h88 h4 o hx (by decide) q1 q2
  · have ei : its 7 = [(-1, 1, 99), (((22 : Nat) : Int), 0, 5)] := by decide
    rw [ei] at q1 q2
    refine Runs.go 60 [] ?_
    refine br.f (by decide) (br.f (by decide) (br.f (by decide) (br.f (by decide) (br.t rfl ?_))))
    refine r_w2 ?_
    exact r_pair (D := D) 22 (by decide) (by decide +kernel) S hk h88 h4 o hx (by decide) q1 q2
  · have ei : its 8 = [(-1, 1, 99), (((21 : Nat) : Int), 0, 2), (((22 : Nat) : Int), 0, 5)] := by decide
    rw [ei] at q1 q2
    refine Runs.go 60 [] ?_
    refine br.f (by decide) (br.f (by decide) (br.f (by decide) (br.f (by decide) (br.f (by decide) (br.t rfl ?_)))))
    refine r_w2 ?_
    refine r_w2 ?_
    exact r_three (D := D) 21 22 (by decide) (by decide) (by decide +kernel) (by decide +kernel) S hk h88 h4 o hx (by decide) q1 q2
  · have ei : its 9 = [(-1, 0, 5), (((21 : Nat) : Int), 0, 2)] := by decide
    rw [ei] at q1 q2
    refine Runs.go 60 [] ?_
    refine br.f (by decide) (br.f (by decide) (br.f (by decide) (br.f (by decide) (br.f (by decide) (br.f (by decide) (br.t rfl ?_))))))
    refine r_w2 ?_
    exact r_pair (D := D) 21 (by decide) (by decide +kernel) S hk h88 h4 o hx (by decide) q1 q2
  · have ei : its 10 = [(-1, 0, 5)] := by decide
    rw [ei] at q1 q2
    refine Runs.go 60 [] ?_
    refine br.f (by decide) (br.f (by decide) (br.f (by decide) (br.f (by decide) (br.f (by decide) (br.f (by decide) (br.f (by decide) (br.t rfl ?_)))))))
    refine ⟨by omega, ?_⟩
    exact F _ 0 5 (by decide) (by decide) q1 q2
  · have ei : its 11 = [(-1, 1, 99)] := by decide
    rw [ei] at q1 q2
    refine Runs.go 60 [] ?_
    refine br.f (by decide) (br.f (by decide) (br.f (by decide) (br.f (by decide) (br.f (by decide) (br.f (by decide) (br.f (by decide) (br.f (by decide) (br.t rfl ?_))))))))
    refine ⟨by omega, ?_⟩
    exact F _ 1 99 (by decide) (by decide) q1 q2
  · have ei : its 12 = [(-1, 1, 60)] := by decide
    rw [ei] at q1 q2
    refine Runs.go 60 [] ?_
    refine br.f (by decide) (br.f (by decide) (br.f (by decide) (br.f (by decide) (br.f (by decide) (br.f (by decide) (br.f (by decide) (br.f (by decide) (br.f (by decide) (br.t rfl ?_)))))))))
    refine ⟨by omega, ?_⟩
    exact F _ 1 60 (by decide) (by decide) q1 q2
end RB2
section RL2
variable {h : Hp} {Q : aPO} {D : Nat} {G : Hp} {N k t x law : Int} {en : Int → Int} {W : List (Int × Int)}
/-- a sum, as a law -/
theorem r_summed {G1 : Hp} (E : rEn t law G1 N en) (hk : 0 ≤ k ∧ k < N) (kk : rK G1 en G1 k) (hw : rW t G1 W) (lw : (W.length : Int) ≤ k)
    (q : (∃ k2 x, Der (G1 80) (G1 82) law 2 0 k k2 x ∧ cpl 2 (G1 80 k2) ∧ k2 < N ∧ ∀ h1, rF t G1 h1 → rK G1 en h1 k2 → rW t h1 (W ++ x.2.1) → Q (vI 0) h1) ∨ (∃ f kf, Fl (G1 80) (G1 82) law 2 0 k f kf ∧ kf < N ∧ ∀ h1, rF t G1 h1 → rK G1 en h1 kf → Q (vI f) h1)) : Runs (D + 9) 210 0 [vA 84, none] [] G1 Q := by
  have l1 := E.1.1
  have P : sPre (G1 80) 2 0 k [] := ⟨⟨by show ((0 : Nat) : Int) ≤ _; omega, by decide, by decide⟩, fun _ a => a.elim, fun z => absurd z (by decide), fun _ => ⟨fun c R e => (by cases e), fun R e => (by cases e)⟩, fun z => absurd z (by decide), fun z => absurd z (by decide), fun z => absurd z (by decide)⟩
  have B : gB D Q t G1 en k 0 [] W → Runs (D + 9) 210 0 [vA 84, none] [] G1 Q := by
    intro gb
    refine Runs.go 20 [15] ?_
    refine ⟨by decide, ?_⟩
    refine gb _ _ ⟨⟨fun q a b d => ?_, fun j e => ?_, fun j e => ?_⟩, kk.cg (fun j x y => ?_), ⟨?_, ?_⟩, ⟨?_, ?_, trivial⟩, ?_⟩ hup_eq
    · rw [hup_o a, hup_o a, hup_o a]
    · rw [hup_o (by decide), hup_o (by decide), hup_o (by decide)]
    · rw [hup_nj (by omega), hup_nj (by omega), hup_nj (by omega)]
    · rw [hup_nj (by omega), hup_nj (by omega), hup_nj (by omega)]
    · rw [hup_nj (by decide), hup_nj (by decide), hup_nj (by decide)]; exact hw.1
    · exact plR_fr W 0 (fun j _ _ => by rw [hup_o (by decide), hup_o (by decide), hup_o (by decide)]) hw.2
    · rw [hup_nj (by decide), hup_nj (by decide), hup_eq]; rfl
    · rw [hup_nj (by decide), hup_eq]
    · show (W.length : Int) + ((0 : Nat) : Int) ≤ k
      omega
  refine B ?_
  rcases q with ⟨k2, x, d, cp, kl, q⟩ | ⟨f, kf, fl, kl, q⟩
  · have X := sim (D := D) (Q := Q) E d
    have kk2 := X.1
    refine X.2 [] W hk.1 kl P ?_
    intro ops W' u1 u2 u3 u4
    have hr : ∀ c ∈ ops, 5 ≤ rk c ∧ rk c ≤ 6 := fun c hc => u1 c hc
    have hr1 : ∀ c ∈ ops, 1 ≤ rk c := fun c hc => by have := hr c hc; omega
    have on : opN ops = -1 := by
      have := opN_app (R := []) hr1
      rw [List.append_nil] at this
      exact this
    have l2 : (ops.length : Int) ≤ 2 := u2
    unfold cpl at cp
    rw [List.append_nil]
    refine g_top E (by omega) (by omega) (by decide) ?_ on hr1 (fun h1 s1 => ?_)
    · unfold btw
      rw [if_neg (by omega), on, if_pos (by decide)]
    · rw [u4] at s1
      exact q h1 s1.1 s1.2.1 s1.2.2.1
  · have X := simF (D := D) (Q := Q) E fl
    have kk2 := X.1
    exact X.2 [] W hk.1 kl P (fun h1 a b => q h1 a b)
end RL2

