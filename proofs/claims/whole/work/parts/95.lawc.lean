/-! TEXTS: a law of the class -/
def nd (y : Nat) (o : Int) : Int := 1 + 5 * (8 - o) + y
theorem chn_B {y : Nat} {c : Int} (h : chn y c) : isB c := by
  unfold isB
  rcases h with ⟨-, h⟩ | ⟨-, h⟩ | ⟨-, h⟩ | ⟨-, h⟩ <;> omega
theorem r3_r {f : Int → Int} (h : bOk f) : ∀ i, 0 ≤ i → i < 3 → 0 ≤ r3 f i ∧ r3 f i ≤ 9 := by
  intro i i0 i3
  unfold r3
  rw [if_pos ⟨i0, i3⟩]
  exact h i i0 i3
theorem Der_rg {cd vl : Int → Int} {law o k k1 : Int} {y : Nat} {x : dX} (d : Der cd vl law y o k k1 x) : ∀ nm br : Int → Int, (∀ i, 0 ≤ i → i < 9 → 0 ≤ nm i ∧ nm i ≤ 9999) → (∀ i, 0 ≤ i → i < 3 → 0 ≤ br i ∧ br i ≤ 9) → rg (x.2.2 nm br) := by
  intro nm br hn hb
  refine d (fun _ _ _ _ x => rg (x.2.2 nm br)) ⟨?_, ?_, ?_, ?_, ?_, ?_, ?_, ?_, ?_, ?_⟩
  · intro o k e h0 h1
    show rg (vl k)
    unfold rg
    omega
  · intro o k e1 e2 hl
    have := hn (cd k - 12) (by omega) (by omega)
    show rg (nm (cd k - 12))
    unfold rg
    omega
  · intro o k k1 x e o8 X e1
    exact X
  · intro o k k1 x c e o8 X
    exact opU_r X hb
  · intro o k k1 k2 x y e o8 X e1 Y
    exact (opB_r : rg (opB 23 (x.2.2 nm br) (y.2.2 nm br)))
  · intro o k k1 k2 k3 b x y e o8 B e1 X e2 Y e3
    show rg (if b.2.2 nm br = 0 then y.2.2 nm br else x.2.2 nm br)
    split
    · exact Y
    · exact X
  · intro y o k k1 x hl X
    exact X
  · intro y o k k1 k2 x z hc X Z
    exact opB_r
  · intro o k k1 b e o8 X
    exact (opU_r X hb : rg (opU 31 br (b.2.2 nm br)))
  · intro o k k1 k2 x z e X e1 e2 Z
    exact opB_r
theorem Der_six {cd vl : Int → Int} {law o k k1 : Int} {y : Nat} {x : dX} (d : Der cd vl law y o k k1 x) (hl : law = 0) : ∀ (f g b : Int → Int), (∀ i, 0 ≤ i → i < 7 → f i = g i) → x.2.2 (r9 f) b = x.2.2 (r9 g) b := by
  intro f g b hfg
  refine d (fun _ _ _ _ x => x.2.2 (r9 f) b = x.2.2 (r9 g) b) ⟨?_, ?_, ?_, ?_, ?_, ?_, ?_, ?_, ?_, ?_⟩
  · intro o k e h0 h1
    rfl
  · intro o k e1 e2 h
    show r9 f (cd k - 12) = r9 g (cd k - 12)
    unfold r9
    rw [if_pos (by omega), if_pos (by omega)]
    exact hfg _ (by omega) (by omega)
  · intro o k k1 x e o8 X e1
    exact X
  · intro o k k1 x c e o8 X
    show opU c b (x.2.2 (r9 f) b) = opU c b (x.2.2 (r9 g) b)
    rw [X]
  · intro o k k1 k2 x y e o8 X e1 Y
    show opB 23 (x.2.2 (r9 f) b) (y.2.2 (r9 f) b) = opB 23 (x.2.2 (r9 g) b) (y.2.2 (r9 g) b)
    rw [X, Y]
  · intro o k k1 k2 k3 c x y e o8 B e1 X e2 Y e3
    show (if c.2.2 (r9 f) b = 0 then y.2.2 (r9 f) b else x.2.2 (r9 f) b) = (if c.2.2 (r9 g) b = 0 then y.2.2 (r9 g) b else x.2.2 (r9 g) b)
    rw [B, X, Y]
  · intro y o k k1 x hl X
    exact X
  · intro y o k k1 k2 x z hc X Z
    show opB (cd k1) (x.2.2 (r9 f) b) (z.2.2 (r9 f) b) = opB (cd k1) (x.2.2 (r9 g) b) (z.2.2 (r9 g) b)
    rw [X, Z]
  · intro o k k1 x e o8 X
    show opU 31 b (x.2.2 (r9 f) b) = opU 31 b (x.2.2 (r9 g) b)
    rw [X]
  · intro o k k1 k2 x z e X e1 e2 Z
    show opB (cd k1) (x.2.2 (r9 f) b) (z.2.2 (r9 f) b) = opB (cd k1) (x.2.2 (r9 g) b) (z.2.2 (r9 g) b)
    rw [X, Z]
section LC
variable {D : Nat} {Q : aPO} {T : Nat} {s to : Int} {H : Hp} {cd vl : Int → Int} {law o k k1 : Int} {y : Nat} {x : dX}
theorem Der_ev (hT : tT T) (ht : to ≤ 300) (hn : nOk (H 49)) (hb : bOk (H 7)) (d : Der cd vl law y o k k1 x) : 0 ≤ o → o ≤ 8 → evC D Q T s to H (nd y o) x.1 (x.2.2 (r9 (H 49)) (r3 (H 7))) := by
  have hn' : ∀ i, 0 ≤ i → i < 9 → 0 ≤ r9 (H 49) i ∧ r9 (H 49) i ≤ 9999 := by
    intro i i0 i9
    unfold r9
    rw [if_pos ⟨i0, i9⟩]
    exact hn i i0 i9
  have hb' := r3_r hb
  have Y := d (fun y o _ _ x => rg (x.2.2 (r9 (H 49)) (r3 (H 7))) ∧ (0 ≤ o → o ≤ 8 → evC D Q T s to H (nd y o) x.1 (x.2.2 (r9 (H 49)) (r3 (H 7))))) ⟨?_, ?_, ?_, ?_, ?_, ?_, ?_, ?_, ?_, ?_⟩
  · exact Y.2
  · intro o k e h0 h1
    exact ⟨by show rg (vl k); unfold rg; omega, fun o0 o8 => ev_num hT ht (by unfold nd; omega)⟩
  · intro o k e1 e2 hl
    have q := hn' (cd k - 12) (by omega) (by omega)
    refine ⟨by show rg (r9 (H 49) (cd k - 12)); unfold rg; omega, fun o0 o8 => ?_⟩
    show evC D Q T s to H (nd 0 o) [(49, cd k - 12)] (r9 (H 49) (cd k - 12))
    have e : r9 (H 49) (cd k - 12) = H 49 (cd k - 12) := by
      unfold r9
      rw [if_pos (by omega)]
    rw [e]
    exact ev_nam hT ht (by omega) (by unfold nd; omega)
  · intro o k k1 x e o8 X e1
    exact ⟨X.1, fun o0 _ => (X.2 (by omega) (by omega)).le (by unfold nd; omega)⟩
  · intro o k k1 x c e o8 X
    have hc : isU c := by unfold isU; omega
    exact ⟨opU_r X.1 hb', fun o0 _ => (ev_un hT ht (by unfold nd; omega) hc X.1 (X.2 (by omega) (by omega))).le (by unfold nd; omega)⟩
  · intro o k k1 k2 x y e o8 X e1 Y
    refine ⟨(opB_r : rg (opB 23 (x.2.2 (r9 (H 49)) (r3 (H 7))) (y.2.2 (r9 (H 49)) (r3 (H 7))))), fun o0 _ => ?_⟩
    refine ev_bin hT ht (by unfold isB; omega) X.1 Y.1 ?_ ?_ ?_ (X.2 (by omega) (by omega)) (Y.2 (by omega) (by omega))
    · unfold nd; omega
    · unfold nd; omega
    · unfold nd; omega
  · intro o k k1 k2 k3 b x y e o8 B e1 X e2 Y e3
    refine ⟨?_, fun o0 _ => ?_⟩
    · show rg (if b.2.2 (r9 (H 49)) (r3 (H 7)) = 0 then y.2.2 (r9 (H 49)) (r3 (H 7)) else x.2.2 (r9 (H 49)) (r3 (H 7)))
      split
      · exact Y.1
      · exact X.1
    · refine ev_if hT ht ?_ ?_ ?_ (B.2 (by omega) (by omega)) (X.2 (by omega) (by omega)) (Y.2 (by omega) (by omega))
      · unfold nd; omega
      · unfold nd; omega
      · unfold nd; omega
  · intro y o k k1 x hl X
    exact ⟨X.1, fun o0 o8 => (X.2 o0 o8).le (by unfold nd; omega)⟩
  · intro y o k k1 k2 x z hc X Z
    refine ⟨opB_r, fun o0 o8 => ?_⟩
    refine ev_bin hT ht (chn_B hc) X.1 Z.1 (Int.le_refl _) ?_ ?_ (X.2 o0 o8) (Z.2 o0 o8)
    · unfold nd; omega
    · unfold nd; omega
  · intro o k k1 b e o8 X
    exact ⟨(opU_r X.1 hb' : rg (opU 31 (r3 (H 7)) (b.2.2 (r9 (H 49)) (r3 (H 7))))), fun o0 _ => (ev_un hT ht (by unfold nd; omega) (Or.inr (Or.inr rfl)) X.1 (X.2 (by omega) (by omega))).le (by unfold nd; omega)⟩
  · intro o k k1 k2 x z e X e1 e2 Z
    refine ⟨opB_r, fun o0 o8 => ?_⟩
    refine ev_bin hT ht (by unfold isB; omega) X.1 Z.1 ?_ ?_ ?_ (X.2 o0 o8) (Z.2 o0 o8)
    · unfold nd; omega
    · unfold nd; omega
    · unfold nd; omega
theorem lawC_of {h : Hp} {b : Int} (hT : tT T) (hs : 0 ≤ s ∧ s < 3) (d : Der cd vl law 2 0 k k1 x) (b0 : 0 ≤ b) (p : plC T h b x.1) (e4 : h (T + 4) s = b) (e5 : h (T + 5) s = b + x.1.length) (hl : b + x.1.length ≤ 300) : LawC h T s (fun nm br => clp (x.2.2 nm br)) := by
  intro dd h1 Q he hn hb q
  have p1 : plC T h1 b x.1 := plC_fr x.1 b (fun j _ _ => by rw [he (T + 2) (by omega) (by omega), he (T + 3) (by omega) (by omega)]; exact ⟨rfl, rfl⟩) p
  have f4 : h1 (T + 4) s = b := by rw [he (T + 4) (by omega) (by omega)]; exact e4
  have f5 : h1 (T + 5) s = b + x.1.length := by rw [he (T + 5) (by omega) (by omega)]; exact e5
  have hn' : ∀ i, 0 ≤ i → i < 9 → 0 ≤ r9 (h1 49) i ∧ r9 (h1 49) i ≤ 9999 := by
    intro i i0 i9
    unfold r9
    rw [if_pos ⟨i0, i9⟩]
    exact hn i i0 i9
  have R := Der_rg d (r9 (h1 49)) (r3 (h1 7)) hn' (r3_r hb)
  have M : vR (dd + 2) Q T s (b + x.1.length) 0 b 0 h1 := by
    refine Der_ev (D := dd + 2) (Q := Q) (s := s) hT hl hn hb d (by decide) (by decide) b 0 0 h1 p1 b0 (Int.le_refl _) (by decide) (by decide) (by decide) (by omega) (fun o _ => rfl) (fun g' i' a1 a2 a3 a4 a5 => ?_)
    intro u v
    have fin : ∀ u v : AV, Runs (dd + 3) 65 284 [vA 48, vA T, vI s, vA 7, vI (0 + 1), vI (b + x.1.length), vI (b + x.1.length), vI i', u, v] [] g' Q := by
      intro u v
      refine Runs.go 20 [] ?_
      refine br.f (by decide) ?_
      have K := q g' a1
      show (0 ≤ (0 : Int) ∧ (0 : Int) < (64 : Int)) ∧ Q (vI (g' 50 0)) g'
      refine ⟨by decide, QI K ?_⟩
      rw [a3]
      exact (clp_id R).symm
    refine Runs.go 20 [284] ?_
    refine br.i (fun z => fin _ _) (fun z => ?_)
    refine br.f (by omega) ?_
    exact br.t (Int.le_refl _) (fin _ _)
  have M2 : ∀ a c : Int, a = h1 (T + 4) s → c = min 300 (h1 (T + 5) s) → Runs (dd + 3) 65 28 [vA 48, vA T, vI s, vA 7, vI 0, vI a, vI c, vI 0, none, none] [] h1 Q := by
    intro a c ea ec
    rw [f4] at ea
    rw [f5] at ec
    have ec' : c = b + x.1.length := by omega
    rw [ea, ec']
    exact M none none
  have hs' : 0 ≤ s ∧ s < (3 : Int) := hs
  clear M R p1 p e4 e5 he q f4 f5
  rcases hT with e | e | e | e <;> subst e
  all_goals (
    refine Runs.go 40 [28] ?_
    exact ⟨hs', ⟨hs', M2 _ _ rfl rfl⟩⟩)
end LC
