/-! TEXTS: the class's reader, sums -/
theorem cpl0 {c : Int} : cpl 0 c := ⟨fun z => absurd z (by decide), fun z => absurd z (by decide), fun z => absurd z (by decide), fun z => absurd z (by decide)⟩
theorem xU_len {c : Int} {x : dX} : ((xU c x).1.length : Int) = x.1.length + 1 := by
  show ((x.1 ++ [(c, 0)]).length : Int) = _
  simp only [List.length_append, List.length_cons, List.length_nil]
  omega
theorem xB_len {c : Int} {x y : dX} : ((xB c x y).1.length : Int) = x.1.length + y.1.length + 1 := by
  show ((x.1 ++ (y.1 ++ [(c, 0)])).length : Int) = _
  simp only [List.length_append, List.length_cons, List.length_nil]
  omega
theorem xIf_len {b x y : dX} : ((xIf b x y).1.length : Int) = b.1.length + x.1.length + y.1.length + 2 := by
  show ((b.1 ++ ((51, (x.1.length : Int) + 2) :: (x.1 ++ ((52, (y.1.length : Int) + 1) :: y.1)))).length : Int) = _
  simp only [List.length_append, List.length_cons]
  omega
/-- as cOk, but what stands behind is open -/
def cOh (T : Nat) (G : Hp) (N law n : Int) (y : Nat) (o k c : Int) (h h1 : Hp) (k1 : Int) (x : dX) : Prop :=
  Der (G 80) (G 82) law y o k k1 x ∧ (k < k1 ∧ k1 < N) ∧ cS T G N law n h1 k1 (c + x.1.length) ∧ plC T h1 c x.1 ∧ cGr T h h1 c ∧ (x.1.length : Int) ≤ k1 - k
section CP
variable {T : Nat} {G : Hp} {N law n k c o : Int} {h h1 h2 : Hp} {D : Nat} {Q : aPO} {k1 k2 : Int} {x z : dX} {y : Nat}
theorem cS.eq {c2 : Int} (s : cS T G N law n h k c) (e : c = c2) : cS T G N law n h k c2 := e ▸ s
theorem cOk.oh (a : cOk T G N law n y o k c h h1 k1 x) : cOh T G N law n y o k c h h1 k1 x := ⟨a.1, a.2.2⟩
theorem cOh.ok (a : cOh T G N law n y o k c h h1 k1 x) (q : cpl y (G 80 k1)) : cOk T G N law n y o k c h h1 k1 x := ⟨a.1, q, a.2⟩
theorem cOh.lif (hl : lft y) (a : cOh T G N law n y o k c h h1 k1 x) : cOh T G N law n (y + 1) o k c h h1 k1 x := ⟨a.1.lif hl, a.2⟩
theorem plC.snc {b : Int} {A : List (Int × Int)} {op : Int} (p : plC T h b A) (hop : op ≠ 51 ∧ op ≠ 52) {c2 ar : Int} (ec : c2 = b + A.length) (e2 : h1 (T + 2) = aset (h (T + 2)) c2 op) (e3 : h1 (T + 3) = aset (h (T + 3)) c2 ar) : plC T h1 b (A ++ [(op, ar)]) := by
  rw [plC_app]
  refine ⟨plC_fr A b (fun j x y => ?_) p, ⟨?_, ?_⟩, trivial⟩
  · rw [e2, e3, aset_ne (by omega), aset_ne (by omega)]
    exact ⟨rfl, rfl⟩
  · rw [e2, ec, aset_eq]
  · rw [e3, ec, aset_eq, if_neg (by intro q; rcases q with q | q; exact hop.1 q; exact hop.2 q)]
    omega
/-- two operands and a sign -/
theorem cOh.two {y2 : Nat} {o2 ka : Int} {h3 : Hp} {w : Int} (D0 : Der (G 80) (G 82) law y2 o ka k2 (xB w x z)) (hka : ka ≤ k) (hw : w ≠ 51 ∧ w ≠ 52) (k12 : k < k2 ∧ k2 < N)
    (p1 : plC T h1 c x.1) (g1 : cGr T h h1 c) (p2 : plC T h2 (c + x.1.length) z.1) (g2 : cGr T h1 h2 (c + x.1.length)) (c0 : 0 ≤ c)
    (s3 : cS T G N law n h3 k2 (c + x.1.length + z.1.length + 1)) (e2 : h3 (T + 2) = aset (h2 (T + 2)) (c + x.1.length + z.1.length) w) (e3 : h3 (T + 3) = aset (h2 (T + 3)) (c + x.1.length + z.1.length) 0) (hl : (x.1.length : Int) + z.1.length + 1 ≤ k2 - ka) : cOh T G N law n y2 o ka c h h3 k2 (xB w x z) := by
  refine ⟨D0, by omega, s3.eq ?_, ?_, ?_, ?_⟩
  · rw [xB_len]; omega
  · show plC T h3 c (x.1 ++ (z.1 ++ [(w, 0)]))
    rw [plC_app]
    refine ⟨plC_fr x.1 c (fun j a b => ?_) p1, plC.snc p2 hw rfl e2 e3⟩
    rw [e2, e3, aset_ne (by omega), aset_ne (by omega)]
    exact g2 j (by omega) (by omega)
  · exact (g1.tr g2 (by omega)).tr (cGr.snoc e2 e3 (Int.le_refl _)) (by omega)
  · rw [xB_len]; exact hl
/-- one operand and a sign -/
theorem cOh.one {y2 : Nat} {ka : Int} {h3 : Hp} {w : Int} (D0 : Der (G 80) (G 82) law y2 o ka k1 (xU w x)) (hka : ka < k1 ∧ k1 < N) (hw : w ≠ 51 ∧ w ≠ 52)
    (p1 : plC T h1 c x.1) (g1 : cGr T h h1 c) (c0 : 0 ≤ c)
    (s3 : cS T G N law n h3 k1 (c + x.1.length + 1)) (e2 : h3 (T + 2) = aset (h1 (T + 2)) (c + x.1.length) w) (e3 : h3 (T + 3) = aset (h1 (T + 3)) (c + x.1.length) 0) (hl : (x.1.length : Int) + 1 ≤ k1 - ka) : cOh T G N law n y2 o ka c h h3 k1 (xU w x) := by
  refine ⟨D0, hka, s3.eq ?_, plC.snc p1 hw rfl e2 e3, ?_, ?_⟩
  · rw [xU_len]; omega
  · exact g1.tr (cGr.snoc e2 e3 (Int.le_refl _)) (by omega)
  · rw [xU_len]; exact hl
theorem c_number (hT : tT T) (t : tkn G N) (s : cS T G N law n h k c) (hk : 0 ≤ k ∧ k < N) (c0 : 0 ≤ c) (ck : c ≤ k) (e : G 80 k = 46)
    (q1 : ∀ h1 k1 x, cOk T G N law n 0 o k c h h1 k1 x → Q (vI 1) h1) (q2 : ∀ h1 f kf, Fl (G 80) (G 82) law 0 o k f kf → 0 ≤ kf ∧ kf < N → cBad T G f kf h1 → Q (vI 0) h1) : Runs (D + 1) 89 0 [vA 79, vA T] [] h Q := by
  have e82 := s.a82 hT
  have hv := t.2.2 k hk.1 hk.2
  have t1 := t.1
  have kn := t.nxt hk (by omega)
  have e4 : h 79 4 = k := s.2.1.2.1
  have ev : h 82 (h 79 4) = G 82 k := by rw [e4, e82]
  have hT' := hT
  have b : 0 ≤ h 79 4 ∧ h 79 4 < (301 : Int) := by omega
  rcases hT with ez | ez | ez | ez <;> subst ez
  all_goals (
    refine Runs.go 60 [] ?_
    refine ⟨b, ?_⟩
    refine br.i (fun a => ?_) (fun a => ?_)
    · have a' : h 82 (h 79 4) ≤ 9999 := a
      refine ⟨b, ?_⟩
      refine c_emit hT' s (by omega) (fun h1 s1 p2 p3 => ?_)
      have e5 : h1 79 4 = k := s1.2.1.2.1
      refine ⟨show -2147483648 ≤ h1 79 4 + 1 ∧ h1 79 4 + 1 < 2147483648 by omega, ⟨by omega, ?_⟩⟩
      show Q (vI 1) (hup h1 79 4 (h1 79 4 + 1))
      rw [e5]
      rw [ev] at p3 a'
      refine q1 _ (k + 1) ([(46, G 82 k)], [(0, G 82 k)], fun _ _ => G 82 k) ⟨Der.num e hv a', cpl0, by omega, (s1.adv hT').eq (by simp), plC.adv hT' (plC.snc (A := []) (h := h) trivial (by decide) (by simp) p2 p3), cGr.tr (cGr.snoc p2 p3 (Int.le_refl _)) (cGr.adv hT') (Int.le_refl _), by simp; omega⟩
    · have a' : ¬ h 82 (h 79 4) ≤ 9999 := a
      rw [ev] at a'
      refine c_fail hT' t s hk (fun h1 bd => ⟨by omega, q2 h1 2 k (Fl.now (Or.inl ⟨e, by omega, rfl⟩)) hk bd⟩))
theorem c_name (hT : tT T) (t : tkn G N) (s : cS T G N law n h k c) (hk : 0 ≤ k ∧ k < N) (c0 : 0 ≤ c) (ck : c ≤ k) (e : 12 ≤ G 80 k ∧ G 80 k ≤ 20)
    (q1 : ∀ h1 k1 x, cOk T G N law n 0 o k c h h1 k1 x → Q (vI 1) h1) (q2 : ∀ h1 f kf, Fl (G 80) (G 82) law 0 o k f kf → 0 ≤ kf ∧ kf < N → cBad T G f kf h1 → Q (vI 0) h1) : Runs (D + 1) 90 0 [vA 79, vI (G 80 k), vA T] [] h Q := by
  have t1 := t.1
  have kn := t.nxt hk (by omega)
  have e4 : h 79 5 = law := s.2.1.2.2.1
  have hT' := hT
  have K : (¬ (law = 0 ∧ 19 ≤ G 80 k)) → Runs (D + 1) 90 25 [vA 79, vI (G 80 k), vA T] [] h Q := by
    intro a
    rcases hT with ez | ez | ez | ez <;> subst ez
    all_goals (
      refine Runs.go 60 [] ?_
      refine ⟨by omega, ?_⟩
      refine c_emit hT' s (by omega) (fun h1 s1 p2 p3 => ?_)
      have e5 : h1 79 4 = k := s1.2.1.2.1
      refine ⟨show -2147483648 ≤ h1 79 4 + 1 ∧ h1 79 4 + 1 < 2147483648 by omega, ⟨by omega, ?_⟩⟩
      show Q (vI 1) (hup h1 79 4 (h1 79 4 + 1))
      rw [e5]
      refine q1 _ (k + 1) ([(49, G 80 k - 12)], [(1, G 80 k - 12)], fun nm _ => nm (G 80 k - 12)) ⟨Der.nam e.1 e.2 a, cpl0, by omega, (s1.adv hT').eq (by simp), plC.adv hT' (plC.snc (A := []) (h := h) trivial (by decide) (by simp) p2 p3), cGr.tr (cGr.snoc p2 p3 (Int.le_refl _)) (cGr.adv hT') (Int.le_refl _), by simp; omega⟩)
  have F : law = 0 → 19 ≤ G 80 k → Runs (D + 1) 90 19 [vA 79, vI (G 80 k), vA T] [] h Q := by
    intro a1 a2
    refine Runs.go 20 [] ?_
    exact c_fail hT' t s hk (fun h1 bd => ⟨by omega, q2 h1 5 k (Fl.now (Or.inr (Or.inl ⟨e.1, e.2, a1, a2, rfl⟩))) hk bd⟩)
  refine Runs.go 20 [19, 25] ?_
  refine br.i (fun a => K (fun z => a (show h 79 5 = 0 by omega))) (fun a => ?_)
  have a' : h 79 5 = 0 := Decidable.not_not.mp a
  refine br.i (fun a2 => F (by omega) (by omega)) (fun a2 => ?_)
  refine br.i (fun a3 => K (fun z => ?_)) (fun a3 => F (by omega) ?_)
  · have a3' : G 80 k ≠ 20 := a3
    omega
  · have a3' : G 80 k = 20 := Decidable.not_not.mp a3
    omega

theorem c_product (hT : tT T) (t : tkn G N) (hk : 0 ≤ k ∧ k < N) (Sy : cRun T G N law n 88 [none, none] 0 4 k) (Iy : ∀ k2, k < k2 → k2 < N → cRun T G N law n 88 [none, none] 0 4 k2) : cRun T G N law n 87 [none, none] (0 + 1) 5 k := by
  intro D o c h Q hD o0 o8 c0 ck s q1 q2
  obtain ⟨E, rfl⟩ : ∃ E, D = E + 2 := ⟨D - 2, by omega⟩
  have t1 := t.1
  have hT' := hT
  have L : ∀ (f : Nat) (k1 : Int) (x : dX) (h1 : Hp) (i : Int) (u : AV), N - k1 ≤ f → cOh T G N law n (0 + 1) o k c h h1 k1 x → cpl 0 (G 80 k1) → 0 ≤ i → i < k1 - k → Runs (E + 2) 87 13 [vA 79, vI o, vA T, vI i, u] [] h1 Q := by
    intro f
    induction f with
    | zero => intro k1 x h1 i u a b; have := b.2.1; omega
    | succ f ih =>
      intro k1 x h1 i u hf a cq i0 i1
      obtain ⟨a1, a2, a3, a4, a5, a6⟩ := id a
      have ak : 0 ≤ k1 ∧ k1 < N := by omega
      have C : chn 0 (G 80 k1) → Runs (E + 2) 87 42 [vA 79, vI o, vA T, vI i, vI (G 80 k1)] [] h1 Q := by
        intro hc
        have nk := t.nxt ak (by unfold chn at hc; omega)
        have e4 : h1 79 4 = k1 := a3.2.1.2.1
        have IH := Iy (k1 + 1) (by omega) nk
        have wn : G 80 k1 ≠ 51 ∧ G 80 k1 ≠ 52 := by unfold chn at hc; omega
        rcases hT with ez | ez | ez | ez <;> subst ez
        all_goals (
          refine Runs.go 60 [13] ?_
          refine ⟨show -2147483648 ≤ h1 79 4 + 1 ∧ h1 79 4 + 1 < 2147483648 by omega, ?_⟩
          have A := a3.adv hT'
          rw [← e4] at A
          refine IH (E + 1) o (c + x.1.length) (hup h1 79 4 (h1 79 4 + 1)) _ (by omega) o0 o8 (by omega) (by omega) (by rw [e4]; rw [e4] at A; exact A) (fun h2 k2 z b => ?_) (fun h2 f2 kf fl kk bad => ?_)
          · obtain ⟨b1, b2, b3, b4, b5, b6, b7⟩ := b
            refine br.t (by decide) ?_
            refine c_emit hT' b4 (by omega) (fun h3 s3 p2 p3 => ?_)
            refine ⟨by omega, ?_⟩
            have g1 := cGr.tr (c := c + x.1.length) (cGr.adv hT' (v := h1 79 4 + 1)) b6 (Int.le_refl _)
            exact ih k2 (xB (G 80 k1) x z) h3 (i + 1) _ (by omega) (cOh.two (o2 := o) (k := k) (a1.chn hc b1) (Int.le_refl _) wn (by omega) a4 a5 b5 g1 c0 s3 p2 p3 (by omega)) b2 (by omega) (by omega)
          · refine br.f (by decide) ?_
            exact ⟨by omega, q2 h2 f2 kf (Fl.chn hc a1 fl) kk bad⟩)
      refine Runs.go 60 [42] ?_
      refine br.f (by omega) ?_
      refine c_next hT' t a3 ak ?_
      refine br.i (fun z => C (Or.inl ⟨rfl, Or.inl z⟩)) (fun z1 => ?_)
      refine br.i (fun z => C (Or.inl ⟨rfl, Or.inr z⟩)) (fun z2 => ?_)
      have z1' : ¬ G 80 k1 = 41 := z1
      have z2' : ¬ G 80 k1 = 42 := z2
      exact ⟨by omega, q1 h1 k1 x (a.ok (by unfold cpl at cq ⊢; omega))⟩
  refine Runs.go 60 [13] ?_
  refine Sy (E + 1) o c h _ (by omega) o0 o8 c0 ck s (fun h1 k1 x a => ?_) (fun h1 f kf fl kk bad => ?_)
  · refine br.t (by decide) ?_
    have a3 := a.2.2.1
    exact L (N - k1).toNat k1 x h1 0 none (by omega) (a.oh.lif (Or.inl rfl)) a.2.1 (by omega) (by omega)
  · refine br.f (by decide) ?_
    exact ⟨by omega, q2 h1 f kf (fl.lif (Or.inl rfl)) kk bad⟩
theorem c_sum (hT : tT T) (t : tkn G N) (hk : 0 ≤ k ∧ k < N) (Sy : cRun T G N law n 87 [none, none] 1 5 k) (Iy : ∀ k2, k < k2 → k2 < N → cRun T G N law n 87 [none, none] 1 5 k2) : cRun T G N law n 86 [none, none] (1 + 1) 6 k := by
  intro D o c h Q hD o0 o8 c0 ck s q1 q2
  obtain ⟨E, rfl⟩ : ∃ E, D = E + 2 := ⟨D - 2, by omega⟩
  have t1 := t.1
  have hT' := hT
  have L : ∀ (f : Nat) (k1 : Int) (x : dX) (h1 : Hp) (i : Int) (u : AV), N - k1 ≤ f → cOh T G N law n (1 + 1) o k c h h1 k1 x → cpl 1 (G 80 k1) → 0 ≤ i → i < k1 - k → Runs (E + 2) 86 13 [vA 79, vI o, vA T, vI i, u] [] h1 Q := by
    intro f
    induction f with
    | zero => intro k1 x h1 i u a b; have := b.2.1; omega
    | succ f ih =>
      intro k1 x h1 i u hf a cq i0 i1
      obtain ⟨a1, a2, a3, a4, a5, a6⟩ := id a
      have ak : 0 ≤ k1 ∧ k1 < N := by omega
      have C : chn 1 (G 80 k1) → Runs (E + 2) 86 42 [vA 79, vI o, vA T, vI i, vI (G 80 k1)] [] h1 Q := by
        intro hc
        have nk := t.nxt ak (by unfold chn at hc; omega)
        have e4 : h1 79 4 = k1 := a3.2.1.2.1
        have IH := Iy (k1 + 1) (by omega) nk
        have wn : G 80 k1 ≠ 51 ∧ G 80 k1 ≠ 52 := by unfold chn at hc; omega
        rcases hT with ez | ez | ez | ez <;> subst ez
        all_goals (
          refine Runs.go 60 [13] ?_
          refine ⟨show -2147483648 ≤ h1 79 4 + 1 ∧ h1 79 4 + 1 < 2147483648 by omega, ?_⟩
          have A := a3.adv hT'
          rw [← e4] at A
          refine IH (E + 1) o (c + x.1.length) (hup h1 79 4 (h1 79 4 + 1)) _ (by omega) o0 o8 (by omega) (by omega) (by rw [e4]; rw [e4] at A; exact A) (fun h2 k2 z b => ?_) (fun h2 f2 kf fl kk bad => ?_)
          · obtain ⟨b1, b2, b3, b4, b5, b6, b7⟩ := b
            refine br.t (by decide) ?_
            refine c_emit hT' b4 (by omega) (fun h3 s3 p2 p3 => ?_)
            refine ⟨by omega, ?_⟩
            have g1 := cGr.tr (c := c + x.1.length) (cGr.adv hT' (v := h1 79 4 + 1)) b6 (Int.le_refl _)
            exact ih k2 (xB (G 80 k1) x z) h3 (i + 1) _ (by omega) (cOh.two (o2 := o) (k := k) (a1.chn hc b1) (Int.le_refl _) wn (by omega) a4 a5 b5 g1 c0 s3 p2 p3 (by omega)) b2 (by omega) (by omega)
          · refine br.f (by decide) ?_
            exact ⟨by omega, q2 h2 f2 kf (Fl.chn hc a1 fl) kk bad⟩)
      refine Runs.go 60 [42] ?_
      refine br.f (by omega) ?_
      refine c_next hT' t a3 ak ?_
      refine br.i (fun z => C (Or.inr (Or.inl ⟨rfl, Or.inl z⟩))) (fun z1 => ?_)
      refine br.i (fun z => C (Or.inr (Or.inl ⟨rfl, Or.inr z⟩))) (fun z2 => ?_)
      have z1' : ¬ G 80 k1 = 39 := z1
      have z2' : ¬ G 80 k1 = 40 := z2
      exact ⟨by omega, q1 h1 k1 x (a.ok (by unfold cpl at cq ⊢; omega))⟩
  refine Runs.go 60 [13] ?_
  refine Sy (E + 1) o c h _ (by omega) o0 o8 c0 ck s (fun h1 k1 x a => ?_) (fun h1 f kf fl kk bad => ?_)
  · refine br.t (by decide) ?_
    have a3 := a.2.2.1
    exact L (N - k1).toNat k1 x h1 0 none (by omega) (a.oh.lif (Or.inr (Or.inl rfl))) a.2.1 (by omega) (by omega)
  · refine br.f (by decide) ?_
    exact ⟨by omega, q2 h1 f kf (fl.lif (Or.inr (Or.inl rfl))) kk bad⟩
theorem c_both (hT : tT T) (t : tkn G N) (hk : 0 ≤ k ∧ k < N) (Sy : cRun T G N law n 95 [none] 3 7 k) (Iy : ∀ k2, k < k2 → k2 < N → cRun T G N law n 95 [none] 3 7 k2) : cRun T G N law n 94 [none] (3 + 1) 8 k := by
  intro D o c h Q hD o0 o8 c0 ck s q1 q2
  obtain ⟨E, rfl⟩ : ∃ E, D = E + 2 := ⟨D - 2, by omega⟩
  have t1 := t.1
  have hT' := hT
  have L : ∀ (f : Nat) (k1 : Int) (x : dX) (h1 : Hp) (i : Int) (u : AV), N - k1 ≤ f → cOh T G N law n (3 + 1) o k c h h1 k1 x → cpl 3 (G 80 k1) → 0 ≤ i → i < k1 - k → Runs (E + 2) 94 13 [vA 79, vI o, vA T, vI i] [] h1 Q := by
    intro f
    induction f with
    | zero => intro k1 x h1 i u a b; have := b.2.1; omega
    | succ f ih =>
      intro k1 x h1 i u hf a cq i0 i1
      obtain ⟨a1, a2, a3, a4, a5, a6⟩ := id a
      have ak : 0 ≤ k1 ∧ k1 < N := by omega
      have hc0 : G 80 k1 = 30 → chn 3 (G 80 k1) := fun z => Or.inr (Or.inr (Or.inl ⟨rfl, z⟩))
      have C : G 80 k1 = 30 → Runs (E + 2) 94 29 [vA 79, vI o, vA T, vI i] [] h1 Q := by
        intro hz
        have hc := hc0 hz
        have nk := t.nxt ak (by omega)
        have e4 : h1 79 4 = k1 := a3.2.1.2.1
        have IH := Iy (k1 + 1) (by omega) nk
        have wn : G 80 k1 ≠ 51 ∧ G 80 k1 ≠ 52 := by omega
        rcases hT with ez | ez | ez | ez <;> subst ez
        all_goals (
          refine Runs.go 60 [13] ?_
          refine ⟨show -2147483648 ≤ h1 79 4 + 1 ∧ h1 79 4 + 1 < 2147483648 by omega, ?_⟩
          have A := a3.adv hT'
          rw [← e4] at A
          refine IH (E + 1) o (c + x.1.length) (hup h1 79 4 (h1 79 4 + 1)) _ (by omega) o0 o8 (by omega) (by omega) (by rw [e4]; rw [e4] at A; exact A) (fun h2 k2 z b => ?_) (fun h2 f2 kf fl kk bad => ?_)
          · obtain ⟨b1, b2, b3, b4, b5, b6, b7⟩ := b
            refine br.t (by decide) ?_
            refine c_emit hT' b4 (by omega) (fun h3 s3 p2 p3 => ?_)
            refine ⟨by omega, ?_⟩
            have g1 := cGr.tr (c := c + x.1.length) (cGr.adv hT' (v := h1 79 4 + 1)) b6 (Int.le_refl _)
            rw [← hz] at p2
            exact ih k2 (xB (G 80 k1) x z) h3 (i + 1) none (by omega) (cOh.two (o2 := o) (k := k) (a1.chn hc b1) (Int.le_refl _) wn (by omega) a4 a5 b5 g1 c0 s3 p2 p3 (by omega)) b2 (by omega) (by omega)
          · refine br.f (by decide) ?_
            exact ⟨by omega, q2 h2 f2 kf (Fl.chn hc a1 fl) kk bad⟩)
      refine Runs.go 60 [29] ?_
      refine br.f (by omega) ?_
      refine c_next hT' t a3 ak ?_
      refine br.j (fun z => C (Decidable.not_not.mp z)) (fun z1 => ?_)
      have z1' : ¬ G 80 k1 = 30 := z1
      exact ⟨by omega, q1 h1 k1 x (a.ok (by unfold cpl at cq ⊢; omega))⟩
  refine Runs.go 60 [13] ?_
  refine Sy (E + 1) o c h _ (by omega) o0 o8 c0 ck s (fun h1 k1 x a => ?_) (fun h1 f kf fl kk bad => ?_)
  · refine br.t (by decide) ?_
    have a3 := a.2.2.1
    exact L (N - k1).toNat k1 x h1 0 none (by omega) (a.oh.lif (Or.inr (Or.inr (Or.inl rfl)))) a.2.1 (by omega) (by omega)
  · refine br.f (by decide) ?_
    exact ⟨by omega, q2 h1 f kf (fl.lif (Or.inr (Or.inr (Or.inl rfl)))) kk bad⟩
theorem c_either (hT : tT T) (t : tkn G N) (hk : 0 ≤ k ∧ k < N) (Sy : cRun T G N law n 94 [none] 4 8 k) (Iy : ∀ k2, k < k2 → k2 < N → cRun T G N law n 94 [none] 4 8 k2) : cRun T G N law n 93 [none] (4 + 1) 9 k := by
  intro D o c h Q hD o0 o8 c0 ck s q1 q2
  obtain ⟨E, rfl⟩ : ∃ E, D = E + 2 := ⟨D - 2, by omega⟩
  have t1 := t.1
  have hT' := hT
  have L : ∀ (f : Nat) (k1 : Int) (x : dX) (h1 : Hp) (i : Int) (u : AV), N - k1 ≤ f → cOh T G N law n (4 + 1) o k c h h1 k1 x → cpl 4 (G 80 k1) → 0 ≤ i → i < k1 - k → Runs (E + 2) 93 13 [vA 79, vI o, vA T, vI i] [] h1 Q := by
    intro f
    induction f with
    | zero => intro k1 x h1 i u a b; have := b.2.1; omega
    | succ f ih =>
      intro k1 x h1 i u hf a cq i0 i1
      obtain ⟨a1, a2, a3, a4, a5, a6⟩ := id a
      have ak : 0 ≤ k1 ∧ k1 < N := by omega
      have hc0 : G 80 k1 = 29 → chn 4 (G 80 k1) := fun z => Or.inr (Or.inr (Or.inr ⟨rfl, z⟩))
      have C : G 80 k1 = 29 → Runs (E + 2) 93 29 [vA 79, vI o, vA T, vI i] [] h1 Q := by
        intro hz
        have hc := hc0 hz
        have nk := t.nxt ak (by omega)
        have e4 : h1 79 4 = k1 := a3.2.1.2.1
        have IH := Iy (k1 + 1) (by omega) nk
        have wn : G 80 k1 ≠ 51 ∧ G 80 k1 ≠ 52 := by omega
        rcases hT with ez | ez | ez | ez <;> subst ez
        all_goals (
          refine Runs.go 60 [13] ?_
          refine ⟨show -2147483648 ≤ h1 79 4 + 1 ∧ h1 79 4 + 1 < 2147483648 by omega, ?_⟩
          have A := a3.adv hT'
          rw [← e4] at A
          refine IH (E + 1) o (c + x.1.length) (hup h1 79 4 (h1 79 4 + 1)) _ (by omega) o0 o8 (by omega) (by omega) (by rw [e4]; rw [e4] at A; exact A) (fun h2 k2 z b => ?_) (fun h2 f2 kf fl kk bad => ?_)
          · obtain ⟨b1, b2, b3, b4, b5, b6, b7⟩ := b
            refine br.t (by decide) ?_
            refine c_emit hT' b4 (by omega) (fun h3 s3 p2 p3 => ?_)
            refine ⟨by omega, ?_⟩
            have g1 := cGr.tr (c := c + x.1.length) (cGr.adv hT' (v := h1 79 4 + 1)) b6 (Int.le_refl _)
            rw [← hz] at p2
            exact ih k2 (xB (G 80 k1) x z) h3 (i + 1) none (by omega) (cOh.two (o2 := o) (k := k) (a1.chn hc b1) (Int.le_refl _) wn (by omega) a4 a5 b5 g1 c0 s3 p2 p3 (by omega)) b2 (by omega) (by omega)
          · refine br.f (by decide) ?_
            exact ⟨by omega, q2 h2 f2 kf (Fl.chn hc a1 fl) kk bad⟩)
      refine Runs.go 60 [29] ?_
      refine br.f (by omega) ?_
      refine c_next hT' t a3 ak ?_
      refine br.j (fun z => C (Decidable.not_not.mp z)) (fun z1 => ?_)
      have z1' : ¬ G 80 k1 = 29 := z1
      exact ⟨by omega, q1 h1 k1 x (a.ok (by unfold cpl at cq ⊢; omega))⟩
  refine Runs.go 60 [13] ?_
  refine Sy (E + 1) o c h _ (by omega) o0 o8 c0 ck s (fun h1 k1 x a => ?_) (fun h1 f kf fl kk bad => ?_)
  · refine br.t (by decide) ?_
    have a3 := a.2.2.1
    exact L (N - k1).toNat k1 x h1 0 none (by omega) (a.oh.lif (Or.inr (Or.inr (Or.inr rfl)))) a.2.1 (by omega) (by omega)
  · refine br.f (by decide) ?_
    exact ⟨by omega, q2 h1 f kf (fl.lif (Or.inr (Or.inr (Or.inr rfl)))) kk bad⟩
end CP
