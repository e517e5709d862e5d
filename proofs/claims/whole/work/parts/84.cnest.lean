/-! TEXTS: the class's reader, what opens -/
section CN
variable {T : Nat} {G : Hp} {N law n k c o : Int} {h : Hp} {D : Nat} {Q : aPO} {k1 k2 : Int} {x z : dX} {y : Nat}
theorem adv2 (hT : tT T) {v : Int} : hup h 79 4 v (T + 2) = h (T + 2) ∧ hup h 79 4 v (T + 3) = h (T + 3) := ⟨hup_o (fun z => hT.ne.2.1 z.symm), hup_o (fun z => hT.ne.2.2.1 z.symm)⟩
theorem plC_if {A X Y : List (Int × Int)} {p1 p2 : Int} {h1 h2 h3 h4 h5 h6 h7 : Hp} (hp1 : p1 = c + A.length) (hp2 : p2 = p1 + 1 + X.length) (c0 : 0 ≤ c)
    (a : plC T h1 c A) (g12 : cGr T h1 h2 p1) (o2 : h2 (T + 2) p1 = 51) (x : plC T h3 (p1 + 1) X) (g23 : cGr T h2 h3 (p1 + 1)) (g34 : cGr T h3 h4 p2) (o4 : h4 (T + 2) p2 = 52)
    (e5o : h5 (T + 2) = h4 (T + 2)) (e5a : h5 (T + 3) = aset (h4 (T + 3)) p1 (p2 + 1)) (y : plC T h6 (p2 + 1) Y) (g56 : cGr T h5 h6 (p2 + 1)) (e7o : h7 (T + 2) = h6 (T + 2)) (e7a : h7 (T + 3) = aset (h6 (T + 3)) p2 (p2 + 1 + Y.length)) :
    plC T h7 c (A ++ ((51, (X.length : Int) + 2) :: (X ++ ((52, (Y.length : Int) + 1) :: Y)))) ∧ cGr T h1 h7 c := by
  -- what is kept of h4 in h7, but for p1 and p2
  have F : ∀ j, 0 ≤ j → j < p2 → j ≠ p1 → h7 (T + 2) j = h4 (T + 2) j ∧ h7 (T + 3) j = h4 (T + 3) j := by
    intro j j0 j1 j2
    have q := g56 j j0 (by omega)
    rw [e7o, e7a, aset_ne (by omega), q.1, q.2, e5o, e5a, aset_ne j2]
    exact ⟨rfl, rfl⟩
  have F1 : ∀ j, 0 ≤ j → j < p1 → h7 (T + 2) j = h1 (T + 2) j ∧ h7 (T + 3) j = h1 (T + 3) j := by
    intro j j0 j1
    have q1 := F j j0 (by omega) (by omega)
    have q2 := g34 j j0 (by omega)
    have q3 := g23 j j0 (by omega)
    have q4 := g12 j j0 j1
    exact ⟨q1.1.trans (q2.1.trans (q3.1.trans q4.1)), q1.2.trans (q2.2.trans (q3.2.trans q4.2))⟩
  refine ⟨?_, fun j j0 j1 => F1 j j0 (by omega)⟩
  rw [plC_app, ← hp1]
  refine ⟨plC_fr A c (fun j u v => F1 j (by omega) (by omega)) a, ⟨?_, ?_⟩, ?_⟩
  · have q := g56 p1 (by omega) (by omega)
    have q2 := g34 p1 (by omega) (by omega)
    have q3 := g23 p1 (by omega) (by omega)
    rw [e7o, q.1, e5o, q2.1, q3.1, o2]
  · have q := g56 p1 (by omega) (by omega)
    rw [e7a, aset_ne (by omega), q.2, e5a, aset_eq, if_pos (Or.inl rfl)]
    show p2 + 1 = (X.length : Int) + 2 + p1
    omega
  · rw [plC_app, show p1 + 1 + (X.length : Int) = p2 by omega]
    refine ⟨plC_fr X (p1 + 1) (fun j u v => ?_) x, ⟨?_, ?_⟩, ?_⟩
    · have q1 := F j (by omega) (by omega) (by omega)
      have q2 := g34 j (by omega) (by omega)
      exact ⟨q1.1.trans q2.1, q1.2.trans q2.2⟩
    · have q := g56 p2 (by omega) (by omega)
      rw [e7o, q.1, e5o, o4]
    · rw [e7a, aset_eq, if_pos (Or.inr rfl)]
      show p2 + 1 + (Y.length : Int) = (Y.length : Int) + 1 + p2
      omega
    · refine plC_fr Y (p2 + 1) (fun j u v => ?_) y
      rw [e7o, e7a, aset_ne (by omega)]
      exact ⟨rfl, rfl⟩
theorem c_choice (hT : tT T) (t : tkn G N) (hk : 0 ≤ k ∧ k + 1 < N) (e : G 80 k = 25) (o0 : 0 ≤ o) (o8 : o < 8) (I5 : ∀ k2, k < k2 → k2 < N → cRun T G N law n 93 [none] 5 9 k2) (I2 : ∀ k2, k < k2 → k2 < N → cRun T G N law n 86 [none, none] 2 6 k2)
    (hD : 10 * (8 - o) + 2 ≤ (D : Int)) (s : cS T G N law n h (k + 1) c) (c0 : 0 ≤ c) (ck : c ≤ k)
    (q1 : ∀ h1 k1 x, cOk T G N law n 0 o k c h h1 k1 x → Q (vI 1) h1) (q2 : ∀ h1 f kf, Fl (G 80) (G 82) law 0 o k f kf → 0 ≤ kf ∧ kf < N → cBad T G f kf h1 → Q (vI 0) h1) : Runs D 92 0 [vA 79, vI (o + 1), vA T, none, none] [] h Q := by
  obtain ⟨E, rfl⟩ : ∃ E, D = E + 2 := ⟨D - 2, by omega⟩
  have t1 := t.1
  have hT' := hT
  have op5 : opn (G 80 k) := Or.inr (Or.inr (Or.inr (Or.inr e)))
  have ei : inn (G 80 k) = 5 := by rw [e]; decide
  have ew : wnt (G 80 k) = 26 := by rw [e]; decide
  rcases hT with ez | ez | ez | ez <;> subst ez
  all_goals (
    refine Runs.go 120 [] ?_
    refine I5 (k + 1) (by omega) hk.2 (E + 1) (o + 1) c h _ (by omega) (by omega) (by omega) c0 (by omega) s (fun h1 k1 b a => ?_) (fun h1 f kf fl kk bad => ?_)
    rotate_left
    · refine br.t rfl ?_
      exact ⟨by omega, q2 h1 f kf (Fl.ins op5 o8 (by rw [ei]; exact fl)) kk bad⟩
    obtain ⟨a1, a2, a3, a4, a5, a6, a7⟩ := a
    refine br.f (by decide) ?_
    refine c_take hT' t a4 (by omega) (fun e1 => ?_) (fun e1 h2 bad => ?_)
    rotate_left
    · refine br.f (by decide) ?_
      exact ⟨by omega, q2 h2 1 k1 (Fl.cls (Or.inr (Or.inr e)) o8 (by rw [ei]; exact a1) (by rw [ei]; exact a2) (by rw [ew]; exact e1)) (by omega) bad⟩
    refine br.t (by decide) ?_
    have kn1 := t.nxt (k := k1) (by omega) (by omega)
    refine c_emit hT' (a4.adv hT') (by omega) (fun h2 s2 m2 m3 => ?_)
    rw [(adv2 hT').1] at m2
    rw [(adv2 hT').2] at m3
    refine I2 (k1 + 1) (by omega) kn1 (E + 1) (o + 1) (c + b.1.length + 1) h2 _ (by omega) (by omega) (by omega) (by omega) (by omega) s2 (fun h3 k2 x a' => ?_) (fun h3 f kf fl kk bad => ?_)
    rotate_left
    · refine br.t rfl ?_
      exact ⟨by omega, q2 h3 f kf (Fl.thn e o8 a1 e1 fl) kk bad⟩
    obtain ⟨b1, b2, b3, b4, b5, b6, b7⟩ := a'
    refine br.f (by decide) ?_
    refine c_take hT' t b4 (by omega) (fun e2 => ?_) (fun e2 h4 bad => ?_)
    rotate_left
    · refine br.f (by decide) ?_
      exact ⟨by omega, q2 h4 1 k2 (Fl.els e o8 a1 e1 b1 b2 e2) (by omega) bad⟩
    refine br.t (by decide) ?_
    have kn2 := t.nxt (k := k2) (by omega) (by omega)
    refine c_emit hT' (b4.adv hT') (by omega) (fun h4 s4 m4 m5 => ?_)
    rw [(adv2 hT').1] at m4
    rw [(adv2 hT').2] at m5
    refine c_jump hT' s4 (p := c + b.1.length) (by omega) (fun h5 s5 m6 m7 => ?_)
    refine I2 (k2 + 1) (by omega) kn2 (E + 1) (o + 1) (c + b.1.length + 1 + x.1.length + 1) h5 _ (by omega) (by omega) (by omega) (by omega) (by omega) s5 (fun h6 k3 y a' => ?_) (fun h6 f kf fl kk bad => ?_)
    rotate_left
    · refine br.t rfl ?_
      exact ⟨by omega, q2 h6 f kf (Fl.el2 e o8 a1 e1 b1 e2 fl) kk bad⟩
    obtain ⟨d1, d2, d3, d4, d5, d6, d7⟩ := a'
    refine br.f (by decide) ?_
    refine c_take hT' t d4 (by omega) (fun e3 => ?_) (fun e3 h7 bad => ?_)
    rotate_left
    · refine br.f (by decide) ?_
      exact ⟨by omega, q2 h7 1 k3 (Fl.en3 e o8 a1 e1 b1 e2 d1 d2 e3) (by omega) bad⟩
    refine br.t (by decide) ?_
    have kn3 := t.nxt (k := k3) (by omega) (by omega)
    refine c_jump hT' (d4.adv hT') (p := c + b.1.length + 1 + x.1.length) (by omega) (fun h7 s7 m8 m9 => ?_)
    rw [(adv2 hT').1] at m8
    rw [(adv2 hT').2] at m9
    have F := plC_if (c := c) (p1 := c + b.1.length) (p2 := c + b.1.length + 1 + x.1.length) (h1 := h1) (h2 := h2) (h3 := h3) (h4 := h4) (h5 := h5) (h6 := h6) (h7 := h7) rfl rfl c0 a5 (cGr.snoc m2 m3 (Int.le_refl _)) (by rw [m2, aset_eq]) b5 b6 (cGr.snoc m4 m5 (Int.le_refl _)) (by rw [m4, aset_eq]) m6 m7 d5 d6 m8 (by rw [m9])
    refine ⟨by omega, q1 h7 (k3 + 1) (xIf b x y) ⟨Der.iff e o8 a1 e1 b1 e2 d1 e3, cpl0, by omega, s7.eq (by rw [xIf_len]; omega), F.1, a6.tr F.2 (Int.le_refl _), by rw [xIf_len]; omega⟩⟩)
theorem c_nested (hT : tT T) (t : tkn G N) (hk : 0 ≤ k ∧ k + 1 < N) (w : Int) (hw : opn w) (e : G 80 k = w) (o0 : 0 ≤ o) (o8 : o < 8) (I0 : ∀ k2, k < k2 → k2 < N → cRun T G N law n 88 [none, none] 0 4 k2) (I5 : ∀ k2, k < k2 → k2 < N → cRun T G N law n 93 [none] 5 9 k2) (I2 : ∀ k2, k < k2 → k2 < N → cRun T G N law n 86 [none, none] 2 6 k2)
    (hD : 10 * (8 - o) + 3 ≤ (D : Int)) (s : cS T G N law n h (k + 1) c) (c0 : 0 ≤ c) (ck : c ≤ k)
    (q1 : ∀ h1 k1 x, cOk T G N law n 0 o k c h h1 k1 x → Q (vI 1) h1) (q2 : ∀ h1 f kf, Fl (G 80) (G 82) law 0 o k f kf → 0 ≤ kf ∧ kf < N → cBad T G f kf h1 → Q (vI 0) h1) : Runs D 91 0 [vA 79, vI w, vI (o + 1), vA T] [] h Q := by
  obtain ⟨E, rfl⟩ : ∃ E, D = E + 2 := ⟨D - 2, by omega⟩
  have t1 := t.1
  have hT' := hT
  have op5 : opn (G 80 k) := by rw [e]; exact hw
  rcases hw with hw | hw | hw | hw | hw <;> subst hw
  · -- a bracket
    have ei : inn (G 80 k) = 2 := by rw [e]; decide
    have ew : wnt (G 80 k) = 44 := by rw [e]; decide
    refine Runs.go 60 [] ?_
    refine br.f (by decide) (br.f (by decide) (br.f (by decide) (br.t rfl ?_)))
    refine I2 (k + 1) (by omega) hk.2 (E + 1) (o + 1) c h _ (by omega) (by omega) (by omega) c0 (by omega) s (fun h1 k1 b a => ?_) (fun h1 f kf fl kk bad => ?_)
    rotate_left
    · refine br.t rfl ?_
      exact ⟨by omega, q2 h1 f kf (Fl.ins op5 o8 (by rw [ei]; exact fl)) kk bad⟩
    obtain ⟨a1, a2, a3, a4, a5, a6, a7⟩ := a
    refine br.f (by decide) ?_
    refine c_take hT' t a4 (by omega) (fun e1 => ?_) (fun e1 h2 bad => ?_)
    · refine br.f (by decide) ?_
      have kn1 := t.nxt (k := k1) (by omega) (by omega)
      exact ⟨by omega, q1 _ (k1 + 1) b ⟨Der.par e o8 a1 e1, cpl0, by omega, a4.adv hT', plC.adv hT' a5, a6.tr (cGr.adv hT') (Int.le_refl _), by omega⟩⟩
    · refine br.t rfl ?_
      exact ⟨by omega, q2 h2 1 k1 (Fl.cls (Or.inl e) o8 (by rw [ei]; exact a1) (by rw [ei]; exact a2) (by rw [ew]; exact e1)) (by omega) bad⟩
  · have ei : inn (G 80 k) = 0 := by rw [e]; decide
    rcases hT with ez | ez | ez | ez <;> subst ez
    all_goals (
      refine Runs.go 60 [] ?_
      refine br.f (by decide) (br.f (by decide) (br.t rfl ?_))
      refine I0 (k + 1) (by omega) hk.2 (E + 1) (o + 1) c h _ (by omega) (by omega) (by omega) c0 (by omega) s (fun h1 k1 b a => ?_) (fun h1 f kf fl kk bad => ?_)
      rotate_left
      · refine br.t rfl ?_
        exact ⟨by omega, q2 h1 f kf (Fl.ins op5 o8 (by rw [ei]; exact fl)) kk bad⟩
      obtain ⟨a1, a2, a3, a4, a5, a6, a7⟩ := a
      refine br.f (by decide) ?_
      refine c_emit hT' a4 (by omega) (fun h2 s2 m2 m3 => ?_)
      refine br.f (by omega) ?_
      exact ⟨by omega, q1 h2 k1 (xU 50 b) ((cOh.one (Der.una (Or.inl ⟨e, rfl⟩) o8 a1) (by omega) (by decide) a5 a6 c0 s2 m2 m3 (by omega)).ok cpl0)⟩)
  · have ei : inn (G 80 k) = 0 := by rw [e]; decide
    have ew : wnt (G 80 k) = 22 := by rw [e]; decide
    rcases hT with ez | ez | ez | ez <;> subst ez
    all_goals (
      refine Runs.go 60 [] ?_
      refine br.t rfl ?_
      refine I0 (k + 1) (by omega) hk.2 (E + 1) (o + 1) c h _ (by omega) (by omega) (by omega) c0 (by omega) s (fun h1 k1 b a => ?_) (fun h1 f kf fl kk bad => ?_)
      rotate_left
      · refine br.t rfl ?_
        exact ⟨by omega, q2 h1 f kf (Fl.ins op5 o8 (by rw [ei]; exact fl)) kk bad⟩
      obtain ⟨a1, a2, a3, a4, a5, a6, a7⟩ := a
      refine br.f (by decide) ?_
      refine c_take hT' t a4 (by omega) (fun e1 => ?_) (fun e1 h2 bad => ?_)
      rotate_left
      · refine br.t rfl ?_
        exact ⟨by omega, q2 h2 1 k1 (Fl.cls (Or.inr (Or.inl e)) o8 (by rw [ei]; exact a1) (by rw [ei]; exact cpl0) (by rw [ew]; exact e1)) (by omega) bad⟩
      refine br.f (by decide) ?_
      have kn1 := t.nxt (k := k1) (by omega) (by omega)
      refine I0 (k1 + 1) (by omega) kn1 (E + 1) (o + 1) (c + b.1.length) (hup h1 79 4 (k1 + 1)) _ (by omega) (by omega) (by omega) (by omega) (by omega) (a4.adv hT') (fun h2 k2 z a' => ?_) (fun h2 f kf fl kk bad => ?_)
      rotate_left
      · refine br.t rfl ?_
        exact ⟨by omega, q2 h2 f kf (Fl.abo e o8 a1 e1 fl) kk bad⟩
      obtain ⟨b1, b2, b3, b4, b5, b6, b7⟩ := a'
      refine br.f (by decide) ?_
      refine c_emit hT' b4 (by omega) (fun h3 s3 m2 m3 => ?_)
      refine br.f (by omega) ?_
      exact ⟨by omega, q1 h3 k2 (xB 23 b z) ((cOh.two (o2 := o) (k := k) (Der.abo e o8 a1 e1 b1) (Int.le_refl _) (by decide) (by omega) a5 a6 b5 ((cGr.adv hT').tr b6 (Int.le_refl _)) c0 s3 m2 m3 (by omega)).ok cpl0)⟩)
  · have ei : inn (G 80 k) = 0 := by rw [e]; decide
    rcases hT with ez | ez | ez | ez <;> subst ez
    all_goals (
      refine Runs.go 60 [] ?_
      refine br.f (by decide) (br.t rfl ?_)
      refine I0 (k + 1) (by omega) hk.2 (E + 1) (o + 1) c h _ (by omega) (by omega) (by omega) c0 (by omega) s (fun h1 k1 b a => ?_) (fun h1 f kf fl kk bad => ?_)
      rotate_left
      · refine br.t rfl ?_
        exact ⟨by omega, q2 h1 f kf (Fl.ins op5 o8 (by rw [ei]; exact fl)) kk bad⟩
      obtain ⟨a1, a2, a3, a4, a5, a6, a7⟩ := a
      refine br.f (by decide) ?_
      refine c_emit hT' a4 (by omega) (fun h2 s2 m2 m3 => ?_)
      refine br.f (by omega) ?_
      exact ⟨by omega, q1 h2 k1 (xU 24 b) ((cOh.one (Der.una (Or.inr ⟨e, rfl⟩) o8 a1) (by omega) (by decide) a5 a6 c0 s2 m2 m3 (by omega)).ok cpl0)⟩)
  · refine Runs.go 60 [] ?_
    refine br.f (by decide) (br.f (by decide) (br.f (by decide) (br.f (by decide) ?_)))
    refine c_choice (D := E + 1) hT t hk e o0 o8 I5 I2 (by omega) s c0 ck (fun h1 k1 x a => ⟨by omega, q1 h1 k1 x a⟩) (fun h1 f kf a b d => ⟨by omega, q2 h1 f kf a b d⟩)
theorem c_single (hT : tT T) (t : tkn G N) (hk : 0 ≤ k ∧ k < N) (I0 : ∀ k2, k < k2 → k2 < N → cRun T G N law n 88 [none, none] 0 4 k2) (I5 : ∀ k2, k < k2 → k2 < N → cRun T G N law n 93 [none] 5 9 k2) (I2 : ∀ k2, k < k2 → k2 < N → cRun T G N law n 86 [none, none] 2 6 k2) : cRun T G N law n 88 [none, none] 0 4 k := by
  intro D o c h Q hD o0 o8 c0 ck s q1 q2
  obtain ⟨E, rfl⟩ : ∃ E, D = E + 3 := ⟨D - 3, by omega⟩
  have t1 := t.1
  have e4 : h 79 4 = k := s.2.1.2.1
  have B : opn (G 80 k) → ∀ u : Int, Runs (E + 3) 88 84 [vA 79, vI o, vA T, vI (G 80 k), vI u] [] h Q := by
    intro hw u
    have kn := t.nxt hk (by unfold opn at hw; omega)
    refine Runs.go 40 [] ?_
    refine br.j (fun z => ?_) (fun z => ?_)
    · refine c_fail hT t s hk (fun h1 bd => ⟨by omega, q2 h1 3 k (Fl.now (Or.inr (Or.inr (Or.inl ⟨hw, by omega, rfl⟩)))) hk bd⟩)
    · have A := s.adv hT
      rw [← e4] at A
      refine ⟨show -2147483648 ≤ h 79 4 + 1 ∧ h 79 4 + 1 < 2147483648 by omega, ⟨by omega, ?_⟩⟩
      refine c_nested (D := E + 2) (k := k) hT t (by omega) (G 80 k) hw rfl o0 z I0 I5 I2 (by omega) (h := hup h 79 4 (h 79 4 + 1)) (c := c) (by rw [e4]; rw [e4] at A; exact A) c0 ck (fun h1 k1 x a => ⟨by omega, q1 h1 k1 x ?_⟩) (fun h1 f kf a b d => ⟨by omega, q2 h1 f kf a b d⟩)
      obtain ⟨a1, a2, a3, a4, a5, a6, a7⟩ := a
      exact ⟨a1, a2, a3, a4, a5, (cGr.adv hT).tr a6 (Int.le_refl _), a7⟩
  refine Runs.go 60 [36] ?_
  refine c_next hT t s hk ?_
  refine br.j (fun z => ?_) (fun z1 => ?_)
  · have z' : G 80 k = 46 := Decidable.not_not.mp z
    exact c_number (D := E + 1) hT t s hk c0 ck z' (fun h1 k1 x a => ⟨by omega, q1 h1 k1 x a⟩) (fun h1 f kf a b d => ⟨by omega, q2 h1 f kf a b d⟩)
  have z1' : G 80 k ≠ 46 := z1
  have X : ¬ (12 ≤ G 80 k ∧ G 80 k ≤ 20) → Runs (E + 3) 88 36 [vA 79, vI o, vA T, vI (G 80 k), none] [] h Q := by
    intro nz
    refine Runs.go 60 [84] ?_
    refine br.i (fun z => br.t (by decide) (B (Or.inl z) 1)) (fun y1 => ?_)
    refine br.i (fun z => br.t (by decide) (B (Or.inr (Or.inl z)) 1)) (fun y2 => ?_)
    refine br.i (fun z => br.t (by decide) (B (Or.inr (Or.inr (Or.inl z))) 1)) (fun y3 => ?_)
    refine br.i (fun z => br.t (by decide) (B (Or.inr (Or.inr (Or.inr (Or.inl z)))) 1)) (fun y4 => ?_)
    refine br.j (fun z => br.t (by decide) (B (Or.inr (Or.inr (Or.inr (Or.inr (Decidable.not_not.mp z))))) 1)) (fun y5 => ?_)
    refine br.f (by decide) ?_
    refine c_fail hT t s hk (fun h1 bd => ⟨by omega, q2 h1 1 k (Fl.now (Or.inr (Or.inr (Or.inr ⟨z1', nz, ?_, rfl⟩)))) hk bd⟩)
    rintro (z | z | z | z | z)
    · exact y1 z
    · exact y2 z
    · exact y3 z
    · exact y4 z
    · exact y5 z
  refine br.i (fun z => ?_) (fun z2 => ?_)
  · have z' : G 80 k < 12 := z
    exact X (by omega)
  · have z2' : ¬ G 80 k < 12 := z2
    refine br.i (fun z => ?_) (fun z3 => ?_)
    · have z' : 20 < G 80 k := z
      exact X (by omega)
    · have z3' : ¬ 20 < G 80 k := z3
      exact c_name (D := E + 1) hT t s hk c0 ck ⟨by omega, by omega⟩ (fun h1 k1 x a => ⟨by omega, q1 h1 k1 x a⟩) (fun h1 f kf a b d => ⟨by omega, q2 h1 f kf a b d⟩)
theorem c_ask (hT : tT T) (t : tkn G N) (hk : 0 ≤ k ∧ k < N) (S2 : cRun T G N law n 86 [none, none] 2 6 k) (I3 : ∀ k2, k < k2 → k2 < N → cRun T G N law n 95 [none] 3 7 k2) (I2 : ∀ k2, k < k2 → k2 < N → cRun T G N law n 86 [none, none] 2 6 k2) : cRun T G N law n 95 [none] 3 7 k := by
  intro D o c h Q hD o0 o8 c0 ck s q1 q2
  obtain ⟨E, rfl⟩ : ∃ E, D = E + 3 := ⟨D - 3, by omega⟩
  have t1 := t.1
  have e4 : h 79 4 = k := s.2.1.2.1
  have hT' := hT
  have A : G 80 k = 31 → Runs (E + 3) 95 9 [vA 79, vI o, vA T, none] [] h Q := by
    intro e
    have kn := t.nxt hk (by omega)
    rcases hT with ez | ez | ez | ez <;> subst ez
    all_goals (
      refine Runs.go 60 [] ?_
      refine br.j (fun z => ?_) (fun z => ?_)
      · refine c_fail hT' t s hk (fun h1 bd => ⟨by omega, q2 h1 3 k (Fl.nt3 e (by omega)) hk bd⟩)
      · have A := s.adv hT'
        rw [← e4] at A
        refine ⟨show -2147483648 ≤ h 79 4 + 1 ∧ h 79 4 + 1 < 2147483648 by omega, ⟨by omega, ?_⟩⟩
        refine I3 (k + 1) (by omega) kn (E + 2) (o + 1) c (hup h 79 4 (h 79 4 + 1)) _ (by omega) (by omega) (by omega) c0 (by omega) (by rw [e4]; rw [e4] at A; exact A) (fun h1 k1 b a => ?_) (fun h1 f kf fl kk bad => ?_)
        · obtain ⟨a1, a2, a3, a4, a5, a6, a7⟩ := a
          refine br.f (by decide) ?_
          refine c_emit hT' a4 (by omega) (fun h2 s2 m2 m3 => ?_)
          refine br.f (by omega) ?_
          exact ⟨by omega, q1 h2 k1 (xU 31 b) ((cOh.one (Der.nt e z a1) (by omega) (by decide) a5 ((cGr.adv hT').tr a6 (Int.le_refl _)) c0 s2 m2 m3 (by omega)).ok a2)⟩
        · refine br.t rfl ?_
          exact ⟨by omega, q2 h1 f kf (Fl.nt e z fl) kk bad⟩)
  have B : G 80 k ≠ 31 → ∀ (h1 : Hp) (k1 : Int) (x : dX), cOk T G N law n 2 o k c h h1 k1 x → 33 ≤ G 80 k1 → G 80 k1 ≤ 38 → Runs (E + 3) 95 93 [vA 79, vI o, vA T, vI (G 80 k1)] [] h1 Q := by
    intro e h1 k1 x a z1 z2
    obtain ⟨a1, a2, a3, a4, a5, a6, a7⟩ := a
    have kn1 := t.nxt (k := k1) (by omega) (by omega)
    have e5 : h1 79 4 = k1 := a4.2.1.2.1
    have wn : G 80 k1 ≠ 51 ∧ G 80 k1 ≠ 52 := by omega
    rcases hT with ez | ez | ez | ez <;> subst ez
    all_goals (
      refine Runs.go 60 [] ?_
      have A := a4.adv hT'
      rw [← e5] at A
      refine ⟨show -2147483648 ≤ h1 79 4 + 1 ∧ h1 79 4 + 1 < 2147483648 by omega, ?_⟩
      refine I2 (k1 + 1) (by omega) kn1 (E + 2) o (c + x.1.length) (hup h1 79 4 (h1 79 4 + 1)) _ (by omega) (by omega) (by omega) (by omega) (by omega) (by rw [e5]; rw [e5] at A; exact A) (fun h2 k2 z a' => ?_) (fun h2 f kf fl kk bad => ?_)
      · obtain ⟨b1, b2, b3, b4, b5, b6, b7⟩ := a'
        refine br.f (by decide) ?_
        refine c_emit hT' b4 (by omega) (fun h3 s3 m2 m3 => ?_)
        refine br.f (by omega) ?_
        exact ⟨by omega, q1 h3 k2 (xB (G 80 k1) x z) ((cOh.two (o2 := o) (k := k) (Der.cmp e a1 z1 z2 b1) (Int.le_refl _) wn (by omega) a5 a6 b5 ((cGr.adv hT').tr b6 (Int.le_refl _)) c0 s3 m2 m3 (by omega)).ok (by unfold cpl at b2 ⊢; omega))⟩
      · refine br.t rfl ?_
        exact ⟨by omega, q2 h2 f kf (Fl.as2 e a1 z1 z2 fl) kk bad⟩)
  refine Runs.go 60 [9, 93] ?_
  refine c_next hT' t s hk ?_
  refine br.j (fun z => A (Decidable.not_not.mp z)) (fun z => ?_)
  have e : G 80 k ≠ 31 := z
  refine S2 (E + 2) o c h _ (by omega) o0 o8 c0 ck s (fun h1 k1 x a => ?_) (fun h1 f kf fl kk bad => ?_)
  · refine br.t (by decide) ?_
    have a4 := a.2.2.2.1
    have a3 := a.2.2.1
    refine c_next hT' t a4 (by omega) ?_
    have X : ¬ (33 ≤ G 80 k1 ∧ G 80 k1 ≤ 38) → ∀ Q' : aPO, (∀ h2, cBad T G 1 k1 h2 → Q' (vI 0) h2) → Runs (E + 2) 80 0 [vA 79, vI 1] [] h1 Q' := fun _ Q' q => c_fail hT' t a4 (by omega) q
    refine br.i (fun y => ?_) (fun y1 => ?_)
    · have y' : G 80 k1 < 33 := y
      exact X (by omega) _ (fun h2 bd => ⟨by omega, q2 h2 1 k1 (Fl.asm e a.1 a.2.1 (by omega)) (by omega) bd⟩)
    · have y1' : ¬ G 80 k1 < 33 := y1
      refine br.i (fun y => B e h1 k1 x a (by omega) y) (fun y2 => ?_)
      have y2' : ¬ G 80 k1 ≤ 38 := y2
      exact X (by omega) _ (fun h2 bd => ⟨by omega, q2 h2 1 k1 (Fl.asm e a.1 a.2.1 (by omega)) (by omega) bd⟩)
  · refine br.f (by decide) ?_
    exact ⟨by omega, q2 h1 f kf (Fl.as1 e fl) kk bad⟩
/-- all of them, everywhere -/
theorem c_all (hT : tT T) (t : tkn G N) : ∀ (f : Nat) (k : Int), N - k ≤ f → 0 ≤ k → k < N → cRun T G N law n 88 [none, none] 0 4 k ∧ cRun T G N law n 87 [none, none] 1 5 k ∧ cRun T G N law n 86 [none, none] 2 6 k ∧ cRun T G N law n 95 [none] 3 7 k ∧ cRun T G N law n 94 [none] 4 8 k ∧ cRun T G N law n 93 [none] 5 9 k := by
  intro f
  induction f with
  | zero => intro k a b c; omega
  | succ f ih =>
    intro k a b c
    have J : ∀ k2, k < k2 → k2 < N → _ := fun k2 x y => ih k2 (by omega) (by omega) y
    have S0 := c_single hT t ⟨b, c⟩ (fun k2 x y => (J k2 x y).1) (fun k2 x y => (J k2 x y).2.2.2.2.2) (fun k2 x y => (J k2 x y).2.2.1)
    have S1 := c_product hT t ⟨b, c⟩ S0 (fun k2 x y => (J k2 x y).1)
    have S2 := c_sum hT t ⟨b, c⟩ S1 (fun k2 x y => (J k2 x y).2.1)
    have S3 := c_ask hT t ⟨b, c⟩ S2 (fun k2 x y => (J k2 x y).2.2.2.1) (fun k2 x y => (J k2 x y).2.2.1)
    have S4 := c_both hT t ⟨b, c⟩ S3 (fun k2 x y => (J k2 x y).2.2.2.1)
    have S5 := c_either hT t ⟨b, c⟩ S4 (fun k2 x y => (J k2 x y).2.2.2.2.1)
    exact ⟨S0, S1, S2, S3, S4, S5⟩
end CN
