/-! TEXTS: the reference's next token, whole -/
theorem rTok_s {b c v tv nu wd : Int} (hb : 0 ≤ b ∧ b ≤ 255) (hc : c = sgc b) (ht : (isSg b ∧ tv = b) ∨ (¬ isSg b ∧ tv = 3)) : rTok c v tv nu wd := by
  unfold isSg at ht
  unfold sgc at hc
  have R : ((0 ≤ c ∧ c ≤ 48) ∧ (c = 48 → tv = 0) ∧ (c = 46 → tv = 1) ∧ (c ≤ 32 → tv = 2) ∧ (c = 33 → tv = 60) ∧ (c = 34 → tv = 4) ∧ (c = 35 → tv = 62) ∧ (c = 36 → tv = 5) ∧ (c = 37 → tv = 61) ∧ (c = 38 → tv = 35) ∧
  (c = 39 → tv = 43) ∧ (c = 40 → tv = 45) ∧ (c = 41 → tv = 42) ∧ (c = 42 → tv = 47) ∧ (c = 43 → tv = 40) ∧ (c = 44 → tv = 41) ∧ (c = 45 → tv = 59) ∧ (c = 47 → tv = 3 ∨ (6 ≤ tv ∧ tv ≤ 255 ∧ tv ≠ 60 ∧ tv ≠ 62 ∧ tv ≠ 61 ∧ tv ≠ 35 ∧ tv ≠ 43 ∧ tv ≠ 45 ∧ tv ≠ 42 ∧ tv ≠ 47 ∧ tv ≠ 40 ∧ tv ≠ 41 ∧ tv ≠ 59))) ∧ c ≠ 46 ∧ ¬ c ≤ 32 := by
    repeat' split at hc
    all_goals omega
  exact ⟨R.1, fun z => absurd z R.2.1, fun z => absurd z R.2.2⟩
theorem rTok_c {c v tv nu wd : Int} (h : c = 34 ∧ tv = 4 ∨ c = 36 ∧ tv = 5 ∨ c = 48 ∧ tv = 0) : rTok c v tv nu wd := by
  have R : ((0 ≤ c ∧ c ≤ 48) ∧ (c = 48 → tv = 0) ∧ (c = 46 → tv = 1) ∧ (c ≤ 32 → tv = 2) ∧ (c = 33 → tv = 60) ∧ (c = 34 → tv = 4) ∧ (c = 35 → tv = 62) ∧ (c = 36 → tv = 5) ∧ (c = 37 → tv = 61) ∧ (c = 38 → tv = 35) ∧
  (c = 39 → tv = 43) ∧ (c = 40 → tv = 45) ∧ (c = 41 → tv = 42) ∧ (c = 42 → tv = 47) ∧ (c = 43 → tv = 40) ∧ (c = 44 → tv = 41) ∧ (c = 45 → tv = 59) ∧ (c = 47 → tv = 3 ∨ (6 ≤ tv ∧ tv ≤ 255 ∧ tv ≠ 60 ∧ tv ≠ 62 ∧ tv ≠ 61 ∧ tv ≠ 35 ∧ tv ≠ 43 ∧ tv ≠ 45 ∧ tv ≠ 42 ∧ tv ≠ 47 ∧ tv ≠ 40 ∧ tv ≠ 41 ∧ tv ≠ 59))) ∧ c ≠ 46 ∧ ¬ c ≤ 32 := by omega
  exact ⟨R.1, fun z => absurd z R.2.1, fun z => absurd z R.2.2⟩
theorem rTok_n {v tv nu wd : Int} (h : tv = 1) (hn : 0 ≤ nu) (hv : v = min 10000 nu) : rTok 46 v tv nu wd := by
  refine ⟨by omega, fun _ => ⟨hn, hv⟩, fun z => absurd z (by decide)⟩
theorem rTok_w {c v tv nu wd : Int} (h : tv = 2) (hc : 0 ≤ c ∧ c ≤ 32) (hw : ∀ i : Nat, i < 32 → i ≠ 5 → (wd = Hw i ↔ c = i)) : rTok c v tv nu wd := by
  refine ⟨by omega, fun z => by omega, fun _ => hw⟩
section RN
variable {h : Hp} {Q : aPO} {D : Nat} {G : Hp} {N k : Int} {en : Int → Int}
theorem r_tokAt (S : tS G N en) (hk : 0 ≤ k ∧ k < N) (s0 : 0 ≤ G 81 k) (e88 : h 88 = G 88) (e4 : h 84 4 = G 84 4) (e7 : h 84 7 = G 81 k)
    (q : ∀ h1, u84 h h1 → h1 84 7 = en k → h1 84 8 = G 81 k → rTok (G 80 k) (G 82 k) (h1 84 9) (h1 84 10) (h1 84 11) → Q none h1) : Runs (D + 1) 188 39 [vA 84, none] [] h Q := by
  have l1 := S.1
  have U : u84 h (hup h 84 8 (h 84 7)) := u84.rf.up (by decide)
  have f4 : (hup h 84 8 (h 84 7)) 84 4 = G 84 4 := by rw [hup_nj (by decide)]; exact e4
  have f7 : (hup h 84 8 (h 84 7)) 84 7 = G 81 k := by rw [hup_nj (by decide)]; exact e7
  have f8 : (hup h 84 8 (h 84 7)) 84 8 = G 81 k := by rw [hup_eq]; exact e7
  have f88 : (hup h 84 8 (h 84 7)) 88 = G 88 := by rw [hup_o (by decide)]; exact e88
  have K : ∀ c : Int, c = (if G 81 k < G 84 4 then G 88 (G 81 k) else -1) → Runs (D + 1) 188 56 [vA 84, vI c] [] (hup h 84 8 (h 84 7)) Q := by
    intro c hc
    generalize hup h 84 8 (h 84 7) = g at *
    by_cases ek : k = N - 1
    · rw [ek, S.2.1.2.1, if_neg (by omega)] at hc
      subst hc
      refine Runs.go 20 [] ?_
      refine br.f (by decide) ?_
      refine q _ (U.up (by decide)) ?_ ?_ ?_
      · rw [hup_nj (by decide), f7, ek, S.2.1.2.1, S.2.1.2.2.1]
      · rw [hup_nj (by decide)]; exact f8
      · rw [ek, S.2.1.1, hup_eq]
        exact rTok_c (by omega)
    · obtain ⟨tp, -⟩ := S.2.2.1 k hk.1 (by omega)
      rcases tp with w | dd | ss
      · -- a word
        obtain ⟨r, hc0, hwi, hv⟩ := w
        have lt := r.2.1 (G 81 k) (by omega) r.1.1
        rw [if_pos (by have := r.1; omega)] at hc
        rw [← hc] at lt
        refine Runs.go 60 [168] ?_
        refine br.t (by omega) ?_
        refine r_isFig ?_
        refine br.t (b2i_f (by omega)) ?_
        refine r_isLet ?_
        refine br.f (by rw [b2i_t lt]; decide) ?_
        refine tokW (l := G 84 4) (s := G 81 k) (e := en k) (tp := G 88) (h := hup (hup g 84 9 2) 84 11 0) ?_ ?_ (by omega) s0 r ?_ ?_ ?_ (fun h1 a1 a2 a3 a4 a5 => ?_) _
        · rw [hup_o (by decide), hup_o (by decide)]; exact f88
        · rw [hup_nj (by decide), hup_nj (by decide)]; exact f4
        · rw [hup_nj (by decide), hup_eq]
        · rw [hup_nj (by decide), hup_nj (by decide)]; exact f7
        · rw [hup_eq]
        · have u2 := (U.up (i := 9) (v := 2) (by decide)).up (i := 11) (v := 0) (by decide)
          refine q h1 ⟨fun o eo => (a1.1 o eo).trans (u2.1 o eo), fun j ej => (a1.2 j ej).trans (u2.2 j ej)⟩ a2 ?_ ?_
          · rw [a3, hup_nj (by decide), hup_nj (by decide)]; exact f8
          · rw [a4, a5]
            refine rTok_w rfl hc0 (fun i hi h5 => ?_)
            rw [whs_w r.1.1 (fun j x y => r.2.1 j x (by have := r.1; omega)) i hi h5, hwi i hi]
      · -- a number
        obtain ⟨r, hc0, hv⟩ := dd
        have lt := r.2.1 (G 81 k) (by omega) r.1.1
        rw [if_pos (by have := r.1; omega)] at hc
        rw [← hc] at lt
        refine Runs.go 60 [85] ?_
        refine br.t (by omega) ?_
        refine r_isFig ?_
        refine br.f (by rw [b2i_t lt]; decide) ?_
        refine tokN (l := G 84 4) (s := G 81 k) (e := en k) (tp := G 88) (h := hup (hup g 84 9 1) 84 10 0) ?_ ?_ (by omega) s0 r ?_ ?_ ?_ (fun h1 a1 a2 a3 a4 a5 => ?_) _
        · rw [hup_o (by decide), hup_o (by decide)]; exact f88
        · rw [hup_nj (by decide), hup_nj (by decide)]; exact f4
        · rw [hup_nj (by decide), hup_eq]
        · rw [hup_nj (by decide), hup_nj (by decide)]; exact f7
        · rw [hup_eq]
        · have u2 := (U.up (i := 9) (v := 1) (by decide)).up (i := 10) (v := 0) (by decide)
          have nr := nvl_r (tp := G 88) (s := G 81 k) (m := (en k - G 81 k).toNat) (fun j x y => r.2.1 j x (by have := r.1; omega)) _ (Nat.le_refl _)
          refine q h1 ⟨fun o eo => (a1.1 o eo).trans (u2.1 o eo), fun j ej => (a1.2 j ej).trans (u2.2 j ej)⟩ a2 ?_ ?_
          · rw [a3, hup_nj (by decide), hup_nj (by decide)]; exact f8
          · rw [hc0, a4, a5, hv]
            exact rTok_n rfl nr.1 nr.2.2
      · -- a sign
        obtain ⟨⟨s1, s2, s3, s4, s5⟩, sc⟩ := ss
        rw [if_pos s4] at hc
        have br0 := S.2.2.2.1 (G 81 k) s0 s4
        rw [← hc] at s1 s2 s3 sc br0
        have J : ∀ tv : Int, ((isSg c ∧ tv = c) ∨ (¬ isSg c ∧ tv = 3)) → Runs (D + 1) 188 247 [vA 84, vI c] [vI tv, vA 84] g Q := by
          intro tv ht
          have g7 : (hup g 84 9 tv) 84 7 = G 81 k := by rw [hup_nj (by decide)]; exact f7
          have u3 : u84 h (hup (hup g 84 9 tv) 84 7 ((hup g 84 9 tv) 84 7 + 1)) := (U.up (by decide)).up (by decide)
          have w7 : (hup (hup g 84 9 tv) 84 7 ((hup g 84 9 tv) 84 7 + 1)) 84 7 = G 81 k + 1 := by rw [hup_eq, g7]
          have w8 : (hup (hup g 84 9 tv) 84 7 ((hup g 84 9 tv) 84 7 + 1)) 84 8 = G 81 k := by rw [hup_nj (by decide), hup_nj (by decide)]; exact f8
          have w9 : (hup (hup g 84 9 tv) 84 7 ((hup g 84 9 tv) 84 7 + 1)) 84 9 = tv := by rw [hup_nj (by decide), hup_eq]
          have w4 : (hup (hup g 84 9 tv) 84 7 ((hup g 84 9 tv) 84 7 + 1)) 84 4 = G 84 4 := by rw [hup_nj (by decide), hup_nj (by decide)]; exact f4
          have w88 : (hup (hup g 84 9 tv) 84 7 ((hup g 84 9 tv) 84 7 + 1)) 88 = G 88 := by rw [hup_o (by decide), hup_o (by decide)]; exact f88
          have b7 : -2147483648 ≤ (hup g 84 9 tv) 84 7 + 1 ∧ (hup g 84 9 tv) 84 7 + 1 < 2147483648 := by omega
          have P : ∀ R : Prop, (¬ (c = 60 ∨ c = 62) → R) → ((c = 60 ∨ c = 62) → R) → R := fun R a b => by
            by_cases z : c = 60 ∨ c = 62
            · exact b z
            · exact a z
          have M : Runs (D + 1) 188 260 [vA 84, vI c] [] (hup (hup g 84 9 tv) 84 7 ((hup g 84 9 tv) 84 7 + 1)) Q := by
            generalize hup (hup g 84 9 tv) 84 7 ((hup g 84 9 tv) 84 7 + 1) = g2 at *
            have F1 : ¬ (G 81 k + 1 < G 84 4 ∧ G 88 (G 81 k + 1) = 61 ∧ (c = 60 ∨ c = 62)) → Q none g2 := by
              intro nz
              rcases sc with sc | sc
              · exact absurd ⟨sc.1, sc.2.1, by omega⟩ nz
              · refine q g2 u3 (by rw [w7, sc.2.1]) w8 ?_
                rw [w9]
                exact rTok_s (by omega) sc.2.2 ht
            have F2 : (c = 60 ∨ c = 62) → Runs (D + 1) 188 272 [vA 84, vI c] [] g2 Q := by
              intro z
              refine Runs.go 40 [] ?_
              refine r_byte (p := g2 84 7) (by omega) (by omega) ?_
              refine br.i (fun y => ?_) (fun y => ?_)
              · have y' : ¬ (if g2 84 7 < g2 84 4 then g2 88 (g2 84 7) else -1) = 61 := y
                rw [w7, w4, w88] at y'
                refine F1 (fun x => ?_)
                rw [if_pos x.1] at y'
                exact y' x.2.1
              · have y' : (if g2 84 7 < g2 84 4 then g2 88 (g2 84 7) else -1) = 61 := Decidable.not_not.mp y
                rw [w7, w4, w88] at y'
                have yl : G 81 k + 1 < G 84 4 ∧ G 88 (G 81 k + 1) = 61 := by
                  split at y'
                  · exact ⟨by assumption, y'⟩
                  · exact absurd y' (by decide)
                rcases sc with sc | sc
                · have E : ∀ v : Int, (c = 60 ∧ v = 4 ∨ c = 62 ∧ v = 5) → Q none (hup (hup g2 84 9 v) 84 7 ((hup g2 84 9 v) 84 7 + 1)) := by
                    intro v hv
                    refine q _ ((u3.up (by decide)).up (by decide)) ?_ ?_ ?_
                    · rw [hup_eq, hup_nj (by decide), w7, sc.2.2.2]
                      omega
                    · rw [hup_nj (by decide), hup_nj (by decide)]; exact w8
                    · have e9 : (hup (hup g2 84 9 v) 84 7 ((hup g2 84 9 v) 84 7 + 1)) 84 9 = v := by rw [hup_nj (by decide), hup_eq]
                      rw [e9]
                      exact rTok_c (by omega)
                  have b8 : ∀ v : Int, -2147483648 ≤ (hup g2 84 9 v) 84 7 + 1 ∧ (hup g2 84 9 v) 84 7 + 1 < 2147483648 := by
                    intro v
                    rw [hup_nj (by decide)]
                    omega
                  refine br.i (fun x => ⟨b8 5, E 5 (Or.inr ⟨?_, rfl⟩)⟩) (fun x => ⟨b8 4, E 4 (Or.inl ⟨Decidable.not_not.mp x, rfl⟩)⟩)
                  have x' : c ≠ 60 := x
                  omega
                · exact absurd ⟨yl.1, yl.2, z⟩ sc.1
            refine Runs.go 20 [272] ?_
            refine br.i (fun z => F2 (Or.inl z)) (fun z1 => ?_)
            refine br.i (fun z => F1 (fun x => ?_)) (fun z => F2 (Or.inr (Decidable.not_not.mp z)))
            rcases x.2.2 with y | y
            · exact z1 y
            · exact z y
          refine Runs.go 20 [260] ?_
          exact ⟨b7, M⟩
        refine Runs.go 60 [247] ?_
        refine br.t (by omega) ?_
        refine r_isFig ?_
        refine br.t (b2i_f s2) ?_
        refine r_isLet ?_
        refine br.t (b2i_f s1) ?_
        refine r_isSign (fun z => ?_) (fun z => ?_)
        · exact br.f (by decide) (J c (Or.inl ⟨z, rfl⟩))
        · exact br.t rfl (J 3 (Or.inr ⟨z, rfl⟩))
  refine Runs.go 20 [56] ?_
  refine r_byte (p := (hup h 84 8 (h 84 7)) 84 7) (by omega) (by omega) ?_
  refine K _ ?_
  rw [f7, f4, f88]
theorem r_nextT (S : tS G N en) (hk : 0 ≤ k ∧ k < N) {p : Int} (p0 : 0 ≤ p) (b : bks (G 88) (G 84 4) p (G 81 k)) (e88 : h 88 = G 88) (e4 : h 84 4 = G 84 4) (e7 : h 84 7 = p)
    (q : ∀ h1, u84 h h1 → h1 84 7 = en k → h1 84 8 = G 81 k → rTok (G 80 k) (G 82 k) (h1 84 9) (h1 84 10) (h1 84 11) → Q none h1) : Runs (D + 1) 188 0 [vA 84, none] [] h Q := by
  have l1 := S.1
  have s0 : 0 ≤ G 81 k := by have := b.1; omega
  have L : ∀ (f : Nat) (p : Int) (g : Hp), G 81 k - p = f → 0 ≤ p → bks (G 88) (G 84 4) p (G 81 k) → u84 h g → g 84 7 = p → Runs (D + 1) 188 0 [vA 84, none] [] g Q := by
    intro f
    induction f with
    | zero =>
      intro p g hf p0 b u g7
      have ep : p = G 81 k := by omega
      have g4 : g 84 4 = G 84 4 := by rw [u.2 4 (by omega)]; exact e4
      have g88 : g 88 = G 88 := by rw [u.1 88 (by decide)]; exact e88
      have nb : ¬ blk (if g 84 7 < g 84 4 then g 88 (g 84 7) else -1) := by
        rw [g7, g4, g88, ep]
        split
        · exact b.2.2 (by assumption)
        · omega
      refine Runs.go 40 [26, 39] ?_
      refine r_byte (p := g 84 7) (by omega) (by omega) ?_
      refine br.f (fun z => nb (Or.inl z)) ?_
      refine r_byte (p := g 84 7) (by omega) (by omega) ?_
      refine br.t (fun z => nb (Or.inr z)) ?_
      refine r_tokAt S hk s0 g88 g4 (by omega) (fun h1 a1 a2 a3 a4 => q h1 ⟨fun o eo => (a1.1 o eo).trans (u.1 o eo), fun j ej => (a1.2 j ej).trans (u.2 j ej)⟩ a2 a3 a4)
    | succ f ih =>
      intro p g hf p0 b u g7
      have g4 : g 84 4 = G 84 4 := by rw [u.2 4 (by omega)]; exact e4
      have g88 : g 88 = G 88 := by rw [u.1 88 (by decide)]; exact e88
      have b1 := b.1
      have eb : (if g 84 7 < g 84 4 then g 88 (g 84 7) else -1) = G 88 p := by rw [g7, g4, g88, if_pos (by omega)]
      have bb := b.2.1 p (by omega) (by omega)
      have A : Runs (D + 1) 188 26 [vA 84, none] [] g Q := by
        refine Runs.go 20 [0] ?_
        refine ⟨show -2147483648 ≤ g 84 7 + 1 ∧ g 84 7 + 1 < 2147483648 by omega, ?_⟩
        refine ih (p + 1) _ (by omega) (by omega) ⟨by omega, fun j x y => b.2.1 j (by omega) y, b.2.2⟩ (u.up (by decide)) ?_
        rw [hup_eq, g7]
      refine Runs.go 40 [26, 39] ?_
      refine r_byte (p := g 84 7) (by omega) (by omega) ?_
      rw [eb]
      refine br.i (fun z => A) (fun z => ?_)
      refine r_byte (p := g 84 7) (by omega) (by omega) ?_
      rw [eb]
      refine br.f (fun y => ?_) A
      rcases bb with x | x
      · exact z x
      · exact y x
  have b1 := b.1
  exact L (G 81 k - p).toNat p h (by omega) p0 b u84.rf e7
end RN
