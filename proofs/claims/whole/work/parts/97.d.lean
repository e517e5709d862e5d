/-! TEXTS: the class's whole reading -/
section CRD
variable {T : Nat} {h : Hp} {D : Nat} {Q : aPO}
theorem c_clear (hT : tT T) (q : ∀ h1 : Hp, (∀ o, o ≠ T → o ≠ T + 4 → o ≠ T + 5 → h1 o = h o) → h1 T 5 = 0 → h1 T 6 = 0 → (∀ s, 0 ≤ s → s < 3 → h1 (T + 4) s = -1) → Q none h1) : Runs D 102 0 [vA T, none] [] h Q := by
  have K : ∀ h1 : Hp, h1 = hup (hup (hup (hup (hup (hup (hup (hup h T 5 0) T 6 0) (T + 4) 0 (-1)) (T + 5) 0 (-1)) (T + 4) (0 + 1) (-1)) (T + 5) (0 + 1) (-1)) (T + 4) (0 + 1 + 1) (-1)) (T + 5) (0 + 1 + 1) (-1) → Q none h1 := by
    intro h1 e
    subst e
    refine q _ (fun o a b c => ?_) ?_ ?_ (fun s s0 s3 => ?_)
    · rw [hup_o c, hup_o b, hup_o c, hup_o b, hup_o c, hup_o b, hup_o a, hup_o a]
    · rw [hup_o (by omega), hup_o (by omega), hup_o (by omega), hup_o (by omega), hup_o (by omega), hup_o (by omega), hup_nj (by decide), hup_eq]
    · rw [hup_o (by omega), hup_o (by omega), hup_o (by omega), hup_o (by omega), hup_o (by omega), hup_o (by omega), hup_eq]
    · have c : s = 0 ∨ s = 0 + 1 ∨ s = 0 + 1 + 1 := by omega
      rcases c with c | c | c <;> subst c
      · rw [hup_o (by omega), hup_nj (by decide), hup_o (by omega), hup_nj (by decide), hup_o (by omega), hup_eq]
      · rw [hup_o (by omega), hup_nj (by decide), hup_o (by omega), hup_eq]
      · rw [hup_o (by omega), hup_eq]
  clear q
  rcases hT with e | e | e | e <;> subst e
  all_goals (
    refine Runs.go 100 [] ?_
    refine br.f (by decide) ⟨by decide, ⟨by decide, ⟨by decide, ?_⟩⟩⟩
    refine br.f (by decide) ⟨by decide, ⟨by decide, ⟨by decide, ?_⟩⟩⟩
    refine br.f (by decide) ⟨by decide, ⟨by decide, ⟨by decide, ?_⟩⟩⟩
    exact br.t (by decide) (K _ rfl))
theorem tS.cd0 {G : Hp} {N : Int} {en : Int → Int} (t : tS G N en) : ∀ k, 0 ≤ k → k < N → 0 ≤ G 80 k := by
  intro k k0 k1
  by_cases e : k = N - 1
  · rw [e, t.2.1.1]
    decide
  · rcases (t.2.2.1 k k0 (by omega)).1 with q | q | q
    · exact q.2.1.1
    · rw [q.2.1]
      decide
    · rcases q.2 with z | z
      · omega
      · rw [z.2.2]
        unfold sgc
        repeat' split
        all_goals omega
theorem c_read (hT : tT T) (C : tpC h (h 88) (h 84 4))
    (q1 : ∀ G h1 N en kf E', (∀ o, ¬ (79 ≤ o ∧ o ≤ 82) → ¬ (T ≤ o ∧ o ≤ T + 5) → G o = h o) → tS G N en → Tr (G 80) (G 82) 0 [] 0 kf E' → 0 ≤ kf ∧ kf < N → tC T G N h1 kf E' → G 80 kf = 48 → Q none h1)
    (q2 : ∀ G h1 N en f kf E', (∀ o, ¬ (79 ≤ o ∧ o ≤ 82) → ¬ (T ≤ o ∧ o ≤ T + 5) → G o = h o) → tS G N en → f ≠ 0 → Tr (G 80) (G 82) 0 [] f kf E' → 0 ≤ kf ∧ kf < N → cBd T G f kf h1 → Q none h1) : Runs (D + 93) 69 0 [vA 79, vA 83, vI (h 84 4), vA T, none] [] h Q := by
  have hT' := hT
  have ne := hT.ne
  have nt : (84 : Nat) ≠ T ∧ (84 : Nat) ≠ T + 4 ∧ (84 : Nat) ≠ T + 5 ∧ (88 : Nat) ≠ T ∧ (88 : Nat) ≠ T + 4 ∧ (88 : Nat) ≠ T + 5 ∧ (83 : Nat) ≠ T ∧ (83 : Nat) ≠ T + 4 ∧ (83 : Nat) ≠ T + 5 ∧ (79 : Nat) ≠ T + 4 ∧ (79 : Nat) ≠ T + 5 := by unfold tT at hT; omega
  have t1 := C.1
  -- behind clear
  have M : ∀ g : Hp, g = hup (hup (hup h 79 6 0) 79 7 (-1)) 79 4 0 → Runs (D + 92) 102 0 [vA T, none] [] g (fun r h2 => Runs (D + 93) 69 19 [vA 79, vA 83, vI (h 84 4), vA T, none] (pushR r []) h2 Q) := by
    intro g eg
    refine c_clear hT (fun h1 a1 a2 a3 a4 => ?_)
    have g79 : ∀ j, h1 79 j = g 79 j := fun j => by rw [a1 79 ne.1 nt.2.2.2.2.2.2.2.2.2.1 nt.2.2.2.2.2.2.2.2.2.2]
    have e6 : h1 79 6 = 0 ∧ h1 79 7 = -1 := by
      rw [g79, g79]
      subst eg
      rw [hup_nj (by decide), hup_nj (by decide), hup_eq, hup_nj (by decide), hup_eq]
      exact ⟨rfl, rfl⟩
    have e4 : h1 79 4 = 0 := by
      rw [g79]
      subst eg
      rw [hup_eq]
    have o1 : ∀ o, o ≠ 79 → o ≠ T → o ≠ T + 4 → o ≠ T + 5 → h1 o = h o := fun o x y z w => by
      rw [a1 o y z w]
      subst eg
      rw [hup_o x, hup_o x, hup_o x]
    have p84 : h1 84 = h 84 := o1 84 (by decide) nt.1 nt.2.1 nt.2.2.1
    have p88 : h1 88 = h 88 := o1 88 (by decide) nt.2.2.2.1 nt.2.2.2.2.1 nt.2.2.2.2.2.1
    have p83 : h1 83 = h 83 := o1 83 (by decide) nt.2.2.2.2.2.2.1 nt.2.2.2.2.2.2.2.1 nt.2.2.2.2.2.2.2.2.1
    have C1 : tpC h1 (h1 88) (h1 84 4) := by
      unfold tpC at *
      rw [p84, p88, p83]
      exact C
    have S : ∀ l : Int, l = h1 84 4 → Runs (D + 92) 70 0 [vA 79, vA 83, vI l, none, none, none, none] [] h1 (fun r h2 => Runs (D + 93) 69 30 [vA 79, vA 83, vI (h 84 4), vA T, none] (pushR r []) h2 Q) := by
      intro l el
      rw [el]
      refine c_scan (D := D + 90) C1 (fun G N en b1 b2 b3 b4 => ?_)
      have gG : ∀ o, ¬ (79 ≤ o ∧ o ≤ 82) → ¬ (T ≤ o ∧ o ≤ T + 5) → G o = h o := fun o x y => (b1 o (by omega) (by omega) (by omega) (by omega)).trans (o1 o (by omega) (by omega) (by omega) (by omega))
      have gT : ∀ o, T ≤ o → o ≤ T + 5 → G o = h1 o := fun o x y => b1 o (by unfold tT at hT; omega) (by unfold tT at hT; omega) (by unfold tT at hT; omega) (by unfold tT at hT; omega)
      refine Runs.go 10 [33] ?_
      refine c_clauses (D := D) hT b4.tkn b4.cd0 0 [] (vI (h 84 4)) (fun h2 kf E' tr kk B e48 => q1 G h2 N en kf E' gG b4 tr kk B e48) (fun h2 f kf E' f0 tr kk bd => q2 G h2 N en f kf E' gG b4 f0 tr kk bd) N.toNat 0 [] G 0 (by have := b4.1.1; omega) (by have := b4.1.1; omega) ?_ rfl (fun f kf E' tt => tt)
      refine ⟨fun o _ _ => rfl, ⟨b3, ?_, ?_, ?_⟩, ⟨?_, ?_⟩, trivial, fun s s0 s3 _ => ?_, Int.le_refl _, by decide⟩
      · rw [b2 4 (by decide)]; exact e4
      · rw [b2 6 (by decide)]; exact e6.1
      · rw [b2 7 (by decide)]; exact e6.2
      · rw [gT T (by omega) (by omega)]; exact a2
      · rw [gT T (by omega) (by omega)]; exact a3
      · rw [gT (T + 4) (by omega) (by omega)]; exact a4 s s0 s3
    refine Runs.go 20 [30] ?_
    exact S _ (by rw [p84]; show min (h 84 4) 300 = h 84 4; omega)
  clear q1 q2
  rcases hT with e | e | e | e <;> subst e
  all_goals (
    refine Runs.go 20 [19] ?_
    exact M _ rfl)
end CRD
