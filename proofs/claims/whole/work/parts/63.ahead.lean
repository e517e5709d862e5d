/-! WHAT COMES: a day in the names alone -/
def six0 (L : aL) (m : Int) : Prop := ∀ t F, 0 ≤ t → t < m → L t 0 = some F → six F
theorem cTx.six0 {h : Hp} {L : aL} {m : Int} (tx : cTx h L m) (hm : m ≤ 4) : six0 L m := by
  intro t F t0 tm e
  obtain ⟨u, hu, um, eu⟩ := nat4 (t := t) (m := m) ⟨t0, tm⟩ hm
  subst eu
  exact ((tx u hu um).2.2.2 0 F (by decide) (by decide) e).2.2.1 rfl
theorem r9_n {a : aA} {p k : Int} : r9 (pNm a p k) = pNm a p k := by
  funext i
  unfold r9
  split
  · rfl
  · unfold pNm
    rw [if_neg (by omega), if_neg (by omega), if_neg (by omega), if_neg (by omega), if_neg (by omega), if_neg (by omega), if_neg (by omega), if_neg (by omega), if_neg (by omega)]
/-- the names f of one and a kind, but for coins and tears -/
def nm7 (s : aA) (p k : Int) (f : Int → Int) : Prop := ∀ i, 0 ≤ i → i < 7 → f i = pNm s p k i
theorem say7 {L : aL} {s : aA} {t p k : Int} {f : Int → Int} {m : Int} (h6 : six0 L m) (ht : t < m) (hf : nm7 s p k f) : pSay (pLw L t 0) (if f 2 = 1 then 3 else 1) 99 (r9 f) (pBr s) = pDries L t s p k := by
  unfold pDries
  have e2 : f 2 = s (12 + 9 * p + 6) := hf 2 (by decide) (by decide)
  rw [e2]
  by_cases t0 : 0 ≤ t
  · unfold pLw
    rw [if_pos t0]
    rcases hl : L t 0 with _ | F
    · rfl
    · have S := h6 t F t0 ht hl f (pNm s p k) (pBr s) hf
      rw [r9_n] at S
      unfold pSay
      show cutI 0 99 (F (r9 f) (pBr s)) = cutI 0 99 (F (pNm s p k) (pBr s))
      rw [S]
  · unfold pLw
    rw [if_neg t0]
    rfl
theorem pDries_c {L : aL} {s s1 : aA} {t p k m : Int} (h6 : six0 L m) (ht : t < m) (eb : pBr s1 = pBr s) (hf : nm7 s p k (pNm s1 p k)) : pDries L t s1 p k = pDries L t s p k := by
  have e := say7 (f := pNm s1 p k) h6 ht hf
  rw [r9_n, ← eb] at e
  exact e
theorem nm7_c {s s1 : aA} {p k : Int} (e8 : s1 8 = s 8) (e9 : s1 9 = s 9) (e6 : s1 (12 + 9 * p + 6) = s (12 + 9 * p + 6)) (e0 : s1 (12 + 9 * p + 0) = s (12 + 9 * p + 0)) (ed : s1 (12 + 9 * p + (2 + k)) = s (12 + 9 * p + (2 + k))) : nm7 s p k (pNm s1 p k) := by
  intro i i0 i7
  have : i = 0 ∨ i = 1 ∨ i = 2 ∨ i = 3 ∨ i = 4 ∨ i = 5 ∨ i = 6 := by omega
  rcases this with z | z | z | z | z | z | z <;> subst z
  · exact e8
  · rfl
  · exact e6
  · exact e0
  · show pRoom s1 p = pRoom s p
    unfold pRoom
    rw [e9, e0]
  · rfl
  · exact ed
/-- a cell that isn't dried now -/
theorem pDry_n {L : aL} {s : aA} {q j p w : Int} (hq : 0 ≤ q ∧ q < 6) (hj : 0 ≤ j ∧ j < 4) (hp : 0 ≤ p ∧ p < 6) (hw : 0 ≤ w ∧ w < 9) (h : ¬ (q = p ∧ w = 2 + j)) : pDry L s q j (12 + 9 * p + w) = s (12 + 9 * p + w) := aset_ne (by omega)
theorem pDk_n {L : aL} {s : aA} {q p w : Int} (hq : 0 ≤ q ∧ q < 6) (hp : 0 ≤ p ∧ p < 6) (hw : 0 ≤ w ∧ w < 9) : ∀ i, 0 ≤ i → i ≤ 4 → (q = p → i ≤ w - 2 ∨ w < 2 ∨ 5 < w) → pDk L s q i (12 + 9 * p + w) = s (12 + 9 * p + w) := by
  intro i i0 i4 h
  refine fI_i (st := fun s k => pDry L s q k) (n := i) (fun _ y => y (12 + 9 * p + w) = s (12 + 9 * p + w)) rfl (fun j y j0 j4 z => ?_) i i0 (Int.le_refl i)
  exact (pDry_n hq (by omega) hp hw (by omega)).trans z
theorem pDk_d {L : aL} {s : aA} {p k m : Int} (h6 : six0 L m) (ht : s 2 < m) (hp : 0 ≤ p ∧ p < 6) (hk : 0 ≤ k ∧ k < 4) : pDk L s p 4 (12 + 9 * p + (2 + k)) = cutI 0 999 (s (12 + 9 * p + (2 + k)) - pDries L (s 2) s p k) := by
  have A : pDk L s p (k + 1) (12 + 9 * p + (2 + k)) = cutI 0 999 (s (12 + 9 * p + (2 + k)) - pDries L (s 2) s p k) := by
    rw [pDk_s hk.1]
    have o := pDk_o (L := L) (s := s) hp k hk.1 (by omega)
    have n := fun w (hw : 0 ≤ w ∧ w < 9) (hx : k ≤ w - 2 ∨ w < 2 ∨ 5 < w) => pDk_n (L := L) (s := s) (q := p) (p := p) (w := w) hp hp hw k hk.1 (by omega) (fun _ => hx)
    have c := n (2 + k) (by omega) (by omega)
    have D : pDries L (pDk L s p k 2) (pDk L s p k) p k = pDries L (s 2) s p k := by
      rw [o 2 (by decide)]
      refine pDries_c h6 ht ?_ (nm7_c (o 8 (by decide)) (o 9 (by decide)) (n 6 (by decide) (by omega)) (n 0 (by decide) (by omega)) c)
      funext i
      unfold pBr r3
      split
      · exact o _ (by omega)
      · rfl
    unfold pDry pPut
    rw [aset_eq, c, D]
  have B : ∀ i, k + 1 ≤ i → i ≤ 4 → pDk L s p i (12 + 9 * p + (2 + k)) = pDk L s p (k + 1) (12 + 9 * p + (2 + k)) := by
    have q : ∀ (j : Nat), k + 1 + j ≤ 4 → pDk L s p (k + 1 + j) (12 + 9 * p + (2 + k)) = pDk L s p (k + 1) (12 + 9 * p + (2 + k)) := by
      intro j
      induction j with
      | zero => intro _; rw [show k + 1 + ((0 : Nat) : Int) = k + 1 by omega]
      | succ j ih =>
        intro h
        rw [show k + 1 + ((j + 1 : Nat) : Int) = k + 1 + j + 1 by omega, pDk_s (by omega), pDry_n hp (by omega) hp (by omega) (by omega)]
        exact ih (by omega)
    intro i i1 i4
    have := q (i - (k + 1)).toNat (by omega)
    rw [show k + 1 + ((i - (k + 1)).toNat : Int) = i by omega] at this
    exact this
  rw [B 4 (by omega) (by decide), A]
theorem pDp_n {L : aL} {s : aA} {p w : Int} (hp : 0 ≤ p ∧ p < 6) (hw : 0 ≤ w ∧ w < 9) : ∀ i, 0 ≤ i → i ≤ 6 → (i ≤ p ∨ w < 2 ∨ 5 < w) → pDp L s i (12 + 9 * p + w) = s (12 + 9 * p + w) := by
  intro i i0 i6 h
  refine fI_i (st := fun s p => pDk L s p 4) (n := i) (fun _ y => y (12 + 9 * p + w) = s (12 + 9 * p + w)) rfl (fun j y j0 j4 z => ?_) i i0 (Int.le_refl i)
  exact (pDk_n (q := j) ⟨j0, by omega⟩ hp hw 4 (by decide) (by decide) (by omega)).trans z
theorem pPass_d {L : aL} {s : aA} {p k m : Int} (w : Wf s) (h6 : six0 L m) (ht : s 2 < m) (hp : 0 ≤ p ∧ p < s 0) (hk : 0 ≤ k ∧ k < 4) : pPass L s (12 + 9 * p + (2 + k)) = cutI 0 999 (s (12 + 9 * p + (2 + k)) - pDries L (s 2) s p k) := by
  have q0 := w.p0
  have p6 : 0 ≤ p ∧ p < 6 := by omega
  unfold pPass
  rw [aset_ne (by omega)]
  have o := pDp_o (L := L) (s := s) p hp.1 (by omega)
  have n := fun w (hw : 0 ≤ w ∧ w < 9) => pDp_n (L := L) (s := s) (p := p) (w := w) p6 hw p hp.1 (by omega) (Or.inl (Int.le_refl p))
  have A : pDp L s (p + 1) (12 + 9 * p + (2 + k)) = cutI 0 999 (s (12 + 9 * p + (2 + k)) - pDries L (s 2) s p k) := by
    rw [pDp_s hp.1, pDk_d h6 (by rw [o 2 (by decide)]; exact ht) p6 hk, n (2 + k) (by omega), o 2 (by decide)]
    rw [pDries_c (s := s) h6 ht ?_ (nm7_c (o 8 (by decide)) (o 9 (by decide)) (n 6 (by decide)) (n 0 (by decide)) (n (2 + k) (by omega)))]
    funext i
    unfold pBr r3
    split
    · exact o _ (by omega)
    · rfl
  have B : ∀ i, p + 1 ≤ i → i ≤ s 0 → pDp L s i (12 + 9 * p + (2 + k)) = pDp L s (p + 1) (12 + 9 * p + (2 + k)) := by
    have q : ∀ (j : Nat), p + 1 + j ≤ s 0 → pDp L s (p + 1 + j) (12 + 9 * p + (2 + k)) = pDp L s (p + 1) (12 + 9 * p + (2 + k)) := by
      intro j
      induction j with
      | zero => intro _; rw [show p + 1 + ((0 : Nat) : Int) = p + 1 by omega]
      | succ j ih =>
        intro h
        rw [show p + 1 + ((j + 1 : Nat) : Int) = p + 1 + j + 1 by omega, pDp_s (by omega), pDk_n (by omega) p6 (by omega) 4 (by decide) (by decide) (by omega)]
        exact ih (by omega)
    intro i i1 i4
    have := q (i - (p + 1)).toNat (by omega)
    rw [show p + 1 + ((i - (p + 1)).toNat : Int) = i by omega] at this
    exact this
  rw [B (s 0) (by omega) (Int.le_refl _), A]
/-- what a day leaves -/
theorem pPass_n {L : aL} {s : aA} {p w : Int} (wf : Wf s) (hp : 0 ≤ p ∧ p < 6) (hw : 0 ≤ w ∧ w < 9) (h : w < 2 ∨ 5 < w) : pPass L s (12 + 9 * p + w) = s (12 + 9 * p + w) := by
  unfold pPass
  rw [aset_ne (by omega), pDp_n hp hw _ wf.p0.1 wf.p0.2 (Or.inr h)]
section DD
variable {d : Nat} {h : Hp} {Q : aPO} {a s : aA} {n p kd : Int} {L : aL}
/-- the class's names stand for one and a kind of s; s is like a but for days and drops -/
def NR (a s : aA) (p kd : Int) (f : Int → Int) : Prop := nm7 s p kd f ∧ nOk f ∧ (∀ j, ¬ (j = 8 ∨ (12 ≤ j ∧ j < 66)) → s j = a j) ∧ Wf s ∧ pRoom s p = pRoom a p
theorem NR.pass {f : Int → Int} (N : NR a s p kd f) (h8 : s 8 < 9999) (h6 : six0 L (a 1)) (hp : 0 ≤ p ∧ p < a 0) (hk : 0 ≤ kd ∧ kd < 4) : NR a (pPass L s) p kd (aset (aset f 6 (max 0 (f 6 - pDries L (s 2) s p kd))) 0 (f 0 + 1)) := by
  obtain ⟨n7, nk, so, wf, rm⟩ := N
  have q0 := wf.p0
  have e0 : s 0 = a 0 := so 0 (by decide)
  have e1 : s 1 = a 1 := so 1 (by decide)
  have q2 := wf.p2
  have p6 : 0 ≤ p ∧ p < 6 := by omega
  have f0 : f 0 = s 8 := n7 0 (by decide) (by decide)
  have f6 : f 6 = s (12 + 9 * p + (2 + kd)) := n7 6 (by decide) (by decide)
  have dr := wf.drop p6 hk
  have q8 := wf.p8
  have dd : 0 ≤ pDries L (s 2) s p kd ∧ pDries L (s 2) s p kd ≤ 99 := cutI_r (by decide)
  have pd := pPass_d (L := L) wf (by rw [← e1] at h6; exact h6) q2.2 (p := p) (by omega) hk
  refine ⟨fun i i0 i7 => ?_, fun i i0 i9 => ?_, fun j hj => ?_, wf.pass h8, ?_⟩
  · have z := fun i (x : 0 ≤ i) (y : i < 7) => n7 i x y
    have : i = 0 ∨ i = 1 ∨ i = 2 ∨ i = 3 ∨ i = 4 ∨ i = 5 ∨ i = 6 := by omega
    rcases this with c | c | c | c | c | c | c <;> subst c
    · rw [aset_eq, f0]; exact (pPass_8 (L := L) (s := s)).symm
    · rw [aset_ne (by decide), aset_ne (by decide)]; exact z 1 (by decide) (by decide)
    · rw [aset_ne (by decide), aset_ne (by decide), z 2 (by decide) (by decide)]; exact (pPass_n wf p6 (w := 6) (by decide) (by decide)).symm
    · rw [aset_ne (by decide), aset_ne (by decide), z 3 (by decide) (by decide)]; exact (pPass_n wf p6 (w := 0) (by decide) (by decide)).symm
    · rw [aset_ne (by decide), aset_ne (by decide), z 4 (by decide) (by decide)]
      show pRoom s p = pRoom (pPass L s) p
      unfold pRoom
      rw [pPass_o wf (by decide) (by decide), pPass_n wf p6 (w := 0) (by decide) (by decide)]
    · rw [aset_ne (by decide), aset_ne (by decide)]; exact z 5 (by decide) (by decide)
    · rw [aset_ne (by decide), aset_eq]
      show _ = pPass L s (12 + 9 * p + (2 + kd))
      rw [pd, f6, cutI_m]
      omega
  · unfold aset
    have := nk i i0 i9
    split
    · omega
    · split <;> omega
  · rw [pPass_o wf (by omega) (by omega)]; exact so j hj
  · rw [← rm]
    unfold pRoom
    rw [pPass_o wf (by decide) (by decide), pPass_n wf p6 (w := 0) (by decide) (by decide)]
theorem c_dryOne (I : CG h 2 a n) (hn : n ≤ 30000) (tx : cTx h L (a 1)) (hp : 0 ≤ p ∧ p < a 0) (hk : 0 ≤ kd ∧ kd < 4) (N : NR a s p kd (h 49)) (k0 : ¬ s 8 < 9999 → Q (vI 0) h) (k : s 8 < 9999 → ∀ h1, NR a (pPass L s) p kd (h1 49) → (∀ o, o ≠ 49 → o ≠ 50 → h1 o = h o) → Q (vI 1) h1) : Runs (d + 5) 2 0 [vA 1, none, none] [] h Q := by
  have w := I.wf hn
  have q1 := w.p1
  have q2 := w.p2
  obtain ⟨n7, nk, so, wf, rm⟩ := id N
  have f0 : h 49 0 = s 8 := n7 0 (by decide) (by decide)
  have s2 : s 2 = a 2 := so 2 (by decide)
  refine Runs.go 60 [] ?_
  refine ⟨by decide, ?_⟩
  refine br.j (fun y => ⟨by omega, k0 ?_⟩) (fun y => ?_)
  · have y' : ¬ h 49 0 < 9999 := y
    omega
  have y' : h 49 0 < 9999 := y
  refine c_ruling I hn ?_
  refine c_dries (t := a 2) tx q2 q1.2 nk (bOk_h I) (fun h1 e1 => ?_)
  have eb : r3 (h 7) = pBr s := by
    rw [r3_h I]
    funext i
    unfold pBr r3
    split
    · exact (so _ (by omega)).symm
    · rfl
  rw [eb, say7 (s := s) (tx.six0 q1.2) q2.2 n7, ← s2]
  have e49 : h1 49 = h 49 := e1 49 (by decide)
  have dd : 0 ≤ pDries L (s 2) s p kd ∧ pDries L (s 2) s p kd ≤ 99 := cutI_r (by decide)
  have b6 := nk 6 (by decide) (by decide)
  have c6 : h1 49 6 = h 49 6 := by rw [e49]
  have c0 : h1 49 0 = h 49 0 := by rw [e49]
  refine ⟨by decide, ⟨show -2147483648 ≤ h1 49 6 - pDries L (s 2) s p kd ∧ h1 49 6 - pDries L (s 2) s p kd < 2147483648 by omega, ⟨by decide, ⟨by decide, ?_⟩⟩⟩⟩
  have z0 : hup h1 49 6 (max 0 (h1 49 6 - pDries L (s 2) s p kd)) 49 0 = h 49 0 := by rw [hup_nj (by decide)]; exact c0
  have b0 := nk 0 (by decide) (by decide)
  refine ⟨show -2147483648 ≤ hup h1 49 6 (max 0 (h1 49 6 - pDries L (s 2) s p kd)) 49 0 + 1 ∧ hup h1 49 6 (max 0 (h1 49 6 - pDries L (s 2) s p kd)) 49 0 + 1 < 2147483648 by omega, ⟨by decide, ⟨by omega, ?_⟩⟩⟩
  refine k (by omega) _ ?_ (fun o x y => by rw [hup_o x, hup_o x]; exact e1 o y)
  rw [hup_s, z0, hup_s, e49]
  exact N.pass (by omega) (tx.six0 q1.2) hp hk
end DD
