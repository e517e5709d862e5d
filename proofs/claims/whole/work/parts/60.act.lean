/-! CALLS: played -/
theorem Ws.brim {a : aA} {kd t : Int} (w : Ws a) : Ws (pBrim a kd t) := by
  unfold pBrim
  split
  · rename_i y
    obtain ⟨g, n, I, hn⟩ := w
    refine ⟨hup g 7 kd t, n, I.wBrim (fun o _ _ e => hup_o e) (fun j e => aset_ne (by omega)) (fun j j0 j3 => ?_), hn⟩
    show hup g 7 kd t 7 j = aset a (66 + kd) t (66 + j) ∧ _
    by_cases e : j = kd
    · rw [e, hup_eq, aset_eq]
      exact ⟨rfl, y.2⟩
    · rw [hup_nj e, aset_ne (by omega)]
      exact I.brim j j0 j3
  · exact w
theorem Ws.std {a : aA} {v : Int} (w : Ws a) : Ws (pStd a v) := by
  unfold pStd
  split
  · rename_i y
    obtain ⟨g, n, I, hn⟩ := w
    refine ⟨fun o j => if o = 2 then (if j = 1 then v else g 2 j) else if o = 24 then (if j % 71 = 1 then v else g 24 j) else g o j, n, I.stand y (fun o x z => ?_) (fun j x => ?_) ?_ (fun j x z => ?_), hn⟩
    · funext j
      rw [if_neg x, if_neg z]
    · rw [if_pos rfl, if_neg x]
    · rw [if_pos rfl, if_pos rfl]
    · rw [if_neg (by decide), if_pos rfl]
  · exact w
theorem CG.oneL {h h1 : Hp} {a : aA} {n u v c p : Int} (I : CG h 2 a n) (w : Wf a) (ok : ((0 ≤ u ∧ u ≤ 2) ∧ (0 ≤ v ∧ v ≤ 9) ∧ 0 ≤ c ∧ c ≤ 9999) ∧ a 0 < 6) (ep : p = a 0) (gg : ∀ o, o ≠ 2 → o ≠ 3 → o ≠ 4 → o ≠ 5 → o ≠ 6 → h1 o = h o) (g20 : h1 2 0 = p + 1) (g2 : ∀ j : Int, j ≠ 0 → h1 2 j = h 2 j) (h3 : h1 3 = aset (h 3) p u) (h4 : h1 4 = aset (h 4) p v) (h5 : h1 5 = aset (h 5) p c) (h6 : ∀ j, h1 6 j = if p * 4 ≤ j ∧ j < p * 4 + 4 then 0 else h 6 j) : CG h1 2 (pOne a u v c) n := by
  have q0 := w.p0
  have V := pOne_v w ok
  rw [← ep] at V
  have vo := V.2.1
  have hp3 : ∀ q : Int, 0 ≤ q → q < 6 → q ≠ p → ∀ i, 0 ≤ i → i < 9 → pOne a u v c (12 + 9 * q + i) = a (12 + 9 * q + i) := fun q x y z i i0 i9 => vo _ (by omega) (by omega)
  refine I.wOne (fun o _ _ x y z q t => gg o x y z q t) (fun j x y => vo j x (by omega)) (g2 6 (by decide)) ?_ ?_ ?_ ?_
  · have N := I.num
    have b0 : ∀ j, j ≠ 0 → j < 12 → pOne a u v c j = a j := fun j x y => vo j x (by omega)
    refine ⟨?_, ?_, ?_, ?_, ?_, ?_⟩
    · rw [V.1, g20]; omega
    · rw [g2 1 (by decide), b0 9 (by decide) (by decide)]; exact N.2.1
    · rw [g2 2 (by decide), b0 8 (by decide) (by decide)]; exact N.2.2.1
    · rw [g2 3 (by decide), b0 10 (by decide) (by decide)]; exact N.2.2.2.1
    · rw [g2 4 (by decide), b0 1 (by decide) (by decide)]; exact N.2.2.2.2.1
    · rw [g2 5 (by decide), b0 1 (by decide) (by decide), b0 2 (by decide) (by decide)]; exact N.2.2.2.2.2
  · intro q x y
    by_cases eq : q = p
    · subst eq
      refine ⟨?_, ?_, ?_, fun i j0 j4 => ?_, ?_, ?_⟩
      · show h1 3 q = _ ∧ _
        rw [h3, aset_eq, V.2.2.2.2.2.1]; exact ⟨rfl, ok.1.1⟩
      · show h1 4 q = _ ∧ _
        rw [h4, aset_eq, V.2.2.1]; exact ⟨rfl, ok.1.2.1⟩
      · show h1 5 q = _ ∧ _
        rw [h5, aset_eq, V.2.2.2.1]; exact ⟨rfl, ok.1.2.2⟩
      · show h1 6 (q * 4 + i) = _ ∧ _
        rw [h6, if_pos (by omega), V.2.2.2.2.1 i j0 j4]; decide
      · rw [V.2.2.2.2.2.2.1]; exact ok.1.2.1
      · rw [V.2.2.2.2.2.2.2]; exact ok.1.2.2
    · refine (I.per q x y).cg x y ?_ ?_ ?_ (fun i j0 j4 => ?_) (fun i j0 j9 => hp3 q x y eq i j0 j9)
      · show h1 3 q = h 3 q
        rw [h3, aset_ne eq]
      · show h1 4 q = h 4 q
        rw [h4, aset_ne eq]
      · show h1 5 q = h 5 q
        rw [h5, aset_ne eq]
      · show h1 6 (q * 4 + i) = h 6 _
        rw [h6, if_neg (by omega)]
  · refine I.steps.cg ?_ ?_ (fun j _ _ => ?_) q0.2 (by rw [V.1]; omega) (vo 3 (by decide) (by omega)) (vo 11 (by decide) (by omega)) (fun q x y => ⟨vo _ (by omega) (by omega), vo _ (by omega) (by omega)⟩) (fun j x y => vo j (by omega) (by omega))
    · exact congrFun (gg 23 (by decide) (by decide) (by decide) (by decide) (by decide)) 1
    · exact congrFun (gg 23 (by decide) (by decide) (by decide) (by decide) (by decide)) 2
    · exact congrFun (gg 24 (by decide) (by decide) (by decide) (by decide) (by decide)) j
  · intro q x y z
    have s3 := I.steps.1.2
    rw [vo 3 (by decide) (by omega)] at x y
    rw [vo _ (by omega) (by omega)] at y
    rw [V.1] at z
    have hp := I.steps.hp (a 3 - 1) (by omega) (by omega)
    by_cases eq : q = p
    · subst eq
      refine ⟨?_, ?_, fun i j0 j4 => V.2.2.2.2.1 i j0 j4⟩
      · rw [V.2.2.1, V.2.2.2.2.2.2.1]
      · rw [V.2.2.2.1, V.2.2.2.2.2.2.2]
    · exact (I.now q x y (by omega)).cg (fun i j0 j6 => hp3 q (by omega) (by omega) eq i j0 (by omega)) (hp3 q (by omega) (by omega) eq 7 (by decide) (by decide)) (hp3 q (by omega) (by omega) eq 8 (by decide) (by decide))
def oneH (g : Hp) (p u v c : Int) : Hp := fun o => if o = 6 then (fun j => if p * 4 ≤ j ∧ j < p * 4 + 4 then 0 else g 6 j) else hup (hup (hup (hup g 3 p u) 4 p v) 5 p c) 2 0 (p + 1) o
theorem oneH_o {g : Hp} {p u v c : Int} {o : Nat} (h : o ≠ 6) : oneH g p u v c o = hup (hup (hup (hup g 3 p u) 4 p v) 5 p c) 2 0 (p + 1) o := if_neg h
theorem oneH_6 {g : Hp} {p u v c : Int} : oneH g p u v c 6 = fun j => if p * 4 ≤ j ∧ j < p * 4 + 4 then 0 else g 6 j := if_pos rfl
theorem Ws.one {a : aA} {u v c : Int} (w : Ws a) : Ws (pOne a u v c) := by
  by_cases ok : ((0 ≤ u ∧ u ≤ 2) ∧ (0 ≤ v ∧ v ≤ 9) ∧ 0 ≤ c ∧ c ≤ 9999) ∧ a 0 < 6
  · have wf := w.wf
    obtain ⟨g, n, I, hn⟩ := w
    refine ⟨_, n, I.oneL (h1 := oneH g (a 0) u v c) wf ok rfl (fun o x y z q t => ?_) ?_ (fun j x => ?_) ?_ ?_ ?_ (fun j => ?_), hn⟩
    · rw [oneH_o t, hup_o x, hup_o q, hup_o z, hup_o y]
    · rw [oneH_o (by decide), hup_eq]
    · rw [oneH_o (by decide), hup_nj x, hup_o (by decide), hup_o (by decide), hup_o (by decide)]
    · rw [oneH_o (by decide), hup_o (by decide), hup_o (by decide), hup_o (by decide), hup_s]
    · rw [oneH_o (by decide), hup_o (by decide), hup_o (by decide), hup_s, hup_o (by decide)]
    · rw [oneH_o (by decide), hup_o (by decide), hup_s, hup_o (by decide), hup_o (by decide)]
    · rw [oneH_6]
  · unfold pOne
    rw [if_neg ok]
    exact w
theorem Ws.shr {a : aA} {v : Int} (w : Ws a) : Ws (pShr a v) := by
  unfold pShr
  split
  · rename_i y
    have q9 := w.wf.p9
    obtain ⟨g, n, I, hn⟩ := w.keep.ws
    exact ⟨_, n, I.std (v := a 9 - v) (by omega), hn⟩
  · exact w
/-- a clause: its word and three numbers -/
def pA (L : aL) (s : aA) (w v u t : Int) : aA := if w = 3 then pOne s v u t else if w = 4 then pBrim s u v else if w = 5 then pStd s v else if w = 6 then pDeed 0 s t u v else if w = 7 then pWeep 0 s u v else if w = 8 then pWash 0 s t u v else if w = 9 then pPour 0 L s v u else if w = 10 then pBend 0 s v else if w = 11 then pShr s v else if w = 12 then pDn 0 L s v else s
def kA (L : aL) (s : aA) (w v u t : Int) : Int := if w = 3 then b2i (zOne s v u t ≠ -1) else if w = 4 then b2i ((0 ≤ u ∧ u ≤ 2) ∧ 0 ≤ v ∧ v ≤ 9) else if w = 5 then b2i (1 ≤ v ∧ v ≤ 99) else if w = 6 then b2i (zDeed 0 s t u v ≠ -1) else if w = 7 then b2i (zWeep 0 s u v ≠ -1) else if w = 8 then b2i (zWash s t u v ≠ -1) else if w = 9 then b2i (zPour 0 L s v u ≠ -2) else if w = 10 then b2i (zBend 0 s v ≠ -1) else if w = 11 then b2i (zShr s v ≠ -1) else if w = 12 then b2i (s 8 + v ≤ 9999) else 1
theorem kA_r {L : aL} {s : aA} {w v u t : Int} : kA L s w v u t = 0 ∨ kA L s w v u t = 1 := by
  unfold kA
  repeat' split
  all_goals first | exact b2i_r _ | exact Or.inr rfl
theorem pDn0_11 {a : aA} {L : aL} {i : Int} (ws : Ws a) (hi : 0 ≤ i) : pDn 0 L a i 11 = a 11 := by
  have q : ∀ (k : Nat), pDn 0 L a k 11 = a 11 := by
    intro k
    induction k with
    | zero => rfl
    | succ k ih =>
      have wk := pDn0_ws (L := L) ws (i := (k : Int)) (by omega)
      rw [show ((k + 1 : Nat) : Int) = (k : Int) + 1 by omega, pDn_s (by omega)]
      split
      · have e : pSt 0 (pDn 0 L a k) 11 = pDn 0 L a k 11 := pSt_o wk.wf (by decide) (by decide)
        have w2 : Wf (pSt 0 (pDn 0 L a k)) := wk.keep.wf
        rw [pPass_o w2 (by decide) (by decide), e]
        exact ih
      · exact ih
  have := q i.toNat
  rw [show ((i.toNat : Nat) : Int) = i by omega] at this
  exact this
theorem pA_ws {L : aL} {s : aA} {w v u t : Int} (ws : Ws s) (h11 : s 11 ≤ 29999) (hv : w = 12 → 0 ≤ v) : Ws (pA L s w v u t) ∧ pA L s w v u t 11 ≤ s 11 + 1 ∧ pA L s w v u t 1 = s 1 := by
  have wf := ws.wf
  have q0 := wf.p0
  have wk := ws.keep
  have st : ∀ j, j ≠ 3 → ¬ (166 ≤ j ∧ j < 1396) → pSt 0 s j = s j := fun j x y => pSt_o wf x y
  unfold pA
  split
  · refine ⟨ws.one, ?_, pOne_1 wf⟩
    by_cases ok : ((0 ≤ v ∧ v ≤ 2) ∧ (0 ≤ u ∧ u ≤ 9) ∧ 0 ≤ t ∧ t ≤ 9999) ∧ s 0 < 6
    · rw [(pOne_v wf ok).2.1 11 (by decide) (by omega)]; omega
    · unfold pOne; rw [if_neg ok]; omega
  · split
    · refine ⟨ws.brim, ?_, ?_⟩
      · unfold pBrim; split
        · rw [aset_ne (by omega)]; omega
        · omega
      · unfold pBrim; split
        · exact aset_ne (by omega)
        · rfl
    · split
      · refine ⟨ws.std, ?_, pStd_1⟩
        unfold pStd; split
        · rw [pSv_o (by decide) (by omega)]; omega
        · omega
      · split
        · unfold pDeed; split
          · rename_i y
            refine ⟨(Wp.amt wk (by omega) (by omega) (cutI_r (by decide))).ws, ?_, ?_⟩
            · rw [pAdd_o (by omega) (by omega) (by decide), st 11 (by decide) (by decide)]; omega
            · rw [pAdd_o (by omega) (by omega) (by decide), st 1 (by decide) (by decide)]
          · exact ⟨ws, by omega, rfl⟩
        · split
          · unfold pWeep; split
            · rename_i y
              refine ⟨(Wp.amt wk (by omega) (k := 3) (by omega) (cutI_r (by decide))).ws, ?_, ?_⟩
              · rw [pAdd_o (by omega) (by omega) (by decide), st 11 (by decide) (by decide)]; omega
              · rw [pAdd_o (by omega) (by omega) (by decide), st 1 (by decide) (by decide)]
            · exact ⟨ws, by omega, rfl⟩
          · split
            · unfold pWash; split
              · rename_i y
                refine ⟨((Wp.amt wk (by omega) (k := 3) (by omega) (cutI_r (by decide))).amt (by omega) (by omega) (cutI_r (by decide))).ws, ?_, ?_⟩
                · unfold pWa pPut; rw [aset_ne (by omega), aset_ne (by omega), st 11 (by decide) (by decide)]; omega
                · unfold pWa pPut; rw [aset_ne (by omega), aset_ne (by omega), st 1 (by decide) (by decide)]
              · exact ⟨ws, by omega, rfl⟩
            · split
              · unfold pPour; split
                · rename_i y
                  have w2 : Wf (pSt 0 s) := wk.wf
                  refine ⟨(Wp.pour (a := pSt 0 s) wk (by decide) (by rw [st 11 (by decide) (by decide)]; exact h11) (by omega) (by omega)).ws, ?_, ?_⟩
                  · have z := pPo_11 (L := L) (s := pSt 0 s) (p := v) (kd := u) w2 (by omega) (by omega)
                    rw [st 11 (by decide) (by decide)] at z; exact z
                  · rw [pPo_o w2 (by omega) (by omega) (by decide) (by decide), st 1 (by decide) (by decide)]
                · exact ⟨ws, by omega, rfl⟩
              · split
                · unfold pBend; split
                  · rename_i y
                    have dd := wf.dent (p := v) (by omega)
                    have e := st (12 + 9 * v + 0) (by omega) (by omega)
                    refine ⟨(Wp.dnt (a := pSt 0 s) wk (by omega) (by omega)).ws, ?_, ?_⟩
                    · unfold pPut; rw [aset_ne (by omega), st 11 (by decide) (by decide)]; omega
                    · unfold pPut; rw [aset_ne (by omega), st 1 (by decide) (by decide)]
                  · exact ⟨ws, by omega, rfl⟩
                · split
                  · refine ⟨ws.shr, ?_, ?_⟩
                    · unfold pShr; split
                      · rw [aset_ne (by decide), st 11 (by decide) (by decide)]; omega
                      · omega
                    · unfold pShr; split
                      · rw [aset_ne (by decide), st 1 (by decide) (by decide)]
                      · rfl
                  · split
                    · rename_i y
                      exact ⟨pDn0_ws ws (hv y), by rw [pDn0_11 ws (hv y)]; omega, pDn0_1 ws (hv y)⟩
                    · exact ⟨ws, by omega, rfl⟩
theorem zWash_r {a : aA} {p k t : Int} : zWash a p k t = -1 ∨ 0 ≤ zWash a p k t := by unfold zWash; split <;> omega
theorem zShr_r {a : aA} {v : Int} : zShr a v = -1 ∨ 0 ≤ zShr a v := by unfold zShr; split <;> omega
section AC
variable {d : Nat} {h : Hp} {Q : aPO} {s : aA} {n : Int} {L : aL}
theorem bne {z : Int} {c : Int} {P : aPO} {h : Hp} (k : P (vI (b2i (z ≠ c))) h) : br (z = c) (((0 : Int) = 0 ∨ (0 : Int) = 1) ∧ P (vI 0) h) (((1 : Int) = 0 ∨ (1 : Int) = 1) ∧ P (vI 1) h) :=
  br.i (fun e => ⟨by omega, by rw [b2i_f (fun q => q e)] at k; exact k⟩) (fun e => ⟨by omega, by rw [b2i_t e] at k; exact k⟩)
theorem c_act {w v u t : Int} (I : CG h 2 s n) (hn : n ≤ 30000) (tx : cTx h L (s 1)) (hz : h 1 3 = 0) (hv : w = 12 → 0 ≤ v ∧ v ≤ 9999) (hv2 : w = 8 ∨ w = 11 → v < 2147483648) (k : ∀ h1, CG h1 2 (pA L s w v u t) (n + 1) → frC h h1 → Q (vI (kA L s w v u t)) h1) : Runs (d + 9) 57 0 [vA 1, vI w, vI v, vI u, vI t] [] h Q := by
  unfold pA kA at k
  refine Runs.go 40 [] ?_
  refine br.i (fun e => ?_) (fun e3 => ?_)
  · rw [if_pos e, if_pos e] at k
    refine c_tellOne I hn (fun h1 J f => ?_)
    exact bne (k h1 (J.le (by omega)) f)
  rw [if_neg e3, if_neg e3] at k
  refine br.i (fun e => ?_) (fun e4 => ?_)
  · rw [if_pos e, if_pos e] at k
    exact c_tellBrim I (fun h1 J f => ⟨b2i_r _, k h1 (J.le (by omega)) f⟩)
  rw [if_neg e4, if_neg e4] at k
  refine br.i (fun e => ?_) (fun e5 => ?_)
  · rw [if_pos e, if_pos e] at k
    exact c_tellStd I (fun h1 J f => ⟨b2i_r _, k h1 (J.le (by omega)) f⟩)
  rw [if_neg e5, if_neg e5] at k
  refine br.i (fun e => ?_) (fun e6 => ?_)
  · rw [if_pos e, if_pos e] at k
    refine c_does (z := 0) (m := 0) I hn hz (Or.inl rfl) (by decide) (fun e => by omega) (fun h1 J _ f => ?_)
    exact bne (k h1 (J.le (by omega)) f)
  rw [if_neg e6, if_neg e6] at k
  refine br.i (fun e => ?_) (fun e7 => ?_)
  · rw [if_pos e, if_pos e] at k
    refine c_weeps (z := 0) (m := 0) I hn hz (Or.inl rfl) (by decide) (fun e => by omega) (fun h1 J _ f => ?_)
    exact bne (k h1 (J.le (by omega)) f)
  rw [if_neg e7, if_neg e7] at k
  refine br.i (fun e => ?_) (fun e8 => ?_)
  · rw [if_pos e, if_pos e] at k
    refine c_washes (z := 0) (m := 0) (hv2 (Or.inl e)) I hn hz (Or.inl rfl) (by decide) (fun e => by omega) (fun h1 J _ f => ?_)
    exact bne (k h1 (J.le (by omega)) f)
  rw [if_neg e8, if_neg e8] at k
  refine br.i (fun e => ?_) (fun e9 => ?_)
  · rw [if_pos e, if_pos e] at k
    refine c_pours (z := 0) (m := 0) I hn tx hz (Or.inl rfl) (by decide) (fun e => by omega) (fun h1 J _ f => ?_)
    exact bne (k h1 J f)
  rw [if_neg e9, if_neg e9] at k
  refine br.i (fun e => ?_) (fun e10 => ?_)
  · rw [if_pos e, if_pos e] at k
    refine c_bends (z := 0) (m := 0) I hn hz (Or.inl rfl) (by decide) (fun e => by omega) (fun h1 J _ f => ?_)
    exact bne (k h1 (J.le (by omega)) f)
  rw [if_neg e10, if_neg e10] at k
  refine br.i (fun e => ?_) (fun e11 => ?_)
  · rw [if_pos e, if_pos e] at k
    refine c_shrinks (hv2 (Or.inr e)) I hn hz (fun h1 J f => ?_)
    exact bne (k h1 (J.le (by omega)) f)
  rw [if_neg e11, if_neg e11] at k
  refine br.i (fun e => ?_) (fun e12 => ?_)
  · rw [if_pos e, if_pos e] at k
    exact c_passDays (z := 0) (m := 0) (hv e) I hn tx hz (Or.inl rfl) (by decide) (fun e => by omega) (fun h1 J _ f => ⟨b2i_r _, k h1 (J.le (by omega)) f⟩)
  rw [if_neg e12, if_neg e12] at k
  exact ⟨by omega, k h (I.le (by omega)) frC.rf⟩
theorem bge {z : Int} {P : aPO} {h : Hp} (hz : z = -1 ∨ 0 ≤ z) (k : P (vI (b2i (z ≠ -1))) h) : br (z < 0) (((0 : Int) = 0 ∨ (0 : Int) = 1) ∧ P (vI 0) h) (((1 : Int) = 0 ∨ (1 : Int) = 1) ∧ P (vI 1) h) :=
  br.i (fun e => ⟨by omega, by rw [b2i_f (fun q => by omega)] at k; exact k⟩) (fun e => ⟨by omega, by rw [b2i_t (by omega)] at k; exact k⟩)
theorem r_isPlayed {x w v u t : Int} (hx : 0 ≤ x ∧ x + 3 < 2820) (ew : h 87 x = w) (ev : h 87 (x + 1) = v) (eu : h 87 (x + 2) = u) (et : h 87 (x + 3) = t) (ws : Ws (h 85)) (tx : cTx h L (h 85 1)) (hv : w = 12 → 0 ≤ v ∧ v ≤ 9999) (hv2 : w = 8 ∨ w = 11 → v < 2147483648) (k : ∀ h1, h1 85 = pA L (h 85) w v u t → frR h h1 → Q (vI (kA L (h 85) w v u t)) h1) : Runs (d + 9) 253 0 [vA 84, vI x, none, none, none] [] h Q := by
  have wf := ws.wf
  have q0 := wf.p0
  subst ew ev eu et
  unfold pA kA at k
  refine Runs.go 60 [] ?_
  refine ⟨by omega, ⟨⟨by omega, show x + 1 < (2820 : Int) by omega⟩, ⟨by omega, ⟨⟨by omega, show x + 2 < (2820 : Int) by omega⟩, ⟨by omega, ⟨⟨by omega, show x + 3 < (2820 : Int) by omega⟩, ⟨⟨by omega, show x < (2820 : Int) by omega⟩, ?_⟩⟩⟩⟩⟩⟩⟩
  refine br.i (fun e => ?_) (fun e3 => ?_)
  · rw [if_pos e, if_pos e] at k
    refine r_one wf (fun h1 J f => bge ?_ (k h1 J f))
    unfold zOne; split <;> omega
  rw [if_neg e3, if_neg e3] at k
  refine br.i (fun e => ?_) (fun e4 => ?_)
  · rw [if_pos e, if_pos e] at k
    exact r_brim (fun h1 J f => ⟨b2i_r _, k h1 J f⟩)
  rw [if_neg e4, if_neg e4] at k
  refine br.i (fun e => ?_) (fun e5 => ?_)
  · rw [if_pos e, if_pos e] at k
    exact r_standard wf (fun h1 J f => ⟨b2i_r _, k h1 J f⟩)
  rw [if_neg e5, if_neg e5] at k
  refine br.i (fun e => ?_) (fun e6 => ?_)
  · rw [if_pos e, if_pos e] at k
    refine r_deed ws (fun h1 J f => bge ?_ (k h1 J f))
    unfold zDeed; split
    · rw [pAdd_v]
      have := cutI_r (lo := 0) (hi := 999) (v := pSt 0 (h 85) (12 + 9 * h 87 (x + 3) + (2 + h 87 (x + 2))) + h 87 (x + 1)) (by decide)
      omega
    · omega
  rw [if_neg e6, if_neg e6] at k
  refine br.i (fun e => ?_) (fun e7 => ?_)
  · rw [if_pos e, if_pos e] at k
    refine r_weep ws (fun h1 J f => bge ?_ (k h1 J f))
    unfold zWeep; split
    · rw [pAdd_v]
      have := cutI_r (lo := 0) (hi := 999) (v := pSt 0 (h 85) (12 + 9 * h 87 (x + 2) + (2 + 3)) + h 87 (x + 1)) (by decide)
      omega
    · omega
  rw [if_neg e7, if_neg e7] at k
  refine br.i (fun e => ?_) (fun e8 => ?_)
  · rw [if_pos e, if_pos e] at k
    exact r_wash ws (fun h1 J f => bge zWash_r (k h1 J f))
  rw [if_neg e8, if_neg e8] at k
  refine br.i (fun e => ?_) (fun e9 => ?_)
  · rw [if_pos e, if_pos e] at k
    exact r_pour ws tx (fun h1 J f => bne (k h1 J f))
  rw [if_neg e9, if_neg e9] at k
  refine br.i (fun e => ?_) (fun e10 => ?_)
  · rw [if_pos e, if_pos e] at k
    refine r_bend ws (fun h1 J f => bge ?_ (k h1 J f))
    unfold zBend; split
    · unfold pRoom; omega
    · omega
  rw [if_neg e10, if_neg e10] at k
  refine br.i (fun e => ?_) (fun e11 => ?_)
  · rw [if_pos e, if_pos e] at k
    exact r_shrink (hv2 (Or.inr e)) ws (fun h1 J f => bge zShr_r (k h1 J f))
  rw [if_neg e11, if_neg e11] at k
  refine br.i (fun e => ?_) (fun e12 => ?_)
  · rw [if_pos e, if_pos e] at k
    exact r_arePassed (hv e) ws tx (fun h1 J f => ⟨b2i_r _, k h1 J f⟩)
  rw [if_neg e12, if_neg e12] at k
  exact ⟨by omega, k h rfl frR.rf⟩
end AC
theorem pA_c {L : aL} {s : aA} {w v u t v' u' t' : Int} (h0 : 0 ≤ w ∧ w ≤ 12) (h1 : 1 ≤ parts w → v = v') (h2 : 2 ≤ parts w → u = u') (h3 : 3 ≤ parts w → t = t') : pA L s w v u t = pA L s w v' u' t' ∧ kA L s w v u t = kA L s w v' u' t' := by
  have : w = 0 ∨ w = 1 ∨ w = 2 ∨ w = 3 ∨ w = 4 ∨ w = 5 ∨ w = 6 ∨ w = 7 ∨ w = 8 ∨ w = 9 ∨ w = 10 ∨ w = 11 ∨ w = 12 := by omega
  rcases this with e | e | e | e | e | e | e | e | e | e | e | e | e <;> subst e <;> first
    | exact ⟨rfl, rfl⟩
    | (rw [h1 (by decide), h2 (by decide), h3 (by decide)]; exact ⟨rfl, rfl⟩)
    | (rw [h1 (by decide), h2 (by decide)]; exact ⟨rfl, rfl⟩)
    | (rw [h1 (by decide)]; exact ⟨rfl, rfl⟩)
