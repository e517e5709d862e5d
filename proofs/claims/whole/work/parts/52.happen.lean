/-! CENTURIES -/
def pHap (L : aL) (s : aA) (x : Int) : aA :=
  if x % 7 = 6 then (if s 8 < 9999 then pPass L s else s) else if s 0 = 0 then s else
  if x % 7 = 0 then pAdd s (x % s 0) (x % 3) (1 + x % 30) else if x % 7 = 1 then pAdd s (x % s 0) (x % 3) (1 + x % 30) else
  if x % 7 = 2 then pAdd s (x % s 0) 3 (1 + x % 20) else if x % 7 = 3 then pWash 1 s (x % s 0) (x % 3) (x % 5) else
  if x % 7 = 4 then pPo L s (x % s 0) (x % 3) else if x % 4 = 0 then pBend 1 s (x % s 0) else s
theorem pAdd_o {s : aA} {p kd v j : Int} (hp : 0 ≤ p ∧ p < 6) (hk : 0 ≤ kd ∧ kd < 4) (h : ¬ (12 ≤ j ∧ j < 66)) : pAdd s p kd v j = s j := aset_ne (by omega)
theorem pPo_o {L : aL} {s : aA} {p kd j : Int} (w : Wf s) (hp : 0 ≤ p ∧ p < 6) (hk : 0 ≤ kd ∧ kd < 4) (h : ¬ (12 ≤ j ∧ j < 66)) (h2 : j ≠ 10 ∧ j ≠ 11 ∧ j < 1396) : pPo L s p kd j = s j := by
  unfold pPo
  split
  · exact aset_ne (by omega)
  · rw [pWrite_o (by omega) (by omega) (by unfold pPut pDraw; rw [aset_ne (by omega), aset_ne (by omega), aset_ne (by omega)]; exact w.p11.1)]
    unfold pPut pDraw
    rw [aset_ne (by omega), aset_ne (by omega), aset_ne (by omega)]
theorem pPo_11 {L : aL} {s : aA} {p kd : Int} (w : Wf s) (hp : 0 ≤ p ∧ p < 6) (hk : 0 ≤ kd ∧ kd < 4) : pPo L s p kd 11 ≤ s 11 + 1 := by
  unfold pPo
  split
  · rw [show pDraw s 11 = s 11 from aset_ne (by decide)]; omega
  · unfold pWrite
    rw [aset_eq]
    unfold pPut pDraw
    rw [aset_ne (by omega), aset_ne (by omega), aset_ne (by omega)]
    omega
theorem pWash_o {s : aA} {p kd t j : Int} (hp : 0 ≤ p ∧ p < 6) (hk : 0 ≤ kd ∧ kd < 4) (h : ¬ (12 ≤ j ∧ j < 66)) : pWash 1 s p kd t j = s j := by
  unfold pWash
  split
  · rw [pSt1]
    unfold pWa pPut
    rw [aset_ne (by omega), aset_ne (by omega)]
  · rfl
theorem pBend_o {s : aA} {p j : Int} (hp : 0 ≤ p ∧ p < 6) (h : ¬ (12 ≤ j ∧ j < 66)) : pBend 1 s p j = s j := by
  unfold pBend
  split
  · rw [pSt1]
    exact aset_ne (by omega)
  · rfl
theorem md6 {s : aA} {x : Int} (w : Wf s) (h : s 0 ≠ 0) : 0 ≤ x % s 0 ∧ x % s 0 < 6 ∧ x % s 0 < s 0 := by
  have q := w.p0
  have a1 := Int.emod_nonneg x h
  have a2 := Int.emod_lt_of_pos x (show 0 < s 0 by omega)
  omega
theorem pHap_o {L : aL} {s : aA} {x j : Int} (w : Wf s) (h : ¬ (12 ≤ j ∧ j < 66)) (h2 : j ≠ 8 ∧ j ≠ 10 ∧ j ≠ 11 ∧ j < 1396) : pHap L s x j = s j := by
  unfold pHap
  split
  · split
    · exact pPass_o w h h2.1
    · rfl
  · split
    · rfl
    · rename_i y
      have m := md6 (x := x) w y
      split
      · exact pAdd_o (by omega) (by omega) h
      · split
        · exact pAdd_o (by omega) (by omega) h
        · split
          · exact pAdd_o (by omega) (by omega) h
          · split
            · exact pWash_o (by omega) (by omega) h
            · split
              · exact pPo_o w (by omega) (by omega) h ⟨h2.2.1, h2.2.2⟩
              · split
                · exact pBend_o (by omega) h
                · rfl
theorem pHap_11 {L : aL} {s : aA} {x : Int} (w : Wf s) : pHap L s x 11 ≤ s 11 + 1 := by
  have e : ∀ v : Int, v = s 11 → v ≤ s 11 + 1 := fun v e => by omega
  unfold pHap
  split
  · split
    · exact e _ (pPass_o w (by decide) (by decide))
    · exact e _ rfl
  · split
    · exact e _ rfl
    · rename_i y
      have m := md6 (x := x) w y
      split
      · exact e _ (pAdd_o (by omega) (by omega) (by decide))
      · split
        · exact e _ (pAdd_o (by omega) (by omega) (by decide))
        · split
          · exact e _ (pAdd_o (by omega) (by omega) (by decide))
          · split
            · exact e _ (pWash_o (by omega) (by omega) (by decide))
            · split
              · exact pPo_11 w (by omega) (by omega)
              · split
                · exact e _ (pBend_o (by omega) (by decide))
                · exact e _ rfl
theorem Wp.hap {L : aL} {s : aA} {x m : Int} (w : Wp s m) (hm : 0 ≤ m ∧ m < 40) (hW : s 11 ≤ 29999) : Wp (pHap L s x) (m + 1) := by
  have w0 := w.wf
  have w1 := w.le (m2 := m + 1) (by omega)
  unfold pHap
  split
  · split
    · rename_i y
      exact w1.pass y
    · exact w1
  · split
    · exact w1
    · rename_i y
      have q := md6 (x := x) w0 y
      split
      · exact w1.amt (by omega) (by omega) (cutI_r (by decide))
      · split
        · exact w1.amt (by omega) (by omega) (cutI_r (by decide))
        · split
          · exact w1.amt (by omega) (by omega) (cutI_r (by decide))
          · split
            · unfold pWash
              split
              · rw [pSt1]
                exact (w1.amt (by omega) (k := 3) (by omega) (cutI_r (by decide))).amt (by omega) (by omega) (cutI_r (by decide))
              · exact w1
            · split
              · exact w.pour hm hW (by omega) (by omega)
              · split
                · unfold pBend
                  split
                  · rename_i z
                    rw [pSt1]
                    have dd := w0.dent (p := x % s 0) (by omega)
                    exact w1.dnt (by omega) (by omega)
                  · exact w1
                · exact w1
section CE
variable {d : Nat} {h : Hp} {Q : aPO} {s : aA} {n m : Int} {L : aL}
theorem c_happen {x : Int} (hx : 0 ≤ x ∧ x ≤ 30492) (I : CG h 2 s n) (hn : n ≤ 30000) (tx : cTx h L (s 1)) (hz : h 1 3 = 1) (hm : 0 ≤ m ∧ m < 40) (pk : PK s m) (k : ∀ h1, CG h1 2 (pHap L s x) (n + 1) → PK (pHap L s x) (m + 1) → frC h h1 → Q none h1) : Runs (d + 9) 59 0 [vA 1, vI x, none, none] [] h Q := by
  have w := I.wf hn
  have q0 := w.p0
  have q8 := w.p8
  have e0 : h 2 0 = s 0 := I.num.1.1
  have t7 : x.tmod 7 = x % 7 := Int.tmod_eq_emod_of_nonneg hx.1
  have t3 : x.tmod 3 = x % 3 := Int.tmod_eq_emod_of_nonneg hx.1
  have t30 : x.tmod 30 = x % 30 := Int.tmod_eq_emod_of_nonneg hx.1
  have t20 : x.tmod 20 = x % 20 := Int.tmod_eq_emod_of_nonneg hx.1
  have t5 : x.tmod 5 = x % 5 := Int.tmod_eq_emod_of_nonneg hx.1
  have t4 : x.tmod 4 = x % 4 := Int.tmod_eq_emod_of_nonneg hx.1
  have K : ∀ h1, ∀ t, t = pHap L s x → CG h1 2 t n → PK t m → frC h h1 → Q none h1 := fun h1 t e J P f => by
    rw [e] at J P
    exact k h1 (J.le (by omega)) (P.le (by omega)) f
  refine Runs.go 60 [41] ?_
  refine ⟨by omega, ?_⟩
  refine br.j (fun y => ?_) (fun y => ?_)
  · have y' : x % 7 = 6 := by have z : ¬ x.tmod 7 ≠ 6 := y; omega
    refine c_passDays (z := 1) (m := m) (by decide) I hn tx hz (Or.inr rfl) hm.1 (fun _ => pk) (fun h1 J P f => ?_)
    have E : pDn 1 L s 1 = pHap L s x := by
      have e := pDn_s (z := 1) (L := L) (s := s) (i := 0) (by decide)
      have e2 : pDn 1 L s (0 + 1) = pDn 1 L s 1 := rfl
      have e3 : pDn 1 L s 0 = s := rfl
      rw [e2, e3, pSt1] at e
      rw [e]
      unfold pHap
      rw [if_pos y']
    exact K h1 _ E J (P rfl) f
  have y' : x % 7 ≠ 6 := by have z : x.tmod 7 ≠ 6 := y; omega
  refine br.j (fun z0 => ?_) (fun z0 => ?_)
  · have z1 : s 0 = 0 := by have z : ¬ h 2 0 ≠ 0 := z0; omega
    refine K h s ?_ I pk frC.rf
    unfold pHap
    rw [if_neg y', if_pos z1]
  have z1 : s 0 ≠ 0 := by have z : h 2 0 ≠ 0 := z0; omega
  have md := md6 (x := x) w z1
  have tp : x.tmod (h 2 0) = x % s 0 := by rw [e0]; exact Int.tmod_eq_emod_of_nonneg hx.1
  refine ⟨⟨show h 2 0 ≠ 0 by omega, Or.inl hx.1⟩, ⟨by omega, ?_⟩⟩
  have HH : pHap L s x = (if x % 7 = 0 then pAdd s (x % s 0) (x % 3) (1 + x % 30) else if x % 7 = 1 then pAdd s (x % s 0) (x % 3) (1 + x % 30) else
      if x % 7 = 2 then pAdd s (x % s 0) 3 (1 + x % 20) else if x % 7 = 3 then pWash 1 s (x % s 0) (x % 3) (x % 5) else
      if x % 7 = 4 then pPo L s (x % s 0) (x % 3) else if x % 4 = 0 then pBend 1 s (x % s 0) else s) := by
    unfold pHap
    rw [if_neg y', if_neg z1]
  have G : ∀ p kd : Int, p = x % s 0 → kd = x % 3 → Runs (d + 9) 59 41 [vA 1, vI x, vI p, vI kd] [] h Q := by
    intro p kd ep ek
    have D : ∀ v : Int, v = 1 + x % 30 → (x % 7 = 0 ∨ x % 7 = 1) → ∀ h1, CG h1 2 (pDeed 1 s p kd v) n → PK (pDeed 1 s p kd v) m → frC h h1 → Q none h1 := by
      intro v ev c h1 J P f
      refine K h1 _ ?_ J P f
      rw [HH]
      unfold pDeed
      rw [if_pos ⟨⟨by omega, by omega⟩, ⟨by omega, by omega⟩, by omega, by omega⟩, pSt1, ep, ek, ev]
      rcases c with c | c
      · rw [if_pos c]
      · rw [if_neg (by omega), if_pos c]
    refine Runs.go 60 [] ?_
    refine ⟨by omega, ?_⟩
    refine br.i (fun a0 => ?_) (fun a0 => ?_)
    · have a0' : x.tmod 7 = 0 := a0
      refine ⟨by omega, ⟨by omega, ?_⟩⟩
      exact c_does (z := 1) (m := m) I hn hz (Or.inr rfl) hm.1 (fun _ => pk) (fun h1 J P f => D _ (by rw [t30]) (by omega) h1 J (P rfl) f)
    have b0 : ¬ x % 7 = 0 := by have z : ¬ x.tmod 7 = 0 := a0; omega
    refine br.i (fun a1 => ?_) (fun a1 => ?_)
    · have a1' : x.tmod 7 = 1 := a1
      refine ⟨by omega, ⟨by omega, ?_⟩⟩
      exact c_does (z := 1) (m := m) I hn hz (Or.inr rfl) hm.1 (fun _ => pk) (fun h1 J P f => D _ (by rw [t30]) (by omega) h1 J (P rfl) f)
    have b1 : ¬ x % 7 = 1 := by have z : ¬ x.tmod 7 = 1 := a1; omega
    rw [if_neg b0, if_neg b1] at HH
    refine br.i (fun a2 => ?_) (fun a2 => ?_)
    · have a2' : x % 7 = 2 := by have z : x.tmod 7 = 2 := a2; omega
      refine ⟨by omega, ⟨by omega, ?_⟩⟩
      refine c_weeps (z := 1) (m := m) I hn hz (Or.inr rfl) hm.1 (fun _ => pk) (fun h1 J P f => K h1 _ ?_ J (P rfl) f)
      rw [HH, if_pos a2']
      unfold pWeep
      rw [if_pos ⟨⟨by omega, by omega⟩, by omega, by omega⟩, pSt1, ep, t20]
    have b2 : ¬ x % 7 = 2 := by have z : ¬ x.tmod 7 = 2 := a2; omega
    rw [if_neg b2] at HH
    refine br.i (fun a3 => ?_) (fun a3 => ?_)
    · have a3' : x % 7 = 3 := by have z : x.tmod 7 = 3 := a3; omega
      refine ⟨by omega, ?_⟩
      refine c_washes (z := 1) (m := m) (by omega) I hn hz (Or.inr rfl) hm.1 (fun _ => pk) (fun h1 J P f => K h1 _ ?_ J (P rfl) f)
      rw [HH, if_pos a3', ep, ek, t5]
    have b3 : ¬ x % 7 = 3 := by have z : ¬ x.tmod 7 = 3 := a3; omega
    rw [if_neg b3] at HH
    refine br.i (fun a4 => ?_) (fun a4 => ?_)
    · have a4' : x % 7 = 4 := by have z : x.tmod 7 = 4 := a4; omega
      refine c_pours (z := 1) (m := m) I hn tx hz (Or.inr rfl) hm (fun _ => pk) (fun h1 J P f => ?_)
      have E : pPour 1 L s p kd = pHap L s x := by
        rw [HH, if_pos a4']
        unfold pPour
        rw [if_pos ⟨⟨by omega, by omega⟩, by omega, by omega⟩, pSt1, ep, ek]
      have P' := P rfl
      rw [E] at J P'
      exact k h1 J P' f
    have b4 : ¬ x % 7 = 4 := by have z : ¬ x.tmod 7 = 4 := a4; omega
    rw [if_neg b4] at HH
    refine ⟨by omega, ?_⟩
    refine br.i (fun a5 => ?_) (fun a5 => ?_)
    · have a5' : ¬ x % 4 = 0 := by have z : x.tmod 4 ≠ 0 := a5; omega
      refine K h s ?_ I pk frC.rf
      rw [HH, if_neg a5']
    · have a5' : x % 4 = 0 := by have z : ¬ x.tmod 4 ≠ 0 := a5; omega
      refine c_bends (z := 1) (m := m) I hn hz (Or.inr rfl) hm.1 (fun _ => pk) (fun h1 J P f => K h1 _ ?_ J (P rfl) f)
      rw [HH, if_pos a5', ep]
  exact G _ _ tp t3
theorem r_happens {x : Int} (hx : 0 ≤ x ∧ x ≤ 30492) (w : Wp (h 85) m) (tx : cTx h L (h 85 1)) (k : ∀ h1, h1 85 = pHap L (h 85) x → frR h h1 → Q none h1) : Runs (d + 9) 255 0 [vA 84, vI x, none, none] [] h Q := by
  have w0 := w.wf
  have q0 := w0.p0
  have t7 : x.tmod 7 = x % 7 := Int.tmod_eq_emod_of_nonneg hx.1
  have t3 : x.tmod 3 = x % 3 := Int.tmod_eq_emod_of_nonneg hx.1
  have t30 : x.tmod 30 = x % 30 := Int.tmod_eq_emod_of_nonneg hx.1
  have t20 : x.tmod 20 = x % 20 := Int.tmod_eq_emod_of_nonneg hx.1
  have t5 : x.tmod 5 = x % 5 := Int.tmod_eq_emod_of_nonneg hx.1
  have t4 : x.tmod 4 = x % 4 := Int.tmod_eq_emod_of_nonneg hx.1
  generalize hs : h 85 = s at *
  refine Runs.go 60 [50] ?_
  refine ⟨by omega, ?_⟩
  refine br.j (fun y => ?_) (fun y => ?_)
  · have y' : x % 7 = 6 := by have z : ¬ x.tmod 7 ≠ 6 := y; omega
    unfold pHap at k
    rw [if_pos y'] at k
    refine ⟨by decide, ?_⟩
    refine br.i (fun z => ?_) (fun z => ?_)
    · have z' : 9999 ≤ h 85 8 := z
      rw [hs] at z'
      rw [if_neg (by omega)] at k
      exact k h hs frR.rf
    · have z' : ¬ 9999 ≤ h 85 8 := z
      rw [hs] at z'
      rw [if_pos (by omega)] at k
      exact r_pass (by rw [hs]; exact w0) (by rw [hs]; exact tx) (fun h1 e f => k h1 (by rw [e, hs]) f)
  have y' : x % 7 ≠ 6 := by have z : x.tmod 7 ≠ 6 := y; omega
  refine ⟨by decide, ?_⟩
  refine br.j (fun z0 => ?_) (fun z0 => ?_)
  · have z1 : h 85 0 = 0 := by have z : ¬ h 85 0 ≠ 0 := z0; omega
    rw [hs] at z1
    refine k h ?_ frR.rf
    unfold pHap
    rw [if_neg y', if_pos z1, hs]
  have z1 : h 85 0 ≠ 0 := z0
  have z2 : s 0 ≠ 0 := by rw [← hs]; exact z1
  have md := md6 (x := x) w0 z2
  have tp : x.tmod (h 85 0) = x % s 0 := by rw [hs]; exact Int.tmod_eq_emod_of_nonneg hx.1
  refine ⟨by decide, ⟨⟨z1, Or.inl hx.1⟩, ⟨by omega, ?_⟩⟩⟩
  have HH : pHap L s x = (if x % 7 = 0 then pAdd s (x % s 0) (x % 3) (1 + x % 30) else if x % 7 = 1 then pAdd s (x % s 0) (x % 3) (1 + x % 30) else
      if x % 7 = 2 then pAdd s (x % s 0) 3 (1 + x % 20) else if x % 7 = 3 then pWash 1 s (x % s 0) (x % 3) (x % 5) else
      if x % 7 = 4 then pPo L s (x % s 0) (x % 3) else if x % 4 = 0 then pBend 1 s (x % s 0) else s) := by
    unfold pHap
    rw [if_neg y', if_neg z2]
  have wh : Wf (h 85) := by rw [hs]; exact w0
  have G : ∀ p kd : Int, p = x % s 0 → kd = x % 3 → Runs (d + 9) 255 50 [vA 84, vI x, vI p, vI kd] [] h Q := by
    intro p kd ep ek
    have p6 : 0 ≤ p ∧ p < 6 := by omega
    have k3 : 0 ≤ kd ∧ kd ≤ 2 := by omega
    refine Runs.go 60 [] ?_
    refine ⟨by omega, ?_⟩
    refine br.i (fun a2 => ?_) (fun a2 => ?_)
    · have a2' : x % 7 = 2 := by have z : x.tmod 7 = 2 := a2; omega
      refine ⟨by omega, ⟨by omega, ?_⟩⟩
      refine r_more wh p6 (kd := 3) (by decide) (by omega) ?_
      refine k _ ?_ (frR.rf.up (Or.inl rfl))
      rw [HH, if_neg (by omega), if_neg (by omega), if_pos a2', hup_s, hs, ep, t20]
      rfl
    have b2 : ¬ x % 7 = 2 := by have z : ¬ x.tmod 7 = 2 := a2; omega
    rw [if_neg b2] at HH
    refine br.i (fun a3 => ?_) (fun a3 => ?_)
    · have a3' : x % 7 = 3 := by have z : x.tmod 7 = 3 := a3; omega
      rw [if_neg (by omega), if_neg (by omega), if_pos a3'] at HH
      unfold pWash at HH
      rw [← ep, ← ek, ← t5, pSt1] at HH
      refine ⟨by omega, ?_⟩
      refine r_canWash wh ?_
      rw [hs]
      refine br.i (fun c => ?_) (fun c => ?_)
      · rw [if_neg (b2i_z c)] at HH
        exact k h (by rw [HH, hs]) frR.rf
      · have ok := b2i_nz c
        rw [if_pos ok] at HH
        refine ⟨by omega, ?_⟩
        refine r_washNow wh p6 k3 (by omega) (by rw [hs]; exact (w.amt p6 (k := 3) (by decide) (cutI_r (by decide))).wf) (fun h1 e1 f1 => ?_)
        exact k h1 (by rw [HH, e1, hs]) (fun o x _ => f1 o x)
    have b3 : ¬ x % 7 = 3 := by have z : ¬ x.tmod 7 = 3 := a3; omega
    rw [if_neg b3] at HH
    refine br.i (fun a4 => ?_) (fun a4 => ?_)
    · have a4' : x % 7 = 4 := by have z : x.tmod 7 = 4 := a4; omega
      rw [if_neg (by omega), if_neg (by omega), if_pos a4', ← ep, ← ek] at HH
      refine r_pourNow (m := m) (by rw [hs]; exact w) (by rw [hs]; exact tx) p6 k3 (fun h1 e1 f1 => ?_)
      exact k h1 (by rw [HH, e1, hs]) f1
    have b4 : ¬ x % 7 = 4 := by have z : ¬ x.tmod 7 = 4 := a4; omega
    rw [if_neg b4] at HH
    refine br.i (fun a5 => ?_) (fun a5 => ?_)
    · have a5' : x % 7 = 5 := by have z : x.tmod 7 = 5 := a5; omega
      rw [if_neg (by omega), if_neg (by omega)] at HH
      refine ⟨by omega, ?_⟩
      refine br.i (fun a6 => ?_) (fun a6 => ?_)
      · have a6' : ¬ x % 4 = 0 := by have z : x.tmod 4 ≠ 0 := a6; omega
        rw [if_neg a6'] at HH
        exact k h (by rw [HH, hs]) frR.rf
      · have a6' : x % 4 = 0 := by have z : ¬ x.tmod 4 ≠ 0 := a6; omega
        rw [if_pos a6', ← ep] at HH
        unfold pBend at HH
        rw [pSt1] at HH
        refine r_canBend wh ?_
        rw [hs]
        refine br.i (fun c => ?_) (fun c => ?_)
        · rw [if_neg (b2i_z c)] at HH
          exact k h (by rw [HH, hs]) frR.rf
        · have ok := b2i_nz c
          rw [if_pos ok] at HH
          refine r_get p6 (by omega) ?_
          have dd := wh.dent p6
          refine ⟨by omega, ?_⟩
          refine r_put p6 (by omega) ?_
          refine k _ ?_ (frR.rf.up (Or.inl rfl))
          rw [HH, hup_s, hs]
          rfl
    · have a5' : ¬ x % 7 = 5 := by have z : ¬ x.tmod 7 = 5 := a5; omega
      refine ⟨by omega, ⟨by omega, ?_⟩⟩
      refine r_more wh p6 (by omega) (by omega) ?_
      refine k _ ?_ (frR.rf.up (Or.inl rfl))
      rw [HH, hup_s, hs]
      by_cases z : x % 7 = 0
      · rw [if_pos z, ep, ek, t30]
        rfl
      · rw [if_neg z, if_pos (by omega), ep, ek, t30]
        rfl
  exact G _ _ tp t3
end CE
