/-! STEPS: pour, both sides -/
section PN
variable {a : aA} {p kd v : Int} {L : aL}
theorem pRoom_d (hp : 0 ≤ p) : pRoom (pDraw a) p = pRoom a p := by
  unfold pRoom pDraw
  rw [aset_ne (by omega), aset_ne (by omega)]
theorem pExc_d (hp : 0 ≤ p) (hk : 0 ≤ kd) {r : Int} : pExc (pDraw a) p kd r = pExc a p kd r := by
  unfold pExc pDraw
  rw [aset_ne (by omega), aset_ne (by omega)]
theorem pNm_d (hp : 0 ≤ p) (hk : 0 ≤ kd) : pNm (pDraw a) p kd = pNm a p kd := by
  funext i
  unfold pNm
  rw [pRoom_d hp]
  unfold pDraw
  rw [aset_ne (by omega), aset_ne (by omega), aset_ne (by omega), aset_ne (by omega), aset_ne (by omega), aset_ne (by omega)]
theorem pBr_d : pBr (pDraw a) = pBr a := by
  funext i
  unfold pBr r3
  split
  · exact aset_ne (by omega)
  · rfl
theorem pErrs_d (hp : 0 ≤ p) (hk : 0 ≤ kd) : pErrs L (pDraw a) p kd = pErrs L a p kd := by
  unfold pErrs
  rw [pNm_d hp hk, pBr_d, show pDraw a 2 = a 2 from aset_ne (by decide)]
theorem pFine_r : 0 ≤ pFine L a p kd ∧ pFine L a p kd ≤ 9999 := cutI_r (by decide)
end PN
def pFi (L : aL) (s : aA) (p kd : Int) : Int := cutI 0 (pDraw s (12 + 9 * p + 1)) (pFine L (pDraw s) p kd)
def pPo (L : aL) (s : aA) (p kd : Int) : aA := if b2i (0 < pExc s p kd (pRoom s p)) = b2i (s 10 % 10 < pErrs L s p kd) then pDraw s else pWrite (pPut (pPut (pDraw s) p 1 (pDraw s (12 + 9 * p + 1) - pFi L s p kd)) p (2 + kd) 0) p kd (pFi L s p kd)
def zPo (L : aL) (s : aA) (p kd : Int) : Int := if b2i (0 < pExc s p kd (pRoom s p)) = b2i (s 10 % 10 < pErrs L s p kd) then -1 else pFi L s p kd
theorem pFi_r {L : aL} {s : aA} {p kd : Int} (h : 0 ≤ pDraw s (12 + 9 * p + 1) ∧ pDraw s (12 + 9 * p + 1) ≤ 9999) : 0 ≤ pFi L s p kd ∧ pFi L s p kd ≤ pDraw s (12 + 9 * p + 1) := cutI_r h.1
theorem pFi_m {L : aL} {s : aA} {p kd : Int} (h : 0 ≤ pDraw s (12 + 9 * p + 1)) : pFi L s p kd = min (pDraw s (12 + 9 * p + 1)) (pFine L (pDraw s) p kd) := by
  have q := pFine_r (L := L) (a := pDraw s) (p := p) (kd := kd)
  unfold pFi cutI
  rw [if_neg (by omega)]
  split <;> omega
section PO
variable {d : Nat} {h : Hp} {Q : aPO} {a : aA} {n m z : Int} {L : aL}
theorem CG.tight (I : CG h 2 a n) : CG h 2 a (a 11) := by
  obtain ⟨a1, a2, a3, a4, a5, a6, a7, a8, ⟨⟨b1, b2, b3⟩, b4⟩, a10⟩ := I
  exact ⟨a1, a2, a3, a4, a5, a6, a7, a8, ⟨⟨b1, b2, by omega⟩, b4⟩, a10⟩
theorem CG.writeE {p kd f : Int} (I : CG h 2 a n) (pk : PK a m) (hm : 0 ≤ m ∧ m < 40) (hp : 0 ≤ p ∧ p ≤ 5) (hk : 0 ≤ kd ∧ kd ≤ 2) (hf : 0 ≤ f ∧ f ≤ 9999) : ∃ h1, CG h1 2 (pWrite a p kd f) (n + 1) ∧ PK (pWrite a p kd f) (m + 1) := by
  refine ⟨fun o j => if o = 2 then (if j = 6 then min (a 11 + 1) 30 else h 2 j) else if o = 10 then (if j = min (a 11 + 1) 30 - 1 then ((a 8 * 6 + p) * 3 + kd) * 10000 + f else h 10 (if a 11 < 30 then j else j + 1)) else h o j, I.write pk hm hp hk hf (fun o x y => ?_) (fun j x => ?_) ?_ (fun i i0 i1 => ?_) ?_⟩
  · funext j
    rw [if_neg x, if_neg y]
  · rw [if_pos rfl, if_neg x]
  · rw [if_pos rfl, if_pos rfl]
  · rw [if_neg (by decide), if_pos rfl, if_neg (by omega)]
  · rw [if_neg (by decide), if_pos rfl, if_pos rfl]
theorem Wp.draw (w : Wp a m) : Wp (pDraw a) m := by
  have q := w.wf.p10
  obtain ⟨g, n, I, hn, pk⟩ := w
  have J := I.setX (m := m) (v := (a 10 * 389 + 269) % 30493) (by omega)
  exact ⟨_, n, J.1, hn, J.2 pk⟩
theorem Wp.le {m2 : Int} (hm : m ≤ m2) (w : Wp a m) : Wp a m2 := by
  obtain ⟨g, n, I, hn, pk⟩ := w
  exact ⟨g, n, I, hn, pk.le hm⟩
theorem Wp.pour {p kd : Int} (w : Wp a m) (hm : 0 ≤ m ∧ m < 40) (hW : a 11 ≤ 29999) (hp : 0 ≤ p ∧ p < 6) (hk : 0 ≤ kd ∧ kd ≤ 2) : Wp (pPo L a p kd) (m + 1) := by
  have w1 := w.draw
  unfold pPo
  split
  · exact w1.le (by omega)
  · have c := w1.wf.coin hp
    have f := pFi_r (L := L) (s := a) (p := p) (kd := kd) c
    have w2 := (w1.coi hp (v := pDraw a (12 + 9 * p + 1) - pFi L a p kd) (by omega)).amt hp (k := kd) (v := 0) (by omega) (by omega)
    obtain ⟨g, n, I, hn, pk⟩ := w2
    have e11 : pPut (pPut (pDraw a) p 1 (pDraw a (12 + 9 * p + 1) - pFi L a p kd)) p (2 + kd) 0 11 = a 11 := by
      unfold pPut pDraw
      rw [aset_ne (by omega), aset_ne (by omega), aset_ne (by omega)]
    obtain ⟨h1, J, P⟩ := I.tight.writeE pk hm (p := p) (kd := kd) (f := pFi L a p kd) (by omega) hk (by omega)
    exact ⟨h1, _, J, by omega, P⟩
def pPour (z : Int) (L : aL) (a : aA) (p kd : Int) : aA := if (0 ≤ p ∧ p < a 0) ∧ 0 ≤ kd ∧ kd ≤ 2 then pPo L (pSt z a) p kd else a
def zPour (z : Int) (L : aL) (a : aA) (p kd : Int) : Int := if (0 ≤ p ∧ p < a 0) ∧ 0 ≤ kd ∧ kd ≤ 2 then zPo L (pSt z a) p kd else -2
theorem c_pours {p kd : Int} (I : CG h 2 a n) (hn : n ≤ 30000) (tx : cTx h L (a 1)) (hz : h 1 3 = z) (h01 : z = 0 ∨ z = 1) (hm : 0 ≤ m ∧ m < 40) (pk : z = 1 → PK a m) (k : ∀ h1, CG h1 2 (pPour z L a p kd) (n + 1) → (z = 1 → PK (pPour z L a p kd) (m + 1)) → frC h h1 → Q (vI (zPour z L a p kd)) h1) : Runs (d + 8) 51 0 [vA 1, vI p, vI kd, none, none, none] [] h Q := by
  have q0 := I.num.1.2
  have w := I.wf hn
  unfold pPour zPour at k
  have F : ¬ ((0 ≤ p ∧ p < a 0) ∧ 0 ≤ kd ∧ kd ≤ 2) → Q (vI (-2)) h := fun y => by
    rw [if_neg y, if_neg y] at k
    exact k h (I.le (by omega)) (fun e => (pk e).le (by omega)) frC.rf
  refine Runs.go 80 [46] ?_
  refine c_has I ?_
  refine br.i (fun x1 => F (fun y => b2i_z x1 y.1)) (fun x1 => ?_)
  refine sp_isForb ?_
  refine br.j (fun x2 => F (fun y => b2i_z (Decidable.not_not.mp x2) y.2)) (fun x2 => ?_)
  have k1 := b2i_nz x1
  have k2 := b2i_nz x2
  have ok : (0 ≤ p ∧ p < a 0) ∧ 0 ≤ kd ∧ kd ≤ 2 := ⟨k1, k2⟩
  rw [if_pos ok, if_pos ok] at k
  have p6 : 0 ≤ p ∧ p < 6 := by omega
  have d4 : 0 ≤ kd ∧ kd < 4 := by omega
  refine c_step I hz h01 (m := m) hm.1 pk (fun h1 I1 P1 f1 => ?_)
  have w1 := I1.wf hn
  have s1 : pSt z a 1 = a 1 := pSt_o w (by decide) (by decide)
  have tx1 : cTx h1 L (pSt z a 1) := by rw [s1]; exact tx.fr (fun o _ _ => f1 o (by omega) (by omega)) (f1 87 (by decide) (by decide))
  refine c_overs I1 p6 hn ?_
  generalize pSt z a = s at *
  have G : ∀ e : Int, e = b2i (0 < pExc s p kd (pRoom s p)) → Runs (d + 8) 51 46 [vA 1, vI p, vI kd, none, none, none] [vI e] h1 Q := by
    intro e ee
    have x10 := w1.p10
    have tm : (s 10).tmod 10 = s 10 % 10 := Int.tmod_eq_emod_of_nonneg (by omega)
    refine Runs.go 60 [71] ?_
    refine c_draw (m := m) I1 hn (fun h2 I2 P2 f2 => ?_)
    have P2' := P2 P1
    have tx2 : cTx h2 L (pDraw s 1) := by rw [show pDraw s 1 = s 1 from aset_ne (by decide)]; exact tx1.fr (fun o _ _ => f2 o (by omega)) (f2 87 (by decide))
    refine ⟨by omega, ?_⟩
    refine (c_now I2 hn tx2 p6 d4).2.1 (fun h3 f3 => ?_)
    rw [pErrs_d p6.1 d4.1]
    have I3 : CG h3 2 (pDraw s) n := I2.fr (fun o _ _ => f3 o (by omega) (by omega))
    have tx3 : cTx h3 L (pDraw s 1) := tx2.fr (fun o _ _ => f3 o (by omega) (by omega)) (f3 87 (by decide) (by decide))
    have FR : frC h h3 := fun o x y => ((f3 o (fun z => y (Or.inl z)) (fun z => y (Or.inr (Or.inl z)))).trans (f2 o (by omega))).trans (f1 o (by omega) (by omega))
    have H : ∀ g : Int, g = b2i (s 10 % 10 < pErrs L s p kd) → Runs (d + 8) 51 71 [vA 1, vI p, vI kd, vI e, none, none] [vI g] h3 Q := by
      intro g eg
      unfold pPo zPo at k
      rw [← ee, ← eg] at k
      refine Runs.go 60 [99] ?_
      refine br.j (fun y => ?_) (fun y => ?_)
      · have y' := Decidable.not_not.mp y
        rw [if_pos y', if_pos y'] at k
        exact k h3 (I3.le (by omega)) (fun _ => P2'.le (by omega)) FR
      · rw [if_neg y, if_neg y] at k
        have w3 := I3.wf hn
        have cn := w3.coin p6
        have f0 := pFi_r (L := L) (s := s) (p := p) (kd := kd) cn
        have fm := pFi_m (L := L) (s := s) (p := p) (kd := kd) cn.1
        have e5 : h3 5 p = pDraw s (12 + 9 * p + 1) := (I3.per p p6.1 p6.2).2.2.1.1
        have b6 : 0 ≤ p ∧ p < (6 : Int) := p6
        refine ⟨b6, ?_⟩
        refine (c_now I3 hn tx3 p6 d4).2.2 (fun h4 f4 _ => ?_) (by omega)
        have I4 : CG h4 2 (pDraw s) n := I3.fr (fun o _ _ => f4 o (by omega) (by omega))
        have e5' : h4 5 p = pDraw s (12 + 9 * p + 1) := (I4.per p p6.1 p6.2).2.2.1.1
        have em : min (h3 5 p) (pFine L (pDraw s) p kd) = pFi L s p kd := by rw [fm, e5]
        have H9 : ∀ c : Int, c = pFi L s p kd → Runs (d + 8) 51 99 [vA 1, vI p, vI kd, vI e, vI g, none] [vI c] h4 Q := by
          intro c ec
          subst ec
          refine Runs.go 60 [] ?_
          refine ⟨b6, ⟨show -2147483648 ≤ h4 5 p - pFi L s p kd ∧ h4 5 p - pFi L s p kd < 2147483648 by omega, ⟨b6, ?_⟩⟩⟩
          have J5 := I4.coi (v := h4 5 p - pFi L s p kd) P2' p6 (by omega)
          rw [e5'] at J5
          have E5 : hup h4 5 p (h4 5 p - pFi L s p kd) = hup h4 5 p (pDraw s (12 + 9 * p + 1) - pFi L s p kd) := by rw [e5']
          refine c_setAmount (h := hup h4 5 p (h4 5 p - pFi L s p kd)) (a := pPut (pDraw s) p 1 (pDraw s (12 + 9 * p + 1) - pFi L s p kd)) (by rw [E5]; exact J5.1) J5.2 p6 d4 (fun h6 I6 P6 f6 => ?_)
          rw [cut_in (by decide)] at I6 P6
          refine c_write I6 P6 hm (by omega) k2 (by omega) (fun h7 I7 P7 f7 => ?_)
          refine k h7 I7 (fun _ => P7) (FR.tr (fun o x y => ?_))
          rw [f7 o (by omega) (by omega), f6 o (by omega), hup_o (by omega)]
          exact f4 o (fun z => y (Or.inl z)) (fun z => y (Or.inr (Or.inl z)))
        exact H9 _ em
    refine br.i (fun y => H 0 ?_) (fun y => H 1 ?_)
    · have y' : pErrs L s p kd ≤ (s 10).tmod 10 := y
      rw [b2i_f (by omega)]
    · have y' : ¬ pErrs L s p kd ≤ (s 10).tmod 10 := y
      rw [b2i_t (by omega)]
  have B := bS3_has (f := fun k => 0 < pExc s p k (pRoom s p)) (k := kd) (by omega)
  refine br.i (fun y => G 0 ?_) (fun y => G 1 ?_)
  · rw [b2i_f (fun q => y (B.mpr q))]
  · rw [b2i_t (B.mp (Decidable.not_not.mp y))]
theorem r_pourNow {p kd : Int} (w : Wp (h 85) m) (tx : cTx h L (h 85 1)) (hp : 0 ≤ p ∧ p < 6) (hk : 0 ≤ kd ∧ kd ≤ 2) (k : ∀ h1, h1 85 = pPo L (h 85) p kd → frR h h1 → Q (vI (zPo L (h 85) p kd)) h1) : Runs (d + 6) 246 0 [vA 84, vI p, vI kd, none, none, none, none] [] h Q := by
  have w0 := w.wf
  have x10 := w0.p10
  have d4 : 0 ≤ kd ∧ kd < 4 := by omega
  unfold pPo zPo at k
  refine Runs.go 60 [26] ?_
  refine (r_now w0 tx hp d4).2.1 (fun h1 f1 => ?_)
  have e1 : h1 85 = h 85 := f1 85 (by decide)
  have tm : (h1 85 10).tmod 10 = h 85 10 % 10 := by rw [e1]; exact Int.tmod_eq_emod_of_nonneg (by omega)
  have G : ∀ e : Int, e = b2i (h 85 10 % 10 < pErrs L (h 85) p kd) → Runs (d + 6) 246 26 [vA 84, vI p, vI kd, vI (pErrs L (h 85) p kd), none, none, none] [vI e] h1 Q := by
    intro e ee
    have w1 : Wf (h1 85) := by rw [e1]; exact w0
    refine Runs.go 60 [62] ?_
    refine r_anew w1 ?_
    have e2 : hup h1 85 10 ((h1 85 10 * 389 + 269) % 30493) 85 = pDraw (h 85) := by rw [hup_s, e1]; rfl
    have fr2 : frR h (hup h1 85 10 ((h1 85 10 * 389 + 269) % 30493)) := fun o x y => by rw [hup_o x]; exact f1 o (by unfold scr at y; omega)
    generalize hup h1 85 10 ((h1 85 10 * 389 + 269) % 30493) = h2 at *
    have w2 : Wf (h2 85) := by rw [e2]; exact w.draw.wf
    have tx2 : cTx h2 L (h2 85 1) := by rw [e2, show pDraw (h 85) 1 = h 85 1 from aset_ne (by decide)]; exact tx.frR fr2
    refine r_isOver w2 hp (by omega) ?_
    rw [e2, pRoom_d hp.1, pExc_d hp.1 d4.1]
    rw [← ee] at k
    refine br.j (fun y => ?_) (fun y => ?_)
    · have y' := Decidable.not_not.mp y
      rw [if_pos y', if_pos y'] at k
      exact k h2 e2 fr2
    · rw [if_neg y, if_neg y] at k
      refine (r_now w2 tx2 hp d4).2.2 (fun h3 f3 _ => ?_) (by omega)
      rw [e2]
      have e3 : h3 85 = pDraw (h 85) := (f3 85 (by decide)).trans e2
      have cn := w.draw.wf.coin hp
      have f0 := pFi_r (L := L) (s := h 85) (p := p) (kd := kd) cn
      refine r_get hp (by omega) ?_
      have fr3 : frR h h3 := fr2.tr (fun o x y => f3 o (by unfold scr at y; omega))
      rw [e3]
      refine r_cut (by omega) ?_
      have w11 := w0.p11
      have H2 : ∀ g : Hp, g 85 = pPut (pPut (pDraw (h 85)) p 1 (pDraw (h 85) (12 + 9 * p + 1) - pFi L (h 85) p kd)) p (2 + kd) 0 → frR h g → Runs (d + 6) 246 88 [vA 84, vI p, vI kd, vI (pErrs L (h 85) p kd), vI e, vI (pFi L (h 85) p kd), none] [] g Q := by
        intro g eg fg
        generalize hs : pPut (pPut (pDraw (h 85)) p 1 (pDraw (h 85) (12 + 9 * p + 1) - pFi L (h 85) p kd)) p (2 + kd) 0 = s at *
        have g11 : g 85 11 = s 11 := by rw [eg]
        have s11 : s 11 = h 85 11 := by rw [← hs]; unfold pPut pDraw; rw [aset_ne (by omega), aset_ne (by omega), aset_ne (by omega)]
        have s8 : s 8 = h 85 8 := by rw [← hs]; unfold pPut pDraw; rw [aset_ne (by omega), aset_ne (by omega), aset_ne (by omega)]
        have r8 := w0.p8
        have t2 : (g 85 11).tmod 1230 = s 11 % 1230 := by rw [g11]; exact Int.tmod_eq_emod_of_nonneg (by omega)
        have H3 : ∀ x : Int, x = 1396 + 2 * (s 11 % 1230) → Runs (d + 6) 246 107 [vA 84, vI p, vI kd, vI (pErrs L (h 85) p kd), vI e, vI (pFi L (h 85) p kd), vI x] [] g Q := by
          intro x ex
          have g8 : g 85 8 = s 8 := by rw [eg]
          have bx : 1396 ≤ x ∧ x < 3855 := by omega
          refine Runs.go 60 [141] ?_
          refine ⟨by decide, ⟨show -2147483648 ≤ g 85 8 * 32 ∧ g 85 8 * 32 < 2147483648 by omega, ⟨by omega, ⟨show -2147483648 ≤ g 85 8 * 32 + p * 4 ∧ g 85 8 * 32 + p * 4 < 2147483648 by omega, ⟨show -2147483648 ≤ g 85 8 * 32 + p * 4 + kd ∧ g 85 8 * 32 + p * 4 + kd < 2147483648 by omega, ⟨⟨by omega, show x < (3856 : Int) by omega⟩, ?_⟩⟩⟩⟩⟩⟩
          refine ⟨by omega, ⟨⟨by omega, show x + 1 < (3856 : Int) by omega⟩, ?_⟩⟩
          have H4 : ∀ q : Hp, q 85 = aset (aset s x (s 8 * 32 + p * 4 + kd)) (x + 1) (pFi L (h 85) p kd) → frR h q → Runs (d + 6) 246 141 [vA 84, vI p, vI kd, vI (pErrs L (h 85) p kd), vI e, vI (pFi L (h 85) p kd), vI x] [] q Q := by
            intro q eq fq
            have q11 : q 85 11 = s 11 := by rw [eq, aset_ne (by omega), aset_ne (by omega)]
            refine Runs.go 30 [] ?_
            refine ⟨by decide, ⟨show -2147483648 ≤ q 85 11 + 1 ∧ q 85 11 + 1 < 2147483648 by omega, ⟨by decide, ?_⟩⟩⟩
            refine k _ ?_ (fq.up (Or.inl rfl))
            rw [hup_s, q11, eq, ex]
            rfl
          refine H4 _ ?_ ((fg.up (Or.inl rfl)).up (Or.inl rfl))
          rw [hup_s, hup_s, eg]
        refine Runs.go 30 [107] ?_
        refine ⟨by decide, ⟨by omega, ⟨show -2147483648 ≤ 2 * (g 85 11).tmod 1230 ∧ 2 * (g 85 11).tmod 1230 < 2147483648 by omega, ⟨show -2147483648 ≤ 1396 + 2 * (g 85 11).tmod 1230 ∧ 1396 + 2 * (g 85 11).tmod 1230 < 2147483648 by omega, ?_⟩⟩⟩⟩
        exact H3 (1396 + 2 * (g 85 11).tmod 1230) (by rw [t2])
      have H1 : ∀ f : Int, f = pFi L (h 85) p kd → Runs (d + 6) 246 62 [vA 84, vI p, vI kd, vI (pErrs L (h 85) p kd), vI e, none, none] [vI f] h3 Q := by
        intro f ef
        subst ef
        have g1 : h3 85 (12 + 9 * p + 1) = pDraw (h 85) (12 + 9 * p + 1) := by rw [e3]
        refine Runs.go 60 [88] ?_
        refine r_get hp (by omega) ?_
        refine ⟨show -2147483648 ≤ h3 85 (12 + 9 * p + 1) - pFi L (h 85) p kd ∧ h3 85 (12 + 9 * p + 1) - pFi L (h 85) p kd < 2147483648 by omega, ?_⟩
        refine r_put hp (by omega) ?_
        refine ⟨by omega, ?_⟩
        refine r_put hp (by omega) ?_
        refine H2 _ ?_ ((fr3.up (Or.inl rfl)).up (Or.inl rfl))
        rw [hup_s, hup_s, g1, e3]
        rfl
      exact H1 _ rfl
  refine ⟨by decide, ⟨by omega, ?_⟩⟩
  refine br.i (fun y => G 0 ?_) (fun y => G 1 ?_)
  · have y' : pErrs L (h 85) p kd ≤ (h1 85 10).tmod 10 := y
    rw [b2i_f (by omega)]
  · have y' : ¬ pErrs L (h 85) p kd ≤ (h1 85 10).tmod 10 := y
    rw [b2i_t (by omega)]
theorem r_pour {p kd : Int} (ws : Ws (h 85)) (tx : cTx h L (h 85 1)) (k : ∀ h1, h1 85 = pPour 0 L (h 85) p kd → frR h h1 → Q (vI (zPour 0 L (h 85) p kd)) h1) : Runs (d + 8) 247 0 [vA 84, vI p, vI kd] [] h Q := by
  have w := ws.wf
  have q0 := w.p0
  unfold pPour zPour at k
  have F : ¬ ((0 ≤ p ∧ p < h 85 0) ∧ 0 ≤ kd ∧ kd ≤ 2) → Q (vI (-2)) h := fun y => by
    have K := k h
    rw [if_neg y, if_neg y] at K
    exact K rfl frR.rf
  refine Runs.go 60 [] ?_
  refine r_isOne w ?_
  refine br.i (fun x1 => F (fun y => b2i_z x1 y.1)) (fun x1 => ?_)
  refine r_isKind ?_
  refine br.j (fun x2 => F (fun y => b2i_z (Decidable.not_not.mp x2) y.2)) (fun x2 => ?_)
  have k1 := b2i_nz x1
  have k2 := b2i_nz x2
  refine r_keep w (fun h1 e1 f1 => ?_)
  have w1 : Wp (h1 85) 0 := by rw [e1]; exact ws.keep
  have fr1 : frR h h1 := fun o x _ => f1 o x
  have tx1 : cTx h1 L (h1 85 1) := by rw [e1, pKeep_o w (by decide) (by decide)]; exact tx.frR fr1
  refine r_pourNow w1 tx1 (by omega) k2 (fun h2 e2 f2 => ?_)
  have K := k h2
  rw [if_pos ⟨k1, k2⟩, if_pos ⟨k1, k2⟩] at K
  rw [e1] at e2 ⊢
  exact K e2 (fr1.tr f2)
end PO
theorem pSt0_wf {a : aA} (w : Wf a) : 0 ≤ pSt 0 a 11 := by rw [pSt_o w (by decide) (by decide)]; exact w.p11.1
theorem pPo_1 {L : aL} {s : aA} {p kd : Int} (q : 0 ≤ s 11) (hp : 0 ≤ p) (hk : 0 ≤ kd) : pPo L s p kd 1 = s 1 := by
  unfold pPo
  split
  · exact aset_ne (by decide)
  · rw [pWrite_o (by decide) (by decide) (by unfold pPut pDraw; rw [aset_ne (by omega), aset_ne (by omega), aset_ne (by omega)]; exact q)]
    unfold pPut pDraw
    rw [aset_ne (by omega), aset_ne (by omega), aset_ne (by omega)]
theorem o_pour : op_pour Inv := by
  intro x hx
  refine opM2 (fun a L => zPour 0 L a (x 1) (x 2)) (fun a L => pPour 0 L a (x 1) (x 2)) (fun h L n Q I hn z0 t k => ?_) (fun h L Q ws w11 t k => ?_) (fun a L w => ?_)
  · refine Runs.go 30 [] ?_
    exact c_pours I (by omega) t z0 (Or.inl rfl) (m := 0) (by decide) (fun e => by omega) (fun h1 J _ f => k h1 (J.le (by omega)) f)
  · have w := ws.wf
    exact r_pour ws t k
  · show pPour 0 L a (x 1) (x 2) 1 = a 1
    unfold pPour
    split
    · rename_i y
      rw [pPo_1 (s := pSt 0 a) (pSt0_wf w) y.1.1 y.2.1, show pSt 0 a 1 = a 1 from pSt_o w (by decide) (by decide)]
    · rfl
