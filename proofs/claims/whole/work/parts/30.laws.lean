/-! LAWS: what a text says of a case -/
def cutI (lo hi v : Int) : Int := if v < lo then lo else if hi < v then hi else v
theorem cutI_r {lo hi v : Int} (h : lo ≤ hi) : lo ≤ cutI lo hi v ∧ cutI lo hi v ≤ hi := by
  unfold cutI
  split
  · omega
  · split <;> omega
def pNm (a : aA) (p k : Int) : Int → Int := fun i => if i = 0 then a 8 else if i = 1 then p else if i = 2 then a (12 + 9 * p + 6) else if i = 3 then a (12 + 9 * p + 0) else if i = 4 then pRoom a p else if i = 5 then k else if i = 6 then a (12 + 9 * p + (2 + k)) else if i = 7 then a (12 + 9 * p + 1) else if i = 8 then a (12 + 9 * p + (2 + 3)) else 0
def pBr (a : aA) : Int → Int := r3 (fun i => a (66 + i))
def pLw (L : aL) (t s : Int) : Option aF := if 0 ≤ t then L t s else none
def pSay (l : Option aF) (wo top : Int) (nm br : Int → Int) : Int := cutI 0 top (match l with | some F => F nm br | none => wo)
def pDries (L : aL) (t : Int) (a : aA) (p k : Int) : Int := pSay (pLw L t 0) (if a (12 + 9 * p + 6) = 1 then 3 else 1) 99 (pNm a p k) (pBr a)
def pErrs (L : aL) (a : aA) (p k : Int) : Int := pSay (pLw L (a 2) 1) 1 10 (pNm a p k) (pBr a)
def pFine (L : aL) (a : aA) (p k : Int) : Int := pSay (pLw L (a 2) 2) (pExc a p k (pRoom a p)) 9999 (pNm a p k) (pBr a)
theorem nOk_9 {f g : Int → Int} (e : r9 f = g) (h : nOk g) : nOk f := by
  intro i i0 i9
  have := congrFun e i
  unfold r9 at this
  rw [if_pos ⟨i0, i9⟩] at this
  rw [this]
  exact h i i0 i9
theorem pNm_ok {a : aA} (w : Wf a) {p k : Int} (hp : 0 ≤ p ∧ p < 6) (hk : 0 ≤ k ∧ k < 4) : nOk (pNm a p k) := by
  intro i i0 i9
  have q1 := w.p8
  have q2 := w.stuff hp
  have q3 := w.dent hp
  have q4 := w.room hp
  have q5 := w.drop hp hk
  have q6 := w.coin hp
  have q7 := w.drop hp (k := 3) (by omega)
  unfold pNm
  repeat' split
  all_goals omega
theorem bOk_h {h : Hp} {a : aA} {n : Int} (I : CG h 2 a n) : bOk (h 7) := by
  intro i i0 i3
  have e : h 7 i = a (66 + i) ∧ _ := I.brim i i0 i3
  rw [e.1]
  exact e.2
theorem r3_h {h : Hp} {a : aA} {n : Int} (I : CG h 2 a n) : r3 (h 7) = pBr a := by
  funext i
  unfold pBr r3
  split
  · rename_i z
    exact (I.brim i z.1 z.2).1
  · rfl
theorem bOk_a {a : aA} (w : Wf a) : bOk (fun i => a (66 + i)) := fun i i0 i3 => w.brim ⟨i0, i3⟩
theorem r9_of {f : Int → Int} {a : aA} {p k : Int} (e0 : f 0 = a 8) (e1 : f 1 = p) (e2 : f 2 = a (12 + 9 * p + 6)) (e3 : f 3 = a (12 + 9 * p + 0)) (e4 : f 4 = pRoom a p) (e5 : f 5 = k) (e6 : f 6 = a (12 + 9 * p + (2 + k))) (e7 : f 7 = a (12 + 9 * p + 1)) (e8 : f 8 = a (12 + 9 * p + (2 + 3))) : r9 f = pNm a p k := by
  funext i
  unfold r9 pNm
  by_cases c0 : i = 0
  · subst c0; rw [if_pos (by omega), if_pos rfl]; exact e0
  by_cases c1 : i = 1
  · subst c1; rw [if_pos (by omega), if_neg (by omega), if_pos rfl]; exact e1
  by_cases c2 : i = 2
  · subst c2; rw [if_pos (by omega), if_neg (by omega), if_neg (by omega), if_pos rfl]; exact e2
  by_cases c3 : i = 3
  · subst c3; rw [if_pos (by omega), if_neg (by omega), if_neg (by omega), if_neg (by omega), if_pos rfl]; exact e3
  by_cases c4 : i = 4
  · subst c4; rw [if_pos (by omega), if_neg (by omega), if_neg (by omega), if_neg (by omega), if_neg (by omega), if_pos rfl]; exact e4
  by_cases c5 : i = 5
  · subst c5; rw [if_pos (by omega), if_neg (by omega), if_neg (by omega), if_neg (by omega), if_neg (by omega), if_neg (by omega), if_pos rfl]; exact e5
  by_cases c6 : i = 6
  · subst c6; rw [if_pos (by omega), if_neg (by omega), if_neg (by omega), if_neg (by omega), if_neg (by omega), if_neg (by omega), if_neg (by omega), if_pos rfl]; exact e6
  by_cases c7 : i = 7
  · subst c7; rw [if_pos (by omega), if_neg (by omega), if_neg (by omega), if_neg (by omega), if_neg (by omega), if_neg (by omega), if_neg (by omega), if_neg (by omega), if_pos rfl]; exact e7
  by_cases c8 : i = 8
  · subst c8; rw [if_pos (by omega), if_neg (by omega), if_neg (by omega), if_neg (by omega), if_neg (by omega), if_neg (by omega), if_neg (by omega), if_neg (by omega), if_neg (by omega), if_pos rfl]; exact e8
  rw [if_neg (by omega), if_neg c0, if_neg c1, if_neg c2, if_neg c3, if_neg c4, if_neg c5, if_neg c6, if_neg c7, if_neg c8]
theorem r_cut {d : Nat} {v lo hi : Int} {h : Hp} {Q : aPO} (h1 : -100000 ≤ lo ∧ lo ≤ hi ∧ hi ≤ 100000) (k : Q (vI (cutI lo hi v)) h) : Runs d 165 0 [vL v, none, vI lo, vI hi] [] h Q := by
  unfold cutI at k
  refine Runs.go 20 [] ?_
  refine br.i (fun c => ?_) (fun c => ?_)
  · have c1 : ¬ v < lo := by intro z; unfold lcI at c; rw [if_pos z] at c; omega
    rw [if_neg c1] at k
    refine br.i (fun c => ?_) (fun c => ?_)
    · have c2 : ¬ hi < v := by intro z; unfold lcI at c; rw [if_neg (by omega), if_neg (by omega)] at c; omega
      rw [if_neg c2] at k
      exact ⟨by omega, k⟩
    · have c2 : hi < v := by unfold lcI at c; split at c; omega; split at c <;> omega
      rw [if_pos c2] at k
      exact k
  · have c1 : v < lo := by unfold lcI at c; split at c; assumption; split at c <;> omega
    rw [if_pos c1] at k
    exact k
theorem c_clamp {d : Nat} {v lo hi : Int} {h : Hp} {Q : aPO} (h1 : -1000000 ≤ lo ∧ lo ≤ hi ∧ hi ≤ 1000000) (k : Q (vI (cutI lo hi v)) h) : Runs d 64 0 [vL lo, none, vL hi, none, vL v, none] [] h Q := by
  unfold cutI at k
  refine Runs.go 20 [] ?_
  refine br.i (fun c => ?_) (fun c => ?_)
  · have c1 : ¬ v < lo := by intro z; unfold lcI at c; rw [if_pos z] at c; omega
    rw [if_neg c1] at k
    refine br.i (fun c => ?_) (fun c => ?_)
    · have c2 : ¬ hi < v := by intro z; unfold lcI at c; rw [if_neg (by omega), if_neg (by omega)] at c; omega
      rw [if_neg c2] at k
      exact ⟨by omega, k⟩
    · have c2 : hi < v := by unfold lcI at c; split at c; omega; split at c <;> omega
      rw [if_pos c2] at k
      exact ⟨by omega, k⟩
  · have c1 : v < lo := by unfold lcI at c; split at c; assumption; split at c <;> omega
    rw [if_pos c1] at k
    exact ⟨by omega, k⟩
theorem r_name {d : Nat} {p kd : Int} {h : Hp} {Q : aPO} (w : Wf (h 85)) (hp : 0 ≤ p ∧ p < 6) (hk : 0 ≤ kd ∧ kd < 4) (k : ∀ h1, (∀ o, o ≠ 90 → h1 o = h o) → r9 (h1 90) = pNm (h 85) p kd → Q none h1) : Runs (d + 2) 232 0 [vA 84, vI p, vI kd] [] h Q := by
  refine Runs.go 80 [] ?_
  refine ⟨by decide, ⟨by decide, ?_⟩⟩
  refine ⟨by decide, ?_⟩
  refine r_get hp (by omega) ?_
  refine ⟨by decide, ?_⟩
  refine r_get hp (by omega) ?_
  refine ⟨by decide, ?_⟩
  refine r_roomOf (h := hup (hup (hup (hup h 90 0 (h 85 8)) 90 1 p) 90 2 (h 85 (12 + 9 * p + 6))) 90 3 (h 85 (12 + 9 * p + 0))) w hp ?_
  refine ⟨by decide, ?_⟩
  refine ⟨by decide, ?_⟩
  refine ⟨by omega, ?_⟩
  refine r_get hp (by omega) ?_
  refine ⟨by decide, ?_⟩
  refine r_get hp (by omega) ?_
  refine ⟨by decide, ?_⟩
  refine r_get hp (by omega) ?_
  refine ⟨by decide, ?_⟩
  refine k _ (fun o e => ?_) ?_
  · rw [hup_o e, hup_o e, hup_o e, hup_o e, hup_o e, hup_o e, hup_o e, hup_o e, hup_o e]
  · exact r9_of rfl rfl rfl rfl rfl rfl rfl rfl rfl
theorem c_look {d : Nat} {p kd : Int} {h : Hp} {Q : aPO} {a : aA} {n : Int} (I : CG h 2 a n) (hp : 0 ≤ p ∧ p < 6) (hk : 0 ≤ kd ∧ kd < 4) (k : ∀ h1, (∀ o, o ≠ 49 → h1 o = h o) → r9 (h1 49) = pNm a p kd → Q none h1) : Runs (d + 2) 60 0 [vA 48, vA 2, vI p, vI kd] [] h Q := by
  have I2 : ∀ (i v : Int) (g : Hp), CG g 2 a n → CG (hup g 49 i v) 2 a n := fun i v g I => I.fr (fun o _ _ => hup_o (by omega))
  have b : 0 ≤ p ∧ p < (6 : Int) := hp
  have e1 : h 3 p = a (12 + 9 * p + 6) := (I.per p hp.1 hp.2).1.1
  have e2 : h 4 p = a (12 + 9 * p + 0) := (I.per p hp.1 hp.2).2.1.1
  have e3 : h 5 p = a (12 + 9 * p + 1) := (I.per p hp.1 hp.2).2.2.1.1
  refine Runs.go 80 [] ?_
  refine ⟨by decide, ?_⟩
  refine ⟨by decide, ?_⟩
  refine ⟨b, ⟨by decide, ?_⟩⟩
  refine ⟨b, ⟨by decide, ?_⟩⟩
  refine c_room (I2 _ _ _ (I2 _ _ _ (I2 _ _ _ (I2 _ _ _ I)))) hp ?_
  refine ⟨by decide, ?_⟩
  refine ⟨by decide, ?_⟩
  refine c_amount (I2 _ _ _ (I2 _ _ _ (I2 _ _ _ (I2 _ _ _ (I2 _ _ _ (I2 _ _ _ I)))))) hp hk ?_
  refine ⟨by decide, ?_⟩
  refine ⟨b, ⟨by decide, ?_⟩⟩
  refine c_amount (j := 3) (I2 _ _ _ (I2 _ _ _ (I2 _ _ _ (I2 _ _ _ (I2 _ _ _ (I2 _ _ _ (I2 _ _ _ (I2 _ _ _ I)))))))) hp (by decide) ?_
  refine ⟨by decide, ?_⟩
  refine k _ (fun o e => ?_) ?_
  · rw [hup_o e, hup_o e, hup_o e, hup_o e, hup_o e, hup_o e, hup_o e, hup_o e, hup_o e]
  · exact r9_of I.num.2.2.1.1 rfl e1 e2 rfl rfl rfl e3 rfl
