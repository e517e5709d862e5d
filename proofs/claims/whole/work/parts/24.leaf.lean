/-! LEAVES of both, in the words of the reference's row -/
def pRoom (a : aA) (p : Int) : Int := max 1 (a 9 - a (12 + 9 * p + 0))
def pExc (a : aA) (p k room : Int) : Int := a (12 + 9 * p + (2 + k)) - a (66 + k) * room
section RG
variable {a : aA}
theorem CG.ws {h : Hp} {n : Int} (I : CG h 2 a n) (hn : n ≤ 30000) : Ws a := ⟨h, n, I, hn⟩
theorem CG.wf {h : Hp} {n : Int} (I : CG h 2 a n) (hn : n ≤ 30000) : Wf a := (I.ws hn).wf
theorem Wf.p0 (w : Wf a) : 0 ≤ a 0 ∧ a 0 ≤ 6 := by obtain ⟨g, n, I, hn⟩ := w; exact I.num.1.2
theorem Wf.p1 (w : Wf a) : 0 ≤ a 1 ∧ a 1 ≤ 4 := by obtain ⟨g, n, I, hn⟩ := w; exact I.num.2.2.2.2.1.2
theorem Wf.p2 (w : Wf a) : -1 ≤ a 2 ∧ a 2 < a 1 := by obtain ⟨g, n, I, hn⟩ := w; exact I.num.2.2.2.2.2.2
theorem Wf.p3 (w : Wf a) : 0 ≤ a 3 ∧ a 3 ≤ 30 := by obtain ⟨g, n, I, hn⟩ := w; exact I.st3
theorem Wf.p4 (w : Wf a) : 0 ≤ a 4 ∧ a 4 ≤ 8 := by obtain ⟨g, n, I, hn⟩ := w; exact I.plan.1.2
theorem Wf.p5 (w : Wf a) : 0 ≤ a 5 ∧ a 5 ≤ 8 := by obtain ⟨g, n, I, hn⟩ := w; exact I.year.1.2
theorem Wf.p6 (w : Wf a) : 0 ≤ a 6 ∧ a 6 ≤ 8 := by obtain ⟨g, n, I, hn⟩ := w; exact I.dried.1.2
theorem Wf.p8 (w : Wf a) : 0 ≤ a 8 ∧ a 8 ≤ 9999 := by obtain ⟨g, n, I, hn⟩ := w; exact I.num.2.2.1.2
theorem Wf.p9 (w : Wf a) : 1 ≤ a 9 ∧ a 9 ≤ 99 := by obtain ⟨g, n, I, hn⟩ := w; exact I.num.2.1.2
theorem Wf.p10 (w : Wf a) : 0 ≤ a 10 ∧ a 10 ≤ 30492 := by obtain ⟨g, n, I, hn⟩ := w; exact I.num.2.2.2.1.2
theorem Wf.p11 (w : Wf a) : 0 ≤ a 11 ∧ a 11 ≤ 30000 := by obtain ⟨g, n, I, hn⟩ := w; have q := I.book.1.2; omega
variable {p : Int}
theorem Wf.stuff (w : Wf a) (h1 : 0 ≤ p ∧ p < 6) : 0 ≤ a (12 + 9 * p + 6) ∧ a (12 + 9 * p + 6) ≤ 2 := by obtain ⟨g, n, I, hn⟩ := w; exact (I.per p h1.1 h1.2).1.2
theorem Wf.dent (w : Wf a) (h1 : 0 ≤ p ∧ p < 6) : 0 ≤ a (12 + 9 * p + 0) ∧ a (12 + 9 * p + 0) ≤ 9 := by obtain ⟨g, n, I, hn⟩ := w; exact (I.per p h1.1 h1.2).2.1.2
theorem Wf.coin (w : Wf a) (h1 : 0 ≤ p ∧ p < 6) : 0 ≤ a (12 + 9 * p + 1) ∧ a (12 + 9 * p + 1) ≤ 9999 := by obtain ⟨g, n, I, hn⟩ := w; exact (I.per p h1.1 h1.2).2.2.1.2
theorem Wf.drop (w : Wf a) (h1 : 0 ≤ p ∧ p < 6) {k : Int} (h2 : 0 ≤ k ∧ k < 4) : 0 ≤ a (12 + 9 * p + (2 + k)) ∧ a (12 + 9 * p + (2 + k)) ≤ 999 := by obtain ⟨g, n, I, hn⟩ := w; exact ((I.per p h1.1 h1.2).2.2.2.1 k h2.1 h2.2).2
theorem Wf.td (w : Wf a) (h1 : 0 ≤ p ∧ p < 6) : (0 ≤ a (12 + 9 * p + 7) ∧ a (12 + 9 * p + 7) ≤ 9) ∧ 0 ≤ a (12 + 9 * p + 8) ∧ a (12 + 9 * p + 8) ≤ 9999 := by obtain ⟨g, n, I, hn⟩ := w; exact (I.per p h1.1 h1.2).2.2.2.2
theorem Wf.brim (w : Wf a) {k : Int} (h2 : 0 ≤ k ∧ k < 3) : 0 ≤ a (66 + k) ∧ a (66 + k) ≤ 9 := by obtain ⟨g, n, I, hn⟩ := w; exact (I.brim k h2.1 h2.2).2
theorem Wf.cost (w : Wf a) {k : Int} (h2 : 0 ≤ k ∧ k < 3) : 1 ≤ a (162 + k) ∧ a (162 + k) ≤ 99 := by obtain ⟨g, n, I, hn⟩ := w; exact (I.cost k h2.1 h2.2).2
theorem Wf.way (w : Wf a) {k : Int} (h2 : 0 ≤ k ∧ k < 36) : 1 ≤ a (86 + k) ∧ a (86 + k) ≤ 99 := by obtain ⟨g, n, I, hn⟩ := w; exact (I.way k h2.1 h2.2).2
theorem Wf.room (w : Wf a) (h1 : 0 ≤ p ∧ p < 6) : 1 ≤ pRoom a p ∧ pRoom a p ≤ 99 := by
  have q := w.p9
  have r := w.dent h1
  unfold pRoom
  omega
theorem Wf.exc (w : Wf a) (h1 : 0 ≤ p ∧ p < 6) {k : Int} (h2 : 0 ≤ k ∧ k < 3) {room : Int} (h8 : 0 ≤ room ∧ room ≤ 200) : -1800 ≤ pExc a p k room ∧ pExc a p k room ≤ 999 := by
  have q := w.drop h1 (k := k) (by omega)
  have b := w.brim h2
  have hm : 0 ≤ a (66 + k) * room ∧ a (66 + k) * room ≤ 9 * 200 := ⟨Int.mul_nonneg b.1 h8.1, Int.mul_le_mul b.2 h8.2 h8.1 (by omega)⟩
  unfold pExc
  omega
end RG
section LV
variable {d : Nat} {p k : Int} {h : Hp} {Q : aPO}
theorem r_isIn {n x y : Int} (k : Q (vI (b2i (x ≤ n ∧ n ≤ y))) h) : Runs d 164 0 [vI n, vI x, vI y] [] h Q := by
  refine Runs.go 20 [] ?_
  refine br.i (fun c => ?_) (fun c => ?_)
  · exact ⟨by omega, QI k (b2i_f (by omega)).symm⟩
  · refine br.i (fun c2 => ?_) (fun c2 => ?_)
    · exact ⟨by omega, QI k (b2i_f (by omega)).symm⟩
    · exact ⟨by omega, QI k (b2i_t (by omega)).symm⟩
theorem b2i_c {c e : Prop} [Decidable c] [Decidable e] (h : c ↔ e) : b2i c = b2i e := by
  by_cases z : c
  · rw [b2i_t z, b2i_t (h.mp z)]
  · rw [b2i_f z, b2i_f (fun y => z (h.mpr y))]
theorem r_isOne (w : Wf (h 85)) (k : Q (vI (b2i (0 ≤ p ∧ p < h 85 0))) h) : Runs (d + 1) 168 0 [vA 84, vI p] [] h Q := by
  have h0 := w.p0
  refine Runs.go 20 [] ?_
  have e : -2147483648 ≤ h 85 0 - 1 ∧ h 85 0 - 1 < 2147483648 := by omega
  refine ⟨by decide, ?_⟩
  refine ⟨e, ?_⟩
  refine r_isIn (y := h 85 0 - 1) ?_
  exact ⟨b2i_r _, QI k (b2i_c (by omega))⟩
theorem r_isKind (k : Q (vI (b2i (0 ≤ p ∧ p ≤ 2))) h) : Runs (d + 1) 169 0 [vI p] [] h Q := by
  refine Runs.go 20 [] ?_
  refine r_isIn ?_
  exact ⟨b2i_r _, k⟩
theorem r_get {w : Int} (h1 : 0 ≤ p ∧ p < 6) (h2 : 0 ≤ w ∧ w < 9) (k : Q (vI (h 85 (12 + 9 * p + w))) h) : Runs d 170 0 [vA 84, vI p, vI w] [] h Q := by
  refine Runs.go 20 [] ?_
  refine ⟨by omega, ⟨by omega, ⟨by omega, ?_⟩⟩⟩
  exact ⟨⟨by omega, show _ < (3856 : Int) by omega⟩, k⟩
theorem r_put {w v : Int} (h1 : 0 ≤ p ∧ p < 6) (h2 : 0 ≤ w ∧ w < 9) (k : Q none (hup h 85 (12 + 9 * p + w) v)) : Runs d 171 0 [vA 84, vI p, vI w, vI v] [] h Q := by
  refine Runs.go 20 [] ?_
  refine ⟨by omega, ⟨by omega, ⟨by omega, ?_⟩⟩⟩
  exact ⟨⟨by omega, show _ < (3856 : Int) by omega⟩, k⟩
theorem r_roomBy {s t : Int} (h1 : -10000 ≤ s ∧ s ≤ 10000) (h2 : -10000 ≤ t ∧ t ≤ 10000) (k : Q (vI (max 1 (s - t))) h) : Runs d 172 0 [vI s, vI t] [] h Q := by
  refine Runs.go 20 [] ?_
  refine ⟨by omega, ?_⟩
  refine br.i (fun c => ?_) (fun c => ?_)
  · exact ⟨by omega, QI k (by omega)⟩
  · exact QI k (by omega)
theorem r_roomOf (w : Wf (h 85)) (h1 : 0 ≤ p ∧ p < 6) (k : Q (vI (pRoom (h 85) p)) h) : Runs (d + 1) 173 0 [vA 84, vI p] [] h Q := by
  have a := w.p9
  have b := w.dent h1
  refine Runs.go 20 [] ?_
  refine ⟨by decide, ?_⟩
  refine r_get h1 (by omega) ?_
  exact r_roomBy (s := h 85 9) (t := h 85 (12 + 9 * p + 0)) (by omega) (by omega) k
theorem r_excess (w : Wf (h 85)) {kind room : Int} (h1 : 0 ≤ p ∧ p < 6) (h2 : 0 ≤ kind ∧ kind < 3) (h8 : 0 ≤ room ∧ room ≤ 200) (k : Q (vI (pExc (h 85) p kind room)) h) : Runs (d + 1) 174 0 [vA 84, vI p, vI kind, vI room] [] h Q := by
  have h9 := w.drop h1 (k := kind) (by omega)
  have h7 := w.brim h2
  have hm : 0 ≤ h 85 (66 + kind) * room ∧ h 85 (66 + kind) * room ≤ 9 * 200 := ⟨Int.mul_nonneg h7.1 h8.1, Int.mul_le_mul h7.2 h8.2 h8.1 (by omega)⟩
  refine Runs.go 20 [] ?_
  refine ⟨by omega, ?_⟩
  refine r_get h1 (by omega) ?_
  refine ⟨by omega, ?_⟩
  refine ⟨⟨by omega, show _ < (3856 : Int) by omega⟩, ?_⟩
  have e1 : -2147483648 ≤ h 85 (66 + kind) * room ∧ h 85 (66 + kind) * room < 2147483648 := by omega
  have e2 : -2147483648 ≤ h 85 (12 + 9 * p + (2 + kind)) - h 85 (66 + kind) * room ∧ h 85 (12 + 9 * p + (2 + kind)) - h 85 (66 + kind) * room < 2147483648 := by omega
  refine ⟨e1, ?_⟩
  exact ⟨e2, k⟩
theorem r_isOver (w : Wf (h 85)) {kind : Int} (h1 : 0 ≤ p ∧ p < 6) (h2 : 0 ≤ kind ∧ kind < 3) (k : Q (vI (b2i (0 < pExc (h 85) p kind (pRoom (h 85) p)))) h) : Runs (d + 2) 175 0 [vA 84, vI p, vI kind] [] h Q := by
  have r := w.room h1
  refine Runs.go 20 [] ?_
  refine r_roomOf w h1 ?_
  refine r_excess w h1 h2 (by omega) ?_
  refine br.i (fun c => ?_) (fun c => ?_)
  · exact ⟨by omega, QI k (b2i_f (by omega)).symm⟩
  · exact ⟨by omega, QI k (b2i_t (by omega)).symm⟩
variable {a : aA} {n : Int}
theorem c_has (I : CG h 2 a n) (k : Q (vI (b2i (0 ≤ p ∧ p < a 0))) h) : Runs d 7 0 [vA 2, vI p] [] h Q := by
  have q := I.num.1.1
  exact sp_has (QI k (b2i_c (by omega)))
theorem c_room (I : CG h 2 a n) (h1 : 0 ≤ p ∧ p < 6) (k : Q (vI (pRoom a p)) h) : Runs (d + 1) 8 0 [vA 2, vI p] [] h Q := by
  have q := I.num.2.1
  have b : h 4 p = a (12 + 9 * p + 0) ∧ _ := (I.per p h1.1 h1.2).2.1
  refine sp_room (by omega) (by omega) h1.1 h1.2 (QI k ?_)
  unfold roomC pRoom
  rw [q.1, b.1]
theorem c_amount (I : CG h 2 a n) {j : Int} (h1 : 0 ≤ p ∧ p < 6) (h2 : 0 ≤ j ∧ j < 4) (k : Q (vI (a (12 + 9 * p + (2 + j)))) h) : Runs d 10 0 [vA 2, vI p, vI j] [] h Q :=
  sp_amount h1.1 h1.2 h2.1 h2.2 (QI k ((I.per p h1.1 h1.2).2.2.2.1 j h2.1 h2.2).1)
theorem c_above (I : CG h 2 a n) {j room : Int} (h1 : 0 ≤ p ∧ p < 6) (h2 : 0 ≤ j ∧ j < 3) (h8 : 0 ≤ room ∧ room ≤ 200) (k : Q (vI (pExc a p j room)) h) : Runs (d + 1) 12 0 [vA 2, vI p, vI j, vI room] [] h Q := by
  have b : h 7 j = a (66 + j) ∧ _ := I.brim j h2.1 h2.2
  have q : h 6 (p * 4 + j) = a (12 + 9 * p + (2 + j)) ∧ _ := (I.per p h1.1 h1.2).2.2.2.1 j h2.1 (by omega)
  refine sp_above h1.1 h1.2 h2.1 h2.2 (by omega) h8 (by omega) (QI k ?_)
  unfold pExc
  rw [q.1, b.1]
end LV
/-! LOOPS: from the last round back to the first; what a loop gathers -/
theorem downI {R : Int → Prop} {x n : Int} (h : x ≤ n) (e : R n) (s : ∀ i, x ≤ i → i < n → R (i + 1) → R i) : R x := by
  have q : ∀ (k : Nat) (i : Int), x ≤ i → i ≤ n → n - i = k → R i := by
    intro k
    induction k with
    | zero => intro i _ _ z; rw [show i = n by omega]; exact e
    | succ k ih => intro i a b z; exact s i a (by omega) (ih (i + 1) (by omega) (by omega) (by omega))
  exact q (n - x).toNat x (by omega) h (by omega)
def fN {α : Type} (st : α → Int → α) (x : α) : Nat → α
  | 0 => x
  | n + 1 => st (fN st x n) n
def fI {α : Type} (st : α → Int → α) (x : α) (i : Int) : α := fN st x i.toNat
theorem fI_s {α : Type} {st : α → Int → α} {x : α} {i : Int} (h : 0 ≤ i) : fI st x (i + 1) = st (fI st x i) i := by
  unfold fI
  rw [show (i + 1).toNat = i.toNat + 1 by omega]
  show st _ _ = _
  rw [show ((i.toNat : Nat) : Int) = i by omega]
theorem fI_c {α : Type} {s1 s2 : α → Int → α} {x : α} {n : Int} (h : ∀ i y, 0 ≤ i → i < n → s1 y i = s2 y i) : ∀ i, 0 ≤ i → i ≤ n → fI s1 x i = fI s2 x i := by
  have q : ∀ (k : Nat), (k : Int) ≤ n → fN s1 x k = fN s2 x k := by
    intro k
    induction k with
    | zero => intro _; rfl
    | succ k ih =>
      intro z
      show s1 _ _ = s2 _ _
      rw [ih (by omega), h _ _ (by omega) (by omega)]
  intro i a b
  exact q i.toNat (by omega)
/-- what holds all the way -/
theorem fI_i {α : Type} {st : α → Int → α} {x : α} {n : Int} (P : Int → α → Prop) (h0 : P 0 x) (h : ∀ i y, 0 ≤ i → i < n → P i y → P (i + 1) (st y i)) : ∀ i, 0 ≤ i → i ≤ n → P i (fI st x i) := by
  have q : ∀ (k : Nat), (k : Int) ≤ n → P k (fN st x k) := by
    intro k
    induction k with
    | zero => intro _; exact h0
    | succ k ih =>
      intro z
      exact h _ _ (by omega) (by omega) (ih (by omega))
  intro i a b
  have := q i.toNat (by omega)
  rw [show ((i.toNat : Nat) : Int) = i by omega] at this
  exact this
def pw (j : Int) : Int := iShl 1 j
theorem pw_v : pw 0 = 1 ∧ pw 1 = 2 ∧ pw 2 = 4 ∧ pw 3 = 8 ∧ pw 4 = 16 ∧ pw 5 = 32 ∧ pw 6 = 64 ∧ pw 7 = 128 ∧ pw 8 = 256 := by decide +kernel
theorem ior_tab : ∀ j : Fin 8, ∀ s : Fin 128, (s.val : Int) < pw j.val → iOr s.val (pw j.val) = s.val + pw j.val := by decide +kernel
theorem ior_tab0 : ∀ s : Fin 256, iOr s.val 0 = s.val := by decide +kernel
theorem pw_le {j : Int} (h1 : 0 ≤ j ∧ j < 8) : 1 ≤ pw j ∧ pw j ≤ 128 ∧ pw (j + 1) = 2 * pw j := by
  obtain ⟨a0, a1, a2, a3, a4, a5, a6, a7, a8⟩ := pw_v
  have : j = 0 ∨ j = 1 ∨ j = 2 ∨ j = 3 ∨ j = 4 ∨ j = 5 ∨ j = 6 ∨ j = 7 := by omega
  rcases this with z | z | z | z | z | z | z | z <;> subst z <;> refine ⟨?_, ?_, ?_⟩ <;> (try show pw _ = _) <;> simp only [a0, a1, a2, a3, a4, a5, a6, a7, a8, Int.reduceAdd] <;> decide
theorem ior_add {j s : Int} (h1 : 0 ≤ j ∧ j < 8) (h2 : 0 ≤ s ∧ s < pw j) : iOr s (iShl 1 j) = s + pw j := by
  have q := pw_le h1
  have := ior_tab ⟨j.toNat, by omega⟩ ⟨s.toNat, by omega⟩
  simp only [Int.toNat_of_nonneg h1.1, Int.toNat_of_nonneg h2.1] at this
  exact this h2.2
theorem ior_z {s : Int} (h2 : 0 ≤ s ∧ s < 256) : iOr s 0 = s := by
  have := ior_tab0 ⟨s.toNat, by omega⟩
  simp only [Int.toNat_of_nonneg h2.1] at this
  exact this
/-- the set of those that are so, as bits -/
def bS (f : Int → Prop) [DecidablePred f] (i : Int) : Int := fI (fun s j => if f j then s + pw j else s) 0 i
theorem bS_r {f : Int → Prop} [DecidablePred f] {i : Int} (h1 : 0 ≤ i ∧ i ≤ 8) : 0 ≤ bS f i ∧ bS f i < pw i := by
  refine fI_i (st := fun s j => if f j then s + pw j else s) (n := 8) (fun i s => 0 ≤ s ∧ s < pw i) ⟨by decide, by decide +kernel⟩ (fun i y i0 i8 z => ?_) i h1.1 h1.2
  have q := pw_le (j := i) (by omega)
  show 0 ≤ (if f i then y + pw i else y) ∧ (if f i then y + pw i else y) < pw (i + 1)
  split <;> omega
theorem bS_s {f : Int → Prop} [DecidablePred f] {i : Int} (h : 0 ≤ i) : bS f (i + 1) = if f i then bS f i + pw i else bS f i := fI_s (st := fun s j => if f j then s + pw j else s) h
theorem bS_or {f : Int → Prop} [DecidablePred f] {i : Int} (h : 0 ≤ i ∧ i < 8) (z : f i) : iOr (bS f i) (iShl 1 i) = bS f (i + 1) := by
  have q := bS_r (f := f) (i := i) (by omega)
  rw [bS_s h.1, if_pos z, ior_add h q]
theorem bS_or0 {f : Int → Prop} [DecidablePred f] {i : Int} (h : 0 ≤ i ∧ i < 8) (z : ¬ f i) : iOr (bS f i) 0 = bS f (i + 1) := by
  have q := bS_r (f := f) (i := i) (by omega)
  have r := pw_le h
  rw [bS_s h.1, if_neg z, ior_z (by omega)]
theorem bS_n {f : Int → Prop} [DecidablePred f] {i : Int} (h : 0 ≤ i) (z : ¬ f i) : bS f i = bS f (i + 1) := by
  rw [bS_s h, if_neg z]
