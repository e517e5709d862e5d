/-! THE SMALL MACHINE AND THE LARGE ONE: values, locals, the world -/
def cvv (ads : Nat → Nat) : (Int ⊕ (Int ⊕ Option Nat)) → Value
  | .inl x => .int (Int32.ofInt x)
  | .inr (.inl x) => .long (Int64.ofInt x)
  | .inr (.inr none) => .null
  | .inr (.inr (some o)) => .ref (ads o)
def cv (ads : Nat → Nat) : AV → Value
  | none => .null
  | some v => cvv ads v
def okv : AV → Prop
  | some (.inl x) => -2147483648 ≤ x ∧ x < 2147483648
  | some (.inr (.inl x)) => -9223372036854775808 ≤ x ∧ x < 9223372036854775808
  | _ => True
def okl (l : List AV) : Prop := ∀ v ∈ l, okv v
theorem okl.hd {v : AV} {l : List AV} (h : okl (v :: l)) : okv v := h v List.mem_cons_self
theorem okl.tl {v : AV} {l : List AV} (h : okl (v :: l)) : okl l := fun w hw => h w (List.mem_cons_of_mem _ hw)
theorem okl.cons {v : AV} {l : List AV} (hv : okv v) (h : okl l) : okl (v :: l) := fun w hw => by
  rcases List.mem_cons.mp hw with rfl | hw
  · exact hv
  · exact h w hw
def isLc (o : Nat) (i : Int) : Bool := Nat.beq (shK o) 103 || Nat.beq (fkOf (shK o) i.toNat) 2
def okh (h : Hp) : Prop := ∀ o i, (isLc o i = false → -2147483648 ≤ h o i ∧ h o i < 2147483648) ∧ (-9223372036854775808 ≤ h o i ∧ h o i < 9223372036854775808)
theorem okh.up {h : Hp} {o : Nat} {i v : Int} (hh : okh h) (hv : isLc o i = false → -2147483648 ≤ v ∧ v < 2147483648) (hv2 : -9223372036854775808 ≤ v ∧ v < 9223372036854775808) : okh (hup h o i v) := by
  intro a j
  unfold hup
  by_cases hc : a = o ∧ j = i
  · rw [if_pos hc, hc.1, hc.2]; exact ⟨hv, hv2⟩
  · rw [if_neg hc]; exact hh a j
theorem nth_lt {α : Type} {d : α} : ∀ {l : List α} {n : Nat}, n < l.length → l[n]? = some (nth d l n)
  | x :: xs, 0, _ => rfl
  | x :: xs, n + 1, h => by
    rw [List.getElem?_cons_succ]
    exact nth_lt (Nat.lt_of_succ_lt_succ h)
  | [], _, h => absurd h (Nat.not_lt_zero _)
theorem nth_ge {α : Type} {d : α} : ∀ {l : List α} {n : Nat}, l.length ≤ n → nth d l n = d
  | [], _, _ => rfl
  | x :: xs, 0, h => absurd h (by simp)
  | x :: xs, n + 1, h => nth_ge (l := xs) (Nat.le_of_succ_le_succ h)
theorem nth_mem {α : Type} {d : α} {l : List α} {n : Nat} (h : n < l.length) : nth d l n ∈ l := List.mem_of_getElem? (nth_lt h)
theorem shK_lt {o : Nat} (h : shK o ≠ 999) : o < nOb := by
  rcases Nat.lt_or_ge o 96 with q | q
  · exact q
  · refine absurd ?_ h
    unfold shK nth2
    rw [nth_ge (l := shKT) (d := []) (n := o / 16) (by show 6 ≤ o / 16; omega)]
    rfl
def fvl (ads : Nat → Nat) (h : Hp) (o k : Nat) : Value := match fkOf (shK o) k with
  | 0 => .int (Int32.ofInt (h o k))
  | 1 => .int (Int32.ofInt (h o k))
  | 2 => .long (Int64.ofInt (h o k))
  | _ => va_rf ((shR o k).map ads)
def celE (ads : Nat → Nat) (cA : Nat → ClassId) (h : Hp) (o : Nat) : va_E := match shK o with
  | 100 => .inl (cA 0, shN o, .inl (fun j => Int32.ofInt (h o j)))
  | 101 => .inl (cA 1, shN o, .inl (fun j => Int32.ofInt (h o j)))
  | 102 => .inl (cA 2, shN o, .inl (fun j => Int32.ofInt (h o j)))
  | 103 => .inl (cA 3, shN o, .inr (.inl (fun j => Int64.ofInt (h o j))))
  | 104 => .inl (cA 4, shN o, .inr (.inr (.inr (.inr (fun j => (shR o j).map ads)))))
  | c => .inr (c, (List.range (shN o)).map (fvl ads h o))
theorem celE_0 {ads : Nat → Nat} {cA : Nat → ClassId} {h : Hp} {o : Nat} (hk : shK o = 100) : celE ads cA h o = .inl (cA 0, shN o, .inl (fun j => Int32.ofInt (h o j))) := by
  unfold celE
  rw [hk]
  rfl
theorem celE_1 {ads : Nat → Nat} {cA : Nat → ClassId} {h : Hp} {o : Nat} (hk : shK o = 101) : celE ads cA h o = .inl (cA 1, shN o, .inl (fun j => Int32.ofInt (h o j))) := by
  unfold celE
  rw [hk]
  rfl
theorem celE_2 {ads : Nat → Nat} {cA : Nat → ClassId} {h : Hp} {o : Nat} (hk : shK o = 102) : celE ads cA h o = .inl (cA 2, shN o, .inl (fun j => Int32.ofInt (h o j))) := by
  unfold celE
  rw [hk]
  rfl
theorem celE_3 {ads : Nat → Nat} {cA : Nat → ClassId} {h : Hp} {o : Nat} (hk : shK o = 103) : celE ads cA h o = .inl (cA 3, shN o, .inr (.inl (fun j => Int64.ofInt (h o j)))) := by
  unfold celE
  rw [hk]
  rfl
theorem celE_4 {ads : Nat → Nat} {cA : Nat → ClassId} {h : Hp} {o : Nat} (hk : shK o = 104) : celE ads cA h o = .inl (cA 4, shN o, .inr (.inr (.inr (.inr (fun j => (shR o j).map ads))))) := by
  unfold celE
  rw [hk]
  rfl
theorem celE_c {ads : Nat → Nat} {cA : Nat → ClassId} {h : Hp} {o c : Nat} (hk : shK o = c) (hc : c < 10) : celE ads cA h o = .inr (c, (List.range (shN o)).map (fvl ads h o)) := by
  unfold celE
  rw [hk]
  split <;> first | omega | rfl
theorem fvl_cong {ads : Nat → Nat} {h h2 : Hp} {o : Nat} (he : ∀ j, h2 o j = h o j) : fvl ads h2 o = fvl ads h o := by
  funext k
  unfold fvl
  rw [he]
theorem celE_cong {ads : Nat → Nat} {cA : Nat → ClassId} {h h2 : Hp} {o : Nat} (he : ∀ j, h2 o j = h o j) : celE ads cA h2 o = celE ads cA h o := by
  unfold celE
  rw [fvl_cong he]
  simp only [he]
def wld (ads : Nat → Nat) (cA : Nat → ClassId) (h : Hp) : va_W := (List.range nOb).map (fun o => (ads o, celE ads cA h o))
theorem wld_at {ads : Nat → Nat} {cA : Nat → ClassId} {h : Hp} {o : Nat} (ho : o < nOb) : (wld ads cA h)[o]? = some (ads o, celE ads cA h o) := by
  unfold wld
  rw [List.getElem?_map, List.getElem?_range ho]
  rfl
theorem wld_inv {ads : Nat → Nat} {cA : Nat → ClassId} {h : Hp} {o : Nat} {q : Nat × va_E} (hq : (wld ads cA h)[o]? = some q) : o < nOb ∧ q = (ads o, celE ads cA h o) := by
  have ho : o < nOb := by
    have := (List.getElem?_eq_some_iff.mp hq).1
    simpa [wld] using this
  rw [wld_at ho] at hq
  exact ⟨ho, (Option.some.inj hq).symm⟩
theorem wld_set {ads : Nat → Nat} {cA : Nat → ClassId} {h h2 : Hp} {o : Nat} {E : va_E} (hne : ∀ a, a ≠ o → ∀ j, h2 a j = h a j) (hE : celE ads cA h2 o = E) : (wld ads cA h).set o (ads o, E) = wld ads cA h2 := by
  apply List.ext_getElem?
  intro i
  rw [List.getElem?_set]
  by_cases hi : i < nOb
  · by_cases e : o = i
    · subst e
      rw [if_pos rfl, if_pos (by simpa [wld] using hi), wld_at hi, hE]
    · rw [if_neg e, wld_at hi, wld_at hi, celE_cong (hne i (fun q => e q.symm))]
  · have e1 : (wld ads cA h2)[i]? = none := by rw [List.getElem?_eq_none_iff]; simp [wld]; omega
    have e2 : (wld ads cA h)[i]? = none := by rw [List.getElem?_eq_none_iff]; simp [wld]; omega
    by_cases e : o = i
    · subst e
      rw [if_pos rfl, if_neg (by simpa [wld] using hi), e1]
    · rw [if_neg e, e1, e2]
theorem hup_ne {h : Hp} {o a : Nat} {i v : Int} (q : a ≠ o) (j : Int) : hup h o i v a j = h a j := if_neg (fun z => q z.1)
theorem range_set {N k : Nat} {f g : Nat → Value} {v : Value} (hk : g k = v) (hn : ∀ j, j ≠ k → g j = f j) : ((List.range N).map f).set k v = (List.range N).map g := by
  apply List.ext_getElem?
  intro i
  rw [List.getElem?_set, List.getElem?_map, List.getElem?_map]
  by_cases hi : i < N
  · by_cases e : k = i
    · subst e
      rw [if_pos rfl, if_pos (by simpa using hi), List.getElem?_range hi, ← hk]
      rfl
    · rw [if_neg e, List.getElem?_range hi]
      simp only [Option.map_some, hn i (fun q => e q.symm)]
  · have e1 : (List.range N)[i]? = none := by rw [List.getElem?_eq_none_iff]; simp; omega
    rw [e1]
    by_cases e : k = i
    · subst e
      rw [if_pos rfl, if_neg (by simpa using hi)]
      rfl
    · rw [if_neg e]
      rfl
def inA (ads : Nat → Nat) : Nat → Prop := fun q => ∃ o, o < nOb ∧ q = ads o
def apA (ads : Nat → Nat) : Prop := ∀ i j, i < nOb → j < nOb → ads i = ads j → i = j
theorem wldD {ads : Nat → Nat} {cA : Nat → ClassId} {h : Hp} (ha : apA ads) : va_D (inA ads) (wld ads cA h) := by
  refine ⟨fun i j p q hp hq e => ?_, fun k q hq => ?_⟩
  · obtain ⟨h1, rfl⟩ := wld_inv hp
    obtain ⟨h2, rfl⟩ := wld_inv hq
    exact ha i j h1 h2 e
  · obtain ⟨h1, rfl⟩ := wld_inv hq
    exact ⟨k, h1, rfl⟩
def tysL (cA : Nat → ClassId) : List (ClassId × FieldType) := [(cA 0, .int), (cA 1, .byte), (cA 2, .boolean), (cA 3, .long), (cA 4, .object "ThimbleLaw$Text")]
/-- the locals -/
def LR (ads : Nat → Nat) (C : Array Slot) (nL : Nat) (ls : List AV) : Prop := ∃ l, lv_has C nL l ∧ ∀ k v, lget ls k = some v → (k, cvv ads v) ∈ l
theorem LR.at {ads : Nat → Nat} {C : Array Slot} {nL : Nat} {ls : List AV} (h : LR ads C nL ls) {k : Nat} {v : Int ⊕ (Int ⊕ Option Nat)} (hk : lget ls k = some v) : C[k]? = some (.val (cvv ads v)) := by
  obtain ⟨l, h1, h2⟩ := h
  exact h1.2.2 _ (h2 k v hk)
theorem LR.size {ads : Nat → Nat} {C : Array Slot} {nL : Nat} {ls : List AV} (h : LR ads C nL ls) : C.size = nL := by
  obtain ⟨l, h1, -⟩ := h
  exact h1.1
theorem lget_set {ls : List AV} {k j : Nat} {v : AV} : lget (setn ls k v) j = if j = k ∧ k < ls.length then v else lget ls j := by
  induction ls generalizing k j with
  | nil => simp [setn, lget, nth]
  | cons x xs ih =>
    cases k with
    | zero =>
      cases j with
      | zero => simp [setn, lget, nth]
      | succ j => simp [setn, lget, nth]
    | succ k =>
      cases j with
      | zero => simp [setn, lget, nth]
      | succ j =>
        show lget (setn xs k v) j = if j + 1 = k + 1 ∧ k + 1 < xs.length + 1 then v else lget xs j
        rw [ih]
        simp
theorem lget_kill {ls : List AV} {k j : Nat} {w : Int ⊕ (Int ⊕ Option Nat)} (h : lget (kill ls k) j = some w) : lget ls j = some w ∧ (j = k → ∀ x, w ≠ .inr (.inl x)) := by
  unfold kill at h
  split at h
  · rename_i y hy
    rw [lget_set] at h
    split at h
    · cases h
    · rename_i hc
      refine ⟨h, fun e x hx => ?_⟩
      subst e
      by_cases hl : j < ls.length
      · exact hc ⟨rfl, hl⟩
      · have : lget ls j = none := nth_ge (by omega)
        rw [this] at h; cases h
  · rename_i hy
    refine ⟨h, fun e x hx => ?_⟩
    subst e; subst hx
    exact hy x h
theorem cat_cvv {ads : Nat → Nat} {w : Int ⊕ (Int ⊕ Option Nat)} (h : (cvv ads w).category = 2) : ∃ x, w = .inr (.inl x) := by
  rcases w with x | x | x | x
  · cases h
  · exact ⟨x, rfl⟩
  · cases h
  · cases h
theorem stor_get {ls : List AV} {k j : Nat} {v : AV} {w : Int ⊕ (Int ⊕ Option Nat)} (h : lget (stor ls k v) j = some w) : (j = k ∧ v = some w) ∨ (j ≠ k ∧ lget ls j = some w ∧ (j + 1 = k → ∀ x, w ≠ .inr (.inl x))) := by
  cases k with
  | zero =>
    have h : lget (setn ls 0 v) j = some w := h
    rw [lget_set] at h
    split at h
    · rename_i hc; exact Or.inl ⟨hc.1, h⟩
    · rename_i hc
      refine Or.inr ⟨fun e => ?_, h, fun e => by omega⟩
      subst e
      have : lget ls 0 = none := nth_ge (by omega)
      rw [this] at h; cases h
  | succ k =>
    have h : lget (setn (kill ls k) (k + 1) v) j = some w := h
    rw [lget_set] at h
    split at h
    · rename_i hc; exact Or.inl ⟨hc.1, h⟩
    · rename_i hc
      obtain ⟨h1, h2⟩ := lget_kill h
      refine Or.inr ⟨fun e => ?_, h1, fun e => h2 (by omega)⟩
      subst e
      have : lget (kill ls k) (k + 1) = none := nth_ge (by omega)
      rw [this] at h; cases h
theorem LR.sto {ads : Nat → Nat} {C : Array Slot} {nL : Nat} {ls : List AV} {lv : List (Nat × Value)} {k : Nat} {w : Int ⊕ (Int ⊕ Option Nat)} (h2 : ∀ j v, lget ls j = some v → (j, cvv ads v) ∈ lv)
    (h : lv_has C nL ((k, cvv ads w) :: lv.filter (fun q => !(q.1 == k) && !(q.1 + 1 == k && q.2.category == 2)))) : LR ads C nL (stor ls k (some w)) := by
  refine ⟨_, h, fun j v hj => ?_⟩
  rcases stor_get hj with ⟨rfl, e⟩ | ⟨hne, h3, h4⟩
  · cases e; exact List.mem_cons_self
  · refine List.mem_cons_of_mem _ (List.mem_filter.mpr ⟨h2 j v h3, ?_⟩)
    simp only [Bool.and_eq_true, Bool.not_eq_true', beq_eq_false_iff_ne, ne_eq, Bool.and_eq_false_iff]
    refine ⟨hne, ?_⟩
    by_cases e : j + 1 = k
    · right
      intro hc
      obtain ⟨x, hx⟩ := cat_cvv hc
      exact h4 e x hx
    · left; exact e
theorem LR.sto2 {ads : Nat → Nat} {C : Array Slot} {nL : Nat} {ls : List AV} {lv : List (Nat × Value)} {k : Nat} {w : Int ⊕ (Int ⊕ Option Nat)} (h2 : ∀ j v, lget ls j = some v → (j, cvv ads v) ∈ lv)
    (h : lv_has C nL ((k, cvv ads w) :: lv.filter (fun q => !(q.1 == k) && (!(q.1 == k + 1) && !(q.1 + 1 == k && q.2.category == 2))))) : LR ads C nL (stor2 ls k (some w)) := by
  refine ⟨_, h, fun j v hj => ?_⟩
  unfold stor2 at hj
  rw [lget_set] at hj
  split at hj
  · cases hj
  · rename_i hc
    have hk1 : j ≠ k + 1 := by
      intro e
      subst e
      have : lget (stor ls k (some w)) (k + 1) = none := nth_ge (by omega)
      rw [this] at hj; cases hj
    rcases stor_get hj with ⟨rfl, e⟩ | ⟨hne, h3, h4⟩
    · cases e; exact List.mem_cons_self
    · refine List.mem_cons_of_mem _ (List.mem_filter.mpr ⟨h2 j v h3, ?_⟩)
      simp only [Bool.and_eq_true, Bool.not_eq_true', beq_eq_false_iff_ne, ne_eq, Bool.and_eq_false_iff]
      refine ⟨hne, hk1, ?_⟩
      by_cases e : j + 1 = k
      · right
        intro hc
        obtain ⟨x, hx⟩ := cat_cvv hc
        exact h4 e x hx
      · left; exact e
theorem pad_get : ∀ (xs : List AV) (n k : Nat), lget (pad xs n) k = lget xs k
  | [], 0, k => rfl
  | [], n + 1, 0 => rfl
  | [], n + 1, k + 1 => (pad_get [] n k).trans rfl
  | x :: xs, 0, k => rfl
  | x :: xs, n + 1, 0 => rfl
  | x :: xs, n + 1, k + 1 => pad_get xs n k
theorem ents_get {ads : Nat → Nat} : ∀ (av : List AV) (j k : Nat) (v : Int ⊕ (Int ⊕ Option Nat)), lget (ents av) k = some v → (j + k, cvv ads v) ∈ lv_args j (av.map (cv ads))
  | [], j, k, v, h => by
    have : lget (ents []) k = none := rfl
    rw [this] at h; cases h
  | some (.inr (.inl x)) :: vs, j, k, v, h => by
    show _ ∈ (j, _) :: lv_args (if (2 : Nat) = 2 then j + 2 else j + 1) (vs.map (cv ads))
    match k, h with
    | 0, h =>
      have h : (some (.inr (.inl x)) : AV) = some v := h
      cases h; exact List.mem_cons_self
    | 1, h =>
      have h : (none : AV) = some v := h
      cases h
    | k + 2, h =>
      have := ents_get (ads := ads) vs (j + 2) k v h
      rw [show j + 2 + k = j + (k + 2) by omega] at this
      exact List.mem_cons_of_mem _ this
  | some (.inl x) :: vs, j, k, v, h => by
    show _ ∈ (j, _) :: lv_args (if (1 : Nat) = 2 then j + 2 else j + 1) (vs.map (cv ads))
    match k, h with
    | 0, h =>
      have h : (some (.inl x) : AV) = some v := h
      cases h; exact List.mem_cons_self
    | k + 1, h =>
      have := ents_get (ads := ads) vs (j + 1) k v h
      rw [show j + 1 + k = j + (k + 1) by omega] at this
      exact List.mem_cons_of_mem _ this
  | some (.inr (.inr none)) :: vs, j, k, v, h => by
    show _ ∈ (j, _) :: lv_args (if (1 : Nat) = 2 then j + 2 else j + 1) (vs.map (cv ads))
    match k, h with
    | 0, h =>
      have h : (some (.inr (.inr none)) : AV) = some v := h
      cases h; exact List.mem_cons_self
    | k + 1, h =>
      have := ents_get (ads := ads) vs (j + 1) k v h
      rw [show j + 1 + k = j + (k + 1) by omega] at this
      exact List.mem_cons_of_mem _ this
  | some (.inr (.inr (some o))) :: vs, j, k, v, h => by
    show _ ∈ (j, _) :: lv_args (if (1 : Nat) = 2 then j + 2 else j + 1) (vs.map (cv ads))
    match k, h with
    | 0, h =>
      have h : (some (.inr (.inr (some o))) : AV) = some v := h
      cases h; exact List.mem_cons_self
    | k + 1, h =>
      have := ents_get (ads := ads) vs (j + 1) k v h
      rw [show j + 1 + k = j + (k + 1) by omega] at this
      exact List.mem_cons_of_mem _ this
  | none :: vs, j, k, v, h => by
    show _ ∈ (j, _) :: lv_args (if (1 : Nat) = 2 then j + 2 else j + 1) (vs.map (cv ads))
    match k, h with
    | 0, h =>
      have h : (none : AV) = some v := h
      cases h
    | k + 1, h =>
      have := ents_get (ads := ads) vs (j + 1) k v h
      rw [show j + 1 + k = j + (k + 1) by omega] at this
      exact List.mem_cons_of_mem _ this
theorem ents_len {ads : Nat → Nat} : ∀ (av : List AV), (lg_sl (av.map (cv ads))).length = (ents av).length
  | [] => rfl
  | some (.inr (.inl x)) :: vs => by
    have := ents_len (ads := ads) vs
    show ([Slot.val _, Slot.second] ++ lg_sl (vs.map (cv ads))).length = (some (.inr (.inl x)) :: none :: ents vs).length
    simp [this]
  | some (.inl x) :: vs => by
    have := ents_len (ads := ads) vs
    show ([Slot.val _] ++ lg_sl (vs.map (cv ads))).length = (some (.inl x) :: ents vs).length
    simp [this]
  | some (.inr (.inr none)) :: vs => by
    have := ents_len (ads := ads) vs
    show ([Slot.val _] ++ lg_sl (vs.map (cv ads))).length = (some (.inr (.inr none)) :: ents vs).length
    simp [this]
  | some (.inr (.inr (some o))) :: vs => by
    have := ents_len (ads := ads) vs
    show ([Slot.val _] ++ lg_sl (vs.map (cv ads))).length = (some (.inr (.inr (some o))) :: ents vs).length
    simp [this]
  | none :: vs => by
    have := ents_len (ads := ads) vs
    show ([Slot.val _] ++ lg_sl (vs.map (cv ads))).length = (none :: ents vs).length
    simp [this]
theorem LR.entry {ads : Nat → Nat} {av : List AV} {n : Nat} (h : (ents av).length ≤ n) : LR ads ((lg_sl (av.map (cv ads)) ++ List.replicate (n - (lg_sl (av.map (cv ads))).length) Slot.unset).toArray) n (pad (ents av) n) := by
  refine ⟨lv_args 0 (av.map (cv ads)), lv_entry _ (by rw [ents_len]; exact h), fun k v hk => ?_⟩
  rw [pad_get] at hk
  have := ents_get (ads := ads) av 0 k v hk
  rwa [Nat.zero_add] at this
theorem okl_ents : ∀ {av : List AV}, okl av → okl (ents av)
  | [], h => h
  | some (.inr (.inl x)) :: vs, h => okl.cons h.hd (okl.cons trivial (okl_ents h.tl))
  | some (.inl x) :: vs, h => okl.cons h.hd (okl_ents h.tl)
  | some (.inr (.inr none)) :: vs, h => okl.cons h.hd (okl_ents h.tl)
  | some (.inr (.inr (some o))) :: vs, h => okl.cons h.hd (okl_ents h.tl)
  | none :: vs, h => okl.cons h.hd (okl_ents h.tl)
theorem okl_pad : ∀ {xs : List AV} {n : Nat}, okl xs → okl (pad xs n)
  | [], 0, h => h
  | [], n + 1, h => okl.cons trivial (okl_pad h)
  | x :: xs, 0, h => h
  | x :: xs, n + 1, h => okl.cons h.hd (okl_pad h.tl)
theorem okl_set : ∀ {ls : List AV} {k : Nat} {v : AV}, okl ls → okv v → okl (setn ls k v)
  | [], _, _, h, _ => h
  | _ :: xs, 0, v, h, hv => okl.cons hv h.tl
  | x :: xs, k + 1, v, h, hv => okl.cons h.hd (okl_set h.tl hv)
theorem okl_kill {ls : List AV} {k : Nat} (h : okl ls) : okl (kill ls k) := by
  unfold kill
  split
  · exact okl_set h trivial
  · exact h
theorem okl_stor {ls : List AV} {k : Nat} {v : AV} (h : okl ls) (hv : okv v) : okl (stor ls k v) := by
  cases k with
  | zero => exact okl_set h hv
  | succ k => exact okl_set (okl_kill h) hv
theorem okl_stor2 {ls : List AV} {k : Nat} {v : AV} (h : okl ls) (hv : okv v) : okl (stor2 ls k v) := okl_set (okl_stor h hv) trivial
theorem okl_get {ls : List AV} {k : Nat} (h : okl ls) : okv (lget ls k) := by
  unfold lget
  rcases Nat.lt_or_ge k ls.length with q | q
  · exact h _ (nth_mem q)
  · rw [nth_ge q]; trivial
theorem takeR_spec : ∀ (n : Nat) (acc st : List AV), (takeR n acc st).length = acc.length + n → st = (takeR n [] st).reverse ++ dropN n st ∧ takeR n acc st = takeR n [] st ++ acc
  | 0, acc, st, _ => ⟨rfl, rfl⟩
  | n + 1, acc, [], h => by
    have h : acc.length = acc.length + (n + 1) := h
    omega
  | n + 1, acc, x :: xs, h => by
    have h : (takeR n (x :: acc) xs).length = acc.length + (n + 1) := h
    have h1 := takeR_spec n (x :: acc) xs (by rw [h]; simp; omega)
    have hl : (takeR n [] xs).length = n := by
      have := congrArg List.length h1.2
      rw [h] at this
      simp at this
      omega
    have h2 := takeR_spec n [x] xs (by
      have e : ∀ (n : Nat) (acc st : List AV), (takeR n acc st).length = (takeR n [] st).length + acc.length := by
        intro n
        induction n with
        | zero => intro acc st; simp [takeR]
        | succ n ih =>
          intro acc st
          cases st with
          | nil => simp [takeR]
          | cons y ys =>
            show (takeR n (y :: acc) ys).length = (takeR n [y] ys).length + acc.length
            rw [ih (y :: acc) ys, ih [y] ys]
            simp; omega
      rw [e]; simp; omega)
    refine ⟨?_, ?_⟩
    · show x :: xs = (takeR n [x] xs).reverse ++ dropN n xs
      rw [h2.2, List.reverse_append]
      show x :: xs = x :: ((takeR n [] xs).reverse ++ dropN n xs)
      rw [← h2.1]
    · show takeR n (x :: acc) xs = takeR n [x] xs ++ acc
      rw [h1.2, h2.2]
      simp
