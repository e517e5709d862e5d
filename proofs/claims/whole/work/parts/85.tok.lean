/-! TEXTS: tokens, as they stand on a tape -/
def wOf : List Nat := [0, 6, 11, 16, 20, 25, 34, 37, 42, 47, 52, 57, 64, 68, 72, 78, 83, 88, 93, 99, 105, 111, 114, 117, 123, 129, 132, 137, 142, 146, 149, 153]
def wLn : List Nat := [5, 4, 4, 3, 4, 8, 2, 4, 4, 4, 4, 6, 3, 3, 5, 4, 4, 4, 5, 5, 5, 2, 2, 5, 5, 2, 4, 4, 3, 2, 3, 3]
/-- a word as the reference reckons it -/
def wHs : List Int := [431416239475, 1701999219, 1718185573, 7302757, 1651665261, 8319381538418553444, 25711, 2003133808, 2002875240, 1886352754, 1650814564, 126892433305195, 6578553, 7825519, 495875090022, 1684369012, 1919905645, 1802071652, 431416635507, 427070942835, 499917091443, 28518, 25209, 418263299685, 422826306931, 26982, 1952998766, 1701606245, 6647396, 28530, 6385252, 7237492]
def Hw (i : Int) : Int := nth 0 wHs i.toNat
abbrev blk (b : Int) : Prop := b = 32 ∨ b = 10
abbrev ltr (b : Int) : Prop := (97 ≤ b ∧ b ≤ 122) ∨ (65 ≤ b ∧ b ≤ 90)
abbrev dgt (b : Int) : Prop := 48 ≤ b ∧ b ≤ 57
def rnn (p : Int → Prop) (tp : Int → Int) (l s e : Int) : Prop := (s < e ∧ e ≤ l) ∧ (∀ j, s ≤ j → j < e → p (tp j)) ∧ (e < l → ¬ p (tp e))
def bks (tp : Int → Int) (l s e : Int) : Prop := (s ≤ e ∧ e ≤ l) ∧ (∀ j, s ≤ j → j < e → blk (tp j)) ∧ (e < l → ¬ blk (tp e))
def wis (i : Nat) (tp : Int → Int) (s e : Int) : Prop := e - s = (nth 0 wLn i : Nat) ∧ ∀ j : Nat, j < nth 0 wLn i → tp (s + j) = nth 0 strB (nth 0 wOf i + j)
def nvl (tp : Int → Int) (s : Int) : Nat → Int
  | 0 => 0
  | m + 1 => min 10000 (nvl tp s m * 10 + tp (s + m) - 48)
def nvr (tp : Int → Int) (s : Int) : Nat → Int
  | 0 => 0
  | m + 1 => if 99999 < nvr tp s m then nvr tp s m else 10 * nvr tp s m + tp (s + m) - 48
def whs (tp : Int → Int) (s : Int) : Nat → Int
  | 0 => 0
  | m + 1 => if whs tp s m / 281474976710656 ≠ 0 then 1152921504606846976 else whs tp s m * 256 + tp (s + m)
def sgc (b : Int) : Int := if b = 60 then 33 else if b = 62 then 35 else if b = 61 then 37 else if b = 35 then 38 else if b = 43 then 39 else if b = 45 then 40 else if b = 42 then 41 else if b = 47 then 42 else if b = 40 then 43 else if b = 41 then 44 else if b = 59 then 45 else 47
def tkW (tp : Int → Int) (l s e c v : Int) : Prop := rnn ltr tp l s e ∧ (0 ≤ c ∧ c ≤ 32) ∧ (∀ i : Nat, i < 32 → (c = i ↔ wis i tp s e)) ∧ v = 0
def tkD (tp : Int → Int) (l s e c v : Int) : Prop := rnn dgt tp l s e ∧ c = 46 ∧ v = nvl tp s (e - s).toNat
def tkS (tp : Int → Int) (l s e c v : Int) : Prop := (¬ ltr (tp s) ∧ ¬ dgt (tp s) ∧ ¬ blk (tp s) ∧ s < l ∧ v = 0) ∧ ((s + 1 < l ∧ tp (s + 1) = 61 ∧ (tp s = 60 ∧ c = 34 ∨ tp s = 62 ∧ c = 36) ∧ e = s + 2) ∨ (¬ (s + 1 < l ∧ tp (s + 1) = 61 ∧ (tp s = 60 ∨ tp s = 62)) ∧ e = s + 1 ∧ c = sgc (tp s)))
def tkP (tp : Int → Int) (l s e c v : Int) : Prop := tkW tp l s e c v ∨ tkD tp l s e c v ∨ tkS tp l s e c v
/-- the row of tokens that lies in 80, 81, 82 is that of the tape -/
def tS (G : Hp) (N : Int) (en : Int → Int) : Prop := ((1 ≤ N ∧ N ≤ 301) ∧ (0 ≤ G 84 4 ∧ G 84 4 ≤ 300)) ∧ (G 80 (N - 1) = 48 ∧ G 81 (N - 1) = G 84 4 ∧ en (N - 1) = G 84 4 ∧ G 82 (N - 1) = 0) ∧
  (∀ k, 0 ≤ k → k < N - 1 → tkP (G 88) (G 84 4) (G 81 k) (en k) (G 80 k) (G 82 k) ∧ 0 ≤ G 81 k) ∧ (∀ i, 0 ≤ i → i < G 84 4 → 0 ≤ G 88 i ∧ G 88 i ≤ 255) ∧ bks (G 88) (G 84 4) 0 (G 81 0) ∧ ∀ k, 0 ≤ k → k < N - 1 → bks (G 88) (G 84 4) (en k) (G 81 (k + 1))
/-- the reference's token against the class's -/
def rTok (c v tk nu wd : Int) : Prop := ((0 ≤ c ∧ c ≤ 48) ∧ (c = 48 → tk = 0) ∧ (c = 46 → tk = 1) ∧ (c ≤ 32 → tk = 2) ∧ (c = 33 → tk = 60) ∧ (c = 34 → tk = 4) ∧ (c = 35 → tk = 62) ∧ (c = 36 → tk = 5) ∧ (c = 37 → tk = 61) ∧ (c = 38 → tk = 35) ∧
  (c = 39 → tk = 43) ∧ (c = 40 → tk = 45) ∧ (c = 41 → tk = 42) ∧ (c = 42 → tk = 47) ∧ (c = 43 → tk = 40) ∧ (c = 44 → tk = 41) ∧ (c = 45 → tk = 59) ∧ (c = 47 → tk = 3 ∨ (6 ≤ tk ∧ tk ≤ 255 ∧ tk ≠ 60 ∧ tk ≠ 62 ∧ tk ≠ 61 ∧ tk ≠ 35 ∧ tk ≠ 43 ∧ tk ≠ 45 ∧ tk ≠ 42 ∧ tk ≠ 47 ∧ tk ≠ 40 ∧ tk ≠ 41 ∧ tk ≠ 59))) ∧
  (c = 46 → 0 ≤ nu ∧ v = min 10000 nu) ∧ (c ≤ 32 → ∀ i : Nat, i < 32 → i ≠ 5 → (wd = Hw i ↔ c = i))
theorem nvl_r {tp : Int → Int} {s : Int} {m : Nat} (h : ∀ j, s ≤ j → j < s + m → dgt (tp j)) : ∀ i : Nat, i ≤ m → 0 ≤ nvr tp s i ∧ nvr tp s i ≤ 1000000 ∧ nvl tp s i = min 10000 (nvr tp s i) := by
  intro i
  induction i with
  | zero => intro _; exact ⟨show (0 : Int) ≤ 0 by decide, show (0 : Int) ≤ 1000000 by decide, rfl⟩
  | succ i ih =>
    intro hi
    obtain ⟨a, b, c⟩ := ih (by omega)
    have d := h (s + i) (by omega) (by omega)
    unfold dgt at d
    unfold nvr nvl
    rw [c]
    split
    · exact ⟨a, b, by omega⟩
    · exact ⟨by omega, by omega, by omega⟩
theorem tkD.nn {tp : Int → Int} {l s e c v : Int} (t : tkD tp l s e c v) : 0 ≤ v := by
  obtain ⟨a, b, d⟩ := t
  have q := nvl_r (tp := tp) (s := s) (m := (e - s).toNat) (fun j x y => a.2.1 j x (by omega)) (e - s).toNat (Nat.le_refl _)
  rw [d, q.2.2]
  omega
theorem tS.tkn {G : Hp} {N : Int} {en : Int → Int} (t : tS G N en) : tkn G N := by
  obtain ⟨a, b, c, d⟩ := t
  refine ⟨a.1, b.1, fun k k0 k1 => ?_⟩
  by_cases e : k = N - 1
  · rw [e, b.2.2.2]
    decide
  · rcases (c k k0 (by omega)).1 with q | q | q
    · rw [q.2.2.2]
      decide
    · exact q.nn
    · rw [q.1.2.2.2.2]
      decide
/-- what the reference reckons of a word tells the word -/
theorem whs_r {tp : Int → Int} {s : Int} {m : Nat} (h : ∀ j, s ≤ j → j < s + m → ltr (tp j)) : ∀ i : Nat, i ≤ m → (0 ≤ whs tp s i ∧ whs tp s i ≤ 1152921504606846976) ∧ (i = 0 → whs tp s i = 0) ∧ (i = 1 → 65 ≤ whs tp s i ∧ whs tp s i < 256) ∧ (i = 2 → 16640 ≤ whs tp s i ∧ whs tp s i < 65536) ∧ (i = 3 → 4259840 ≤ whs tp s i ∧ whs tp s i < 16777216) ∧ (i = 4 → 1090519040 ≤ whs tp s i ∧ whs tp s i < 4294967296) ∧ (i = 5 → 279172874240 ≤ whs tp s i ∧ whs tp s i < 1099511627776) ∧ (i = 6 → 71468255805440 ≤ whs tp s i ∧ whs tp s i < 281474976710656) ∧ (7 ≤ i → 281474976710656 ≤ whs tp s i) := by
  intro i
  induction i with
  | zero => intro _; refine ⟨⟨show (0 : Int) ≤ 0 by decide, show (0 : Int) ≤ 1152921504606846976 by decide⟩, fun _ => rfl, ?_, ?_, ?_, ?_, ?_, ?_, ?_⟩ <;> intro z <;> omega
  | succ i ih =>
    intro hi
    obtain ⟨a, a0, a1, a2, a3, a4, a5, a6, a7⟩ := ih (by omega)
    have d := h (s + i) (by omega) (by omega)
    unfold ltr at d
    unfold whs
    split
    · rename_i c
      have i7 : 7 ≤ i := by
        by_cases z : 7 ≤ i
        · exact z
        · have : whs tp s i < 281474976710656 := by
            have : i = 0 ∨ i = 1 ∨ i = 2 ∨ i = 3 ∨ i = 4 ∨ i = 5 ∨ i = 6 := by omega
            omega
          omega
      refine ⟨by omega, ?_, ?_, ?_, ?_, ?_, ?_, ?_, ?_⟩ <;> intro z <;> omega
    · rename_i c
      have : whs tp s i < 281474976710656 := by omega
      refine ⟨by omega, ?_, ?_, ?_, ?_, ?_, ?_, ?_, ?_⟩ <;> intro z <;> omega
theorem whs_s {tp : Int → Int} {s : Int} {m : Nat} (h : ∀ j, s ≤ j → j < s + m → ltr (tp j)) {i : Nat} (hi : i + 1 ≤ m) (h6 : i ≤ 6) : whs tp s (i + 1) = whs tp s i * 256 + tp (s + i) := by
  have q := whs_r h i (by omega)
  show (if whs tp s i / 281474976710656 ≠ 0 then 1152921504606846976 else whs tp s i * 256 + tp (s + i)) = _
  rw [if_neg]
  have : i = 0 ∨ i = 1 ∨ i = 2 ∨ i = 3 ∨ i = 4 ∨ i = 5 ∨ i = 6 := by omega
  omega

theorem whs_2 {tp : Int → Int} {s : Int} {m : Nat} (h : ∀ j, s ≤ j → j < s + m → ltr (tp j)) {b0 b1 : Int} (e0 : 65 ≤ b0 ∧ b0 < 256) (e1 : 65 ≤ b1 ∧ b1 < 256) : whs tp s m = b0 * 256 + b1 * 1 ↔ (m = 2 ∧ tp (s + 0) = b0 ∧ tp (s + 1) = b1) := by
  have Q := whs_r h m (Nat.le_refl _)
  have M : m = 2 → whs tp s m = tp (s + 0) * 256 + tp (s + 1) * 1 ∧ (0 ≤ tp (s + 0) ∧ tp (s + 0) < 256) ∧ (0 ≤ tp (s + 1) ∧ tp (s + 1) < 256) := by
    intro e
    subst e
    have d0 := h (s + 0) (by omega) (by omega)
    have q0 : whs tp s 1 = whs tp s 0 * 256 + tp (s + 0) := whs_s h (i := 0) (by omega) (by omega)
    have d1 := h (s + 1) (by omega) (by omega)
    have q1 : whs tp s 2 = whs tp s 1 * 256 + tp (s + 1) := whs_s h (i := 1) (by omega) (by omega)
    unfold ltr at d0 d1
    have q : whs tp s 0 = 0 := rfl
    omega
  constructor
  · intro e
    have em : m = 2 := by
      have : m = 0 ∨ m = 1 ∨ m = 2 ∨ m = 3 ∨ m = 4 ∨ m = 5 ∨ m = 6 ∨ 7 ≤ m := by omega
      omega
    have q := M em
    omega
  · rintro ⟨em, f0, f1⟩
    have q := (M em).1
    rw [q, f0, f1]
theorem whs_3 {tp : Int → Int} {s : Int} {m : Nat} (h : ∀ j, s ≤ j → j < s + m → ltr (tp j)) {b0 b1 b2 : Int} (e0 : 65 ≤ b0 ∧ b0 < 256) (e1 : 65 ≤ b1 ∧ b1 < 256) (e2 : 65 ≤ b2 ∧ b2 < 256) : whs tp s m = b0 * 65536 + b1 * 256 + b2 * 1 ↔ (m = 3 ∧ tp (s + 0) = b0 ∧ tp (s + 1) = b1 ∧ tp (s + 2) = b2) := by
  have Q := whs_r h m (Nat.le_refl _)
  have M : m = 3 → whs tp s m = tp (s + 0) * 65536 + tp (s + 1) * 256 + tp (s + 2) * 1 ∧ (0 ≤ tp (s + 0) ∧ tp (s + 0) < 256) ∧ (0 ≤ tp (s + 1) ∧ tp (s + 1) < 256) ∧ (0 ≤ tp (s + 2) ∧ tp (s + 2) < 256) := by
    intro e
    subst e
    have d0 := h (s + 0) (by omega) (by omega)
    have q0 : whs tp s 1 = whs tp s 0 * 256 + tp (s + 0) := whs_s h (i := 0) (by omega) (by omega)
    have d1 := h (s + 1) (by omega) (by omega)
    have q1 : whs tp s 2 = whs tp s 1 * 256 + tp (s + 1) := whs_s h (i := 1) (by omega) (by omega)
    have d2 := h (s + 2) (by omega) (by omega)
    have q2 : whs tp s 3 = whs tp s 2 * 256 + tp (s + 2) := whs_s h (i := 2) (by omega) (by omega)
    unfold ltr at d0 d1 d2
    have q : whs tp s 0 = 0 := rfl
    omega
  constructor
  · intro e
    have em : m = 3 := by
      have : m = 0 ∨ m = 1 ∨ m = 2 ∨ m = 3 ∨ m = 4 ∨ m = 5 ∨ m = 6 ∨ 7 ≤ m := by omega
      omega
    have q := M em
    omega
  · rintro ⟨em, f0, f1, f2⟩
    have q := (M em).1
    rw [q, f0, f1, f2]
theorem whs_4 {tp : Int → Int} {s : Int} {m : Nat} (h : ∀ j, s ≤ j → j < s + m → ltr (tp j)) {b0 b1 b2 b3 : Int} (e0 : 65 ≤ b0 ∧ b0 < 256) (e1 : 65 ≤ b1 ∧ b1 < 256) (e2 : 65 ≤ b2 ∧ b2 < 256) (e3 : 65 ≤ b3 ∧ b3 < 256) : whs tp s m = b0 * 16777216 + b1 * 65536 + b2 * 256 + b3 * 1 ↔ (m = 4 ∧ tp (s + 0) = b0 ∧ tp (s + 1) = b1 ∧ tp (s + 2) = b2 ∧ tp (s + 3) = b3) := by
  have Q := whs_r h m (Nat.le_refl _)
  have M : m = 4 → whs tp s m = tp (s + 0) * 16777216 + tp (s + 1) * 65536 + tp (s + 2) * 256 + tp (s + 3) * 1 ∧ (0 ≤ tp (s + 0) ∧ tp (s + 0) < 256) ∧ (0 ≤ tp (s + 1) ∧ tp (s + 1) < 256) ∧ (0 ≤ tp (s + 2) ∧ tp (s + 2) < 256) ∧ (0 ≤ tp (s + 3) ∧ tp (s + 3) < 256) := by
    intro e
    subst e
    have d0 := h (s + 0) (by omega) (by omega)
    have q0 : whs tp s 1 = whs tp s 0 * 256 + tp (s + 0) := whs_s h (i := 0) (by omega) (by omega)
    have d1 := h (s + 1) (by omega) (by omega)
    have q1 : whs tp s 2 = whs tp s 1 * 256 + tp (s + 1) := whs_s h (i := 1) (by omega) (by omega)
    have d2 := h (s + 2) (by omega) (by omega)
    have q2 : whs tp s 3 = whs tp s 2 * 256 + tp (s + 2) := whs_s h (i := 2) (by omega) (by omega)
    have d3 := h (s + 3) (by omega) (by omega)
    have q3 : whs tp s 4 = whs tp s 3 * 256 + tp (s + 3) := whs_s h (i := 3) (by omega) (by omega)
    unfold ltr at d0 d1 d2 d3
    have q : whs tp s 0 = 0 := rfl
    omega
  constructor
  · intro e
    have em : m = 4 := by
      have : m = 0 ∨ m = 1 ∨ m = 2 ∨ m = 3 ∨ m = 4 ∨ m = 5 ∨ m = 6 ∨ 7 ≤ m := by omega
      omega
    have q := M em
    omega
  · rintro ⟨em, f0, f1, f2, f3⟩
    have q := (M em).1
    rw [q, f0, f1, f2, f3]
theorem whs_5 {tp : Int → Int} {s : Int} {m : Nat} (h : ∀ j, s ≤ j → j < s + m → ltr (tp j)) {b0 b1 b2 b3 b4 : Int} (e0 : 65 ≤ b0 ∧ b0 < 256) (e1 : 65 ≤ b1 ∧ b1 < 256) (e2 : 65 ≤ b2 ∧ b2 < 256) (e3 : 65 ≤ b3 ∧ b3 < 256) (e4 : 65 ≤ b4 ∧ b4 < 256) : whs tp s m = b0 * 4294967296 + b1 * 16777216 + b2 * 65536 + b3 * 256 + b4 * 1 ↔ (m = 5 ∧ tp (s + 0) = b0 ∧ tp (s + 1) = b1 ∧ tp (s + 2) = b2 ∧ tp (s + 3) = b3 ∧ tp (s + 4) = b4) := by
  have Q := whs_r h m (Nat.le_refl _)
  have M : m = 5 → whs tp s m = tp (s + 0) * 4294967296 + tp (s + 1) * 16777216 + tp (s + 2) * 65536 + tp (s + 3) * 256 + tp (s + 4) * 1 ∧ (0 ≤ tp (s + 0) ∧ tp (s + 0) < 256) ∧ (0 ≤ tp (s + 1) ∧ tp (s + 1) < 256) ∧ (0 ≤ tp (s + 2) ∧ tp (s + 2) < 256) ∧ (0 ≤ tp (s + 3) ∧ tp (s + 3) < 256) ∧ (0 ≤ tp (s + 4) ∧ tp (s + 4) < 256) := by
    intro e
    subst e
    have d0 := h (s + 0) (by omega) (by omega)
    have q0 : whs tp s 1 = whs tp s 0 * 256 + tp (s + 0) := whs_s h (i := 0) (by omega) (by omega)
    have d1 := h (s + 1) (by omega) (by omega)
    have q1 : whs tp s 2 = whs tp s 1 * 256 + tp (s + 1) := whs_s h (i := 1) (by omega) (by omega)
    have d2 := h (s + 2) (by omega) (by omega)
    have q2 : whs tp s 3 = whs tp s 2 * 256 + tp (s + 2) := whs_s h (i := 2) (by omega) (by omega)
    have d3 := h (s + 3) (by omega) (by omega)
    have q3 : whs tp s 4 = whs tp s 3 * 256 + tp (s + 3) := whs_s h (i := 3) (by omega) (by omega)
    have d4 := h (s + 4) (by omega) (by omega)
    have q4 : whs tp s 5 = whs tp s 4 * 256 + tp (s + 4) := whs_s h (i := 4) (by omega) (by omega)
    unfold ltr at d0 d1 d2 d3 d4
    have q : whs tp s 0 = 0 := rfl
    omega
  constructor
  · intro e
    have em : m = 5 := by
      have : m = 0 ∨ m = 1 ∨ m = 2 ∨ m = 3 ∨ m = 4 ∨ m = 5 ∨ m = 6 ∨ 7 ≤ m := by omega
      omega
    have q := M em
    omega
  · rintro ⟨em, f0, f1, f2, f3, f4⟩
    have q := (M em).1
    rw [q, f0, f1, f2, f3, f4]
theorem whs_6 {tp : Int → Int} {s : Int} {m : Nat} (h : ∀ j, s ≤ j → j < s + m → ltr (tp j)) {b0 b1 b2 b3 b4 b5 : Int} (e0 : 65 ≤ b0 ∧ b0 < 256) (e1 : 65 ≤ b1 ∧ b1 < 256) (e2 : 65 ≤ b2 ∧ b2 < 256) (e3 : 65 ≤ b3 ∧ b3 < 256) (e4 : 65 ≤ b4 ∧ b4 < 256) (e5 : 65 ≤ b5 ∧ b5 < 256) : whs tp s m = b0 * 1099511627776 + b1 * 4294967296 + b2 * 16777216 + b3 * 65536 + b4 * 256 + b5 * 1 ↔ (m = 6 ∧ tp (s + 0) = b0 ∧ tp (s + 1) = b1 ∧ tp (s + 2) = b2 ∧ tp (s + 3) = b3 ∧ tp (s + 4) = b4 ∧ tp (s + 5) = b5) := by
  have Q := whs_r h m (Nat.le_refl _)
  have M : m = 6 → whs tp s m = tp (s + 0) * 1099511627776 + tp (s + 1) * 4294967296 + tp (s + 2) * 16777216 + tp (s + 3) * 65536 + tp (s + 4) * 256 + tp (s + 5) * 1 ∧ (0 ≤ tp (s + 0) ∧ tp (s + 0) < 256) ∧ (0 ≤ tp (s + 1) ∧ tp (s + 1) < 256) ∧ (0 ≤ tp (s + 2) ∧ tp (s + 2) < 256) ∧ (0 ≤ tp (s + 3) ∧ tp (s + 3) < 256) ∧ (0 ≤ tp (s + 4) ∧ tp (s + 4) < 256) ∧ (0 ≤ tp (s + 5) ∧ tp (s + 5) < 256) := by
    intro e
    subst e
    have d0 := h (s + 0) (by omega) (by omega)
    have q0 : whs tp s 1 = whs tp s 0 * 256 + tp (s + 0) := whs_s h (i := 0) (by omega) (by omega)
    have d1 := h (s + 1) (by omega) (by omega)
    have q1 : whs tp s 2 = whs tp s 1 * 256 + tp (s + 1) := whs_s h (i := 1) (by omega) (by omega)
    have d2 := h (s + 2) (by omega) (by omega)
    have q2 : whs tp s 3 = whs tp s 2 * 256 + tp (s + 2) := whs_s h (i := 2) (by omega) (by omega)
    have d3 := h (s + 3) (by omega) (by omega)
    have q3 : whs tp s 4 = whs tp s 3 * 256 + tp (s + 3) := whs_s h (i := 3) (by omega) (by omega)
    have d4 := h (s + 4) (by omega) (by omega)
    have q4 : whs tp s 5 = whs tp s 4 * 256 + tp (s + 4) := whs_s h (i := 4) (by omega) (by omega)
    have d5 := h (s + 5) (by omega) (by omega)
    have q5 : whs tp s 6 = whs tp s 5 * 256 + tp (s + 5) := whs_s h (i := 5) (by omega) (by omega)
    unfold ltr at d0 d1 d2 d3 d4 d5
    have q : whs tp s 0 = 0 := rfl
    omega
  constructor
  · intro e
    have em : m = 6 := by
      have : m = 0 ∨ m = 1 ∨ m = 2 ∨ m = 3 ∨ m = 4 ∨ m = 5 ∨ m = 6 ∨ 7 ≤ m := by omega
      omega
    have q := M em
    omega
  · rintro ⟨em, f0, f1, f2, f3, f4, f5⟩
    have q := (M em).1
    rw [q, f0, f1, f2, f3, f4, f5]
theorem wis_0 {tp : Int → Int} {s e : Int} (hse : s < e) (h : ∀ j, s ≤ j → j < s + (e - s).toNat → ltr (tp j)) : whs tp s (e - s).toNat = 431416239475 ↔ wis 0 tp s e := by
  have q := whs_5 h (b0 := 100) (b1 := 114) (b2 := 105) (b3 := 101) (b4 := 115) (by decide) (by decide) (by decide) (by decide) (by decide)
  rw [show (431416239475 : Int) = 100 * 4294967296 + 114 * 16777216 + 105 * 65536 + 101 * 256 + 115 * 1 by decide, q]
  constructor
  · rintro ⟨em, f0, f1, f2, f3, f4⟩
    refine ⟨show e - s = ((5 : Nat) : Int) by omega, fun j hj => ?_⟩
    have hj2 : j < 5 := hj
    have : j = 0 ∨ j = 1 ∨ j = 2 ∨ j = 3 ∨ j = 4 := by omega
    rcases this with z | z | z | z | z <;> subst z
    · exact f0
    · exact f1
    · exact f2
    · exact f3
    · exact f4
  · intro z
    have z1 : e - s = ((5 : Nat) : Int) := z.1
    exact ⟨by omega, z.2 0 (by decide), z.2 1 (by decide), z.2 2 (by decide), z.2 3 (by decide), z.2 4 (by decide)⟩
theorem wis_1 {tp : Int → Int} {s e : Int} (hse : s < e) (h : ∀ j, s ≤ j → j < s + (e - s).toNat → ltr (tp j)) : whs tp s (e - s).toNat = 1701999219 ↔ wis 1 tp s e := by
  have q := whs_4 h (b0 := 101) (b1 := 114) (b2 := 114) (b3 := 115) (by decide) (by decide) (by decide) (by decide)
  rw [show (1701999219 : Int) = 101 * 16777216 + 114 * 65536 + 114 * 256 + 115 * 1 by decide, q]
  constructor
  · rintro ⟨em, f0, f1, f2, f3⟩
    refine ⟨show e - s = ((4 : Nat) : Int) by omega, fun j hj => ?_⟩
    have hj2 : j < 4 := hj
    have : j = 0 ∨ j = 1 ∨ j = 2 ∨ j = 3 := by omega
    rcases this with z | z | z | z <;> subst z
    · exact f0
    · exact f1
    · exact f2
    · exact f3
  · intro z
    have z1 : e - s = ((4 : Nat) : Int) := z.1
    exact ⟨by omega, z.2 0 (by decide), z.2 1 (by decide), z.2 2 (by decide), z.2 3 (by decide)⟩
theorem wis_2 {tp : Int → Int} {s e : Int} (hse : s < e) (h : ∀ j, s ≤ j → j < s + (e - s).toNat → ltr (tp j)) : whs tp s (e - s).toNat = 1718185573 ↔ wis 2 tp s e := by
  have q := whs_4 h (b0 := 102) (b1 := 105) (b2 := 110) (b3 := 101) (by decide) (by decide) (by decide) (by decide)
  rw [show (1718185573 : Int) = 102 * 16777216 + 105 * 65536 + 110 * 256 + 101 * 1 by decide, q]
  constructor
  · rintro ⟨em, f0, f1, f2, f3⟩
    refine ⟨show e - s = ((4 : Nat) : Int) by omega, fun j hj => ?_⟩
    have hj2 : j < 4 := hj
    have : j = 0 ∨ j = 1 ∨ j = 2 ∨ j = 3 := by omega
    rcases this with z | z | z | z <;> subst z
    · exact f0
    · exact f1
    · exact f2
    · exact f3
  · intro z
    have z1 : e - s = ((4 : Nat) : Int) := z.1
    exact ⟨by omega, z.2 0 (by decide), z.2 1 (by decide), z.2 2 (by decide), z.2 3 (by decide)⟩
theorem wis_3 {tp : Int → Int} {s e : Int} (hse : s < e) (h : ∀ j, s ≤ j → j < s + (e - s).toNat → ltr (tp j)) : whs tp s (e - s).toNat = 7302757 ↔ wis 3 tp s e := by
  have q := whs_3 h (b0 := 111) (b1 := 110) (b2 := 101) (by decide) (by decide) (by decide)
  rw [show (7302757 : Int) = 111 * 65536 + 110 * 256 + 101 * 1 by decide, q]
  constructor
  · rintro ⟨em, f0, f1, f2⟩
    refine ⟨show e - s = ((3 : Nat) : Int) by omega, fun j hj => ?_⟩
    have hj2 : j < 3 := hj
    have : j = 0 ∨ j = 1 ∨ j = 2 := by omega
    rcases this with z | z | z <;> subst z
    · exact f0
    · exact f1
    · exact f2
  · intro z
    have z1 : e - s = ((3 : Nat) : Int) := z.1
    exact ⟨by omega, z.2 0 (by decide), z.2 1 (by decide), z.2 2 (by decide)⟩
theorem wis_4 {tp : Int → Int} {s e : Int} (hse : s < e) (h : ∀ j, s ≤ j → j < s + (e - s).toNat → ltr (tp j)) : whs tp s (e - s).toNat = 1651665261 ↔ wis 4 tp s e := by
  have q := whs_4 h (b0 := 98) (b1 := 114) (b2 := 105) (b3 := 109) (by decide) (by decide) (by decide) (by decide)
  rw [show (1651665261 : Int) = 98 * 16777216 + 114 * 65536 + 105 * 256 + 109 * 1 by decide, q]
  constructor
  · rintro ⟨em, f0, f1, f2, f3⟩
    refine ⟨show e - s = ((4 : Nat) : Int) by omega, fun j hj => ?_⟩
    have hj2 : j < 4 := hj
    have : j = 0 ∨ j = 1 ∨ j = 2 ∨ j = 3 := by omega
    rcases this with z | z | z | z <;> subst z
    · exact f0
    · exact f1
    · exact f2
    · exact f3
  · intro z
    have z1 : e - s = ((4 : Nat) : Int) := z.1
    exact ⟨by omega, z.2 0 (by decide), z.2 1 (by decide), z.2 2 (by decide), z.2 3 (by decide)⟩
theorem wis_6 {tp : Int → Int} {s e : Int} (hse : s < e) (h : ∀ j, s ≤ j → j < s + (e - s).toNat → ltr (tp j)) : whs tp s (e - s).toNat = 25711 ↔ wis 6 tp s e := by
  have q := whs_2 h (b0 := 100) (b1 := 111) (by decide) (by decide)
  rw [show (25711 : Int) = 100 * 256 + 111 * 1 by decide, q]
  constructor
  · rintro ⟨em, f0, f1⟩
    refine ⟨show e - s = ((2 : Nat) : Int) by omega, fun j hj => ?_⟩
    have hj2 : j < 2 := hj
    have : j = 0 ∨ j = 1 := by omega
    rcases this with z | z <;> subst z
    · exact f0
    · exact f1
  · intro z
    have z1 : e - s = ((2 : Nat) : Int) := z.1
    exact ⟨by omega, z.2 0 (by decide), z.2 1 (by decide)⟩
theorem wis_7 {tp : Int → Int} {s e : Int} (hse : s < e) (h : ∀ j, s ≤ j → j < s + (e - s).toNat → ltr (tp j)) : whs tp s (e - s).toNat = 2003133808 ↔ wis 7 tp s e := by
  have q := whs_4 h (b0 := 119) (b1 := 101) (b2 := 101) (b3 := 112) (by decide) (by decide) (by decide) (by decide)
  rw [show (2003133808 : Int) = 119 * 16777216 + 101 * 65536 + 101 * 256 + 112 * 1 by decide, q]
  constructor
  · rintro ⟨em, f0, f1, f2, f3⟩
    refine ⟨show e - s = ((4 : Nat) : Int) by omega, fun j hj => ?_⟩
    have hj2 : j < 4 := hj
    have : j = 0 ∨ j = 1 ∨ j = 2 ∨ j = 3 := by omega
    rcases this with z | z | z | z <;> subst z
    · exact f0
    · exact f1
    · exact f2
    · exact f3
  · intro z
    have z1 : e - s = ((4 : Nat) : Int) := z.1
    exact ⟨by omega, z.2 0 (by decide), z.2 1 (by decide), z.2 2 (by decide), z.2 3 (by decide)⟩
theorem wis_8 {tp : Int → Int} {s e : Int} (hse : s < e) (h : ∀ j, s ≤ j → j < s + (e - s).toNat → ltr (tp j)) : whs tp s (e - s).toNat = 2002875240 ↔ wis 8 tp s e := by
  have q := whs_4 h (b0 := 119) (b1 := 97) (b2 := 115) (b3 := 104) (by decide) (by decide) (by decide) (by decide)
  rw [show (2002875240 : Int) = 119 * 16777216 + 97 * 65536 + 115 * 256 + 104 * 1 by decide, q]
  constructor
  · rintro ⟨em, f0, f1, f2, f3⟩
    refine ⟨show e - s = ((4 : Nat) : Int) by omega, fun j hj => ?_⟩
    have hj2 : j < 4 := hj
    have : j = 0 ∨ j = 1 ∨ j = 2 ∨ j = 3 := by omega
    rcases this with z | z | z | z <;> subst z
    · exact f0
    · exact f1
    · exact f2
    · exact f3
  · intro z
    have z1 : e - s = ((4 : Nat) : Int) := z.1
    exact ⟨by omega, z.2 0 (by decide), z.2 1 (by decide), z.2 2 (by decide), z.2 3 (by decide)⟩
theorem wis_9 {tp : Int → Int} {s e : Int} (hse : s < e) (h : ∀ j, s ≤ j → j < s + (e - s).toNat → ltr (tp j)) : whs tp s (e - s).toNat = 1886352754 ↔ wis 9 tp s e := by
  have q := whs_4 h (b0 := 112) (b1 := 111) (b2 := 117) (b3 := 114) (by decide) (by decide) (by decide) (by decide)
  rw [show (1886352754 : Int) = 112 * 16777216 + 111 * 65536 + 117 * 256 + 114 * 1 by decide, q]
  constructor
  · rintro ⟨em, f0, f1, f2, f3⟩
    refine ⟨show e - s = ((4 : Nat) : Int) by omega, fun j hj => ?_⟩
    have hj2 : j < 4 := hj
    have : j = 0 ∨ j = 1 ∨ j = 2 ∨ j = 3 := by omega
    rcases this with z | z | z | z <;> subst z
    · exact f0
    · exact f1
    · exact f2
    · exact f3
  · intro z
    have z1 : e - s = ((4 : Nat) : Int) := z.1
    exact ⟨by omega, z.2 0 (by decide), z.2 1 (by decide), z.2 2 (by decide), z.2 3 (by decide)⟩
theorem wis_10 {tp : Int → Int} {s e : Int} (hse : s < e) (h : ∀ j, s ≤ j → j < s + (e - s).toNat → ltr (tp j)) : whs tp s (e - s).toNat = 1650814564 ↔ wis 10 tp s e := by
  have q := whs_4 h (b0 := 98) (b1 := 101) (b2 := 110) (b3 := 100) (by decide) (by decide) (by decide) (by decide)
  rw [show (1650814564 : Int) = 98 * 16777216 + 101 * 65536 + 110 * 256 + 100 * 1 by decide, q]
  constructor
  · rintro ⟨em, f0, f1, f2, f3⟩
    refine ⟨show e - s = ((4 : Nat) : Int) by omega, fun j hj => ?_⟩
    have hj2 : j < 4 := hj
    have : j = 0 ∨ j = 1 ∨ j = 2 ∨ j = 3 := by omega
    rcases this with z | z | z | z <;> subst z
    · exact f0
    · exact f1
    · exact f2
    · exact f3
  · intro z
    have z1 : e - s = ((4 : Nat) : Int) := z.1
    exact ⟨by omega, z.2 0 (by decide), z.2 1 (by decide), z.2 2 (by decide), z.2 3 (by decide)⟩
theorem wis_11 {tp : Int → Int} {s e : Int} (hse : s < e) (h : ∀ j, s ≤ j → j < s + (e - s).toNat → ltr (tp j)) : whs tp s (e - s).toNat = 126892433305195 ↔ wis 11 tp s e := by
  have q := whs_6 h (b0 := 115) (b1 := 104) (b2 := 114) (b3 := 105) (b4 := 110) (b5 := 107) (by decide) (by decide) (by decide) (by decide) (by decide) (by decide)
  rw [show (126892433305195 : Int) = 115 * 1099511627776 + 104 * 4294967296 + 114 * 16777216 + 105 * 65536 + 110 * 256 + 107 * 1 by decide, q]
  constructor
  · rintro ⟨em, f0, f1, f2, f3, f4, f5⟩
    refine ⟨show e - s = ((6 : Nat) : Int) by omega, fun j hj => ?_⟩
    have hj2 : j < 6 := hj
    have : j = 0 ∨ j = 1 ∨ j = 2 ∨ j = 3 ∨ j = 4 ∨ j = 5 := by omega
    rcases this with z | z | z | z | z | z <;> subst z
    · exact f0
    · exact f1
    · exact f2
    · exact f3
    · exact f4
    · exact f5
  · intro z
    have z1 : e - s = ((6 : Nat) : Int) := z.1
    exact ⟨by omega, z.2 0 (by decide), z.2 1 (by decide), z.2 2 (by decide), z.2 3 (by decide), z.2 4 (by decide), z.2 5 (by decide)⟩
theorem wis_12 {tp : Int → Int} {s e : Int} (hse : s < e) (h : ∀ j, s ≤ j → j < s + (e - s).toNat → ltr (tp j)) : whs tp s (e - s).toNat = 6578553 ↔ wis 12 tp s e := by
  have q := whs_3 h (b0 := 100) (b1 := 97) (b2 := 121) (by decide) (by decide) (by decide)
  rw [show (6578553 : Int) = 100 * 65536 + 97 * 256 + 121 * 1 by decide, q]
  constructor
  · rintro ⟨em, f0, f1, f2⟩
    refine ⟨show e - s = ((3 : Nat) : Int) by omega, fun j hj => ?_⟩
    have hj2 : j < 3 := hj
    have : j = 0 ∨ j = 1 ∨ j = 2 := by omega
    rcases this with z | z | z <;> subst z
    · exact f0
    · exact f1
    · exact f2
  · intro z
    have z1 : e - s = ((3 : Nat) : Int) := z.1
    exact ⟨by omega, z.2 0 (by decide), z.2 1 (by decide), z.2 2 (by decide)⟩
theorem wis_13 {tp : Int → Int} {s e : Int} (hse : s < e) (h : ∀ j, s ≤ j → j < s + (e - s).toNat → ltr (tp j)) : whs tp s (e - s).toNat = 7825519 ↔ wis 13 tp s e := by
  have q := whs_3 h (b0 := 119) (b1 := 104) (b2 := 111) (by decide) (by decide) (by decide)
  rw [show (7825519 : Int) = 119 * 65536 + 104 * 256 + 111 * 1 by decide, q]
  constructor
  · rintro ⟨em, f0, f1, f2⟩
    refine ⟨show e - s = ((3 : Nat) : Int) by omega, fun j hj => ?_⟩
    have hj2 : j < 3 := hj
    have : j = 0 ∨ j = 1 ∨ j = 2 := by omega
    rcases this with z | z | z <;> subst z
    · exact f0
    · exact f1
    · exact f2
  · intro z
    have z1 : e - s = ((3 : Nat) : Int) := z.1
    exact ⟨by omega, z.2 0 (by decide), z.2 1 (by decide), z.2 2 (by decide)⟩
theorem wis_14 {tp : Int → Int} {s e : Int} (hse : s < e) (h : ∀ j, s ≤ j → j < s + (e - s).toNat → ltr (tp j)) : whs tp s (e - s).toNat = 495875090022 ↔ wis 14 tp s e := by
  have q := whs_5 h (b0 := 115) (b1 := 116) (b2 := 117) (b3 := 102) (b4 := 102) (by decide) (by decide) (by decide) (by decide) (by decide)
  rw [show (495875090022 : Int) = 115 * 4294967296 + 116 * 16777216 + 117 * 65536 + 102 * 256 + 102 * 1 by decide, q]
  constructor
  · rintro ⟨em, f0, f1, f2, f3, f4⟩
    refine ⟨show e - s = ((5 : Nat) : Int) by omega, fun j hj => ?_⟩
    have hj2 : j < 5 := hj
    have : j = 0 ∨ j = 1 ∨ j = 2 ∨ j = 3 ∨ j = 4 := by omega
    rcases this with z | z | z | z | z <;> subst z
    · exact f0
    · exact f1
    · exact f2
    · exact f3
    · exact f4
  · intro z
    have z1 : e - s = ((5 : Nat) : Int) := z.1
    exact ⟨by omega, z.2 0 (by decide), z.2 1 (by decide), z.2 2 (by decide), z.2 3 (by decide), z.2 4 (by decide)⟩
theorem wis_15 {tp : Int → Int} {s e : Int} (hse : s < e) (h : ∀ j, s ≤ j → j < s + (e - s).toNat → ltr (tp j)) : whs tp s (e - s).toNat = 1684369012 ↔ wis 15 tp s e := by
  have q := whs_4 h (b0 := 100) (b1 := 101) (b2 := 110) (b3 := 116) (by decide) (by decide) (by decide) (by decide)
  rw [show (1684369012 : Int) = 100 * 16777216 + 101 * 65536 + 110 * 256 + 116 * 1 by decide, q]
  constructor
  · rintro ⟨em, f0, f1, f2, f3⟩
    refine ⟨show e - s = ((4 : Nat) : Int) by omega, fun j hj => ?_⟩
    have hj2 : j < 4 := hj
    have : j = 0 ∨ j = 1 ∨ j = 2 ∨ j = 3 := by omega
    rcases this with z | z | z | z <;> subst z
    · exact f0
    · exact f1
    · exact f2
    · exact f3
  · intro z
    have z1 : e - s = ((4 : Nat) : Int) := z.1
    exact ⟨by omega, z.2 0 (by decide), z.2 1 (by decide), z.2 2 (by decide), z.2 3 (by decide)⟩
theorem wis_16 {tp : Int → Int} {s e : Int} (hse : s < e) (h : ∀ j, s ≤ j → j < s + (e - s).toNat → ltr (tp j)) : whs tp s (e - s).toNat = 1919905645 ↔ wis 16 tp s e := by
  have q := whs_4 h (b0 := 114) (b1 := 111) (b2 := 111) (b3 := 109) (by decide) (by decide) (by decide) (by decide)
  rw [show (1919905645 : Int) = 114 * 16777216 + 111 * 65536 + 111 * 256 + 109 * 1 by decide, q]
  constructor
  · rintro ⟨em, f0, f1, f2, f3⟩
    refine ⟨show e - s = ((4 : Nat) : Int) by omega, fun j hj => ?_⟩
    have hj2 : j < 4 := hj
    have : j = 0 ∨ j = 1 ∨ j = 2 ∨ j = 3 := by omega
    rcases this with z | z | z | z <;> subst z
    · exact f0
    · exact f1
    · exact f2
    · exact f3
  · intro z
    have z1 : e - s = ((4 : Nat) : Int) := z.1
    exact ⟨by omega, z.2 0 (by decide), z.2 1 (by decide), z.2 2 (by decide), z.2 3 (by decide)⟩
theorem wis_17 {tp : Int → Int} {s e : Int} (hse : s < e) (h : ∀ j, s ≤ j → j < s + (e - s).toNat → ltr (tp j)) : whs tp s (e - s).toNat = 1802071652 ↔ wis 17 tp s e := by
  have q := whs_4 h (b0 := 107) (b1 := 105) (b2 := 110) (b3 := 100) (by decide) (by decide) (by decide) (by decide)
  rw [show (1802071652 : Int) = 107 * 16777216 + 105 * 65536 + 110 * 256 + 100 * 1 by decide, q]
  constructor
  · rintro ⟨em, f0, f1, f2, f3⟩
    refine ⟨show e - s = ((4 : Nat) : Int) by omega, fun j hj => ?_⟩
    have hj2 : j < 4 := hj
    have : j = 0 ∨ j = 1 ∨ j = 2 ∨ j = 3 := by omega
    rcases this with z | z | z | z <;> subst z
    · exact f0
    · exact f1
    · exact f2
    · exact f3
  · intro z
    have z1 : e - s = ((4 : Nat) : Int) := z.1
    exact ⟨by omega, z.2 0 (by decide), z.2 1 (by decide), z.2 2 (by decide), z.2 3 (by decide)⟩
theorem wis_18 {tp : Int → Int} {s e : Int} (hse : s < e) (h : ∀ j, s ≤ j → j < s + (e - s).toNat → ltr (tp j)) : whs tp s (e - s).toNat = 431416635507 ↔ wis 18 tp s e := by
  have q := whs_5 h (b0 := 100) (b1 := 114) (b2 := 111) (b3 := 112) (b4 := 115) (by decide) (by decide) (by decide) (by decide) (by decide)
  rw [show (431416635507 : Int) = 100 * 4294967296 + 114 * 16777216 + 111 * 65536 + 112 * 256 + 115 * 1 by decide, q]
  constructor
  · rintro ⟨em, f0, f1, f2, f3, f4⟩
    refine ⟨show e - s = ((5 : Nat) : Int) by omega, fun j hj => ?_⟩
    have hj2 : j < 5 := hj
    have : j = 0 ∨ j = 1 ∨ j = 2 ∨ j = 3 ∨ j = 4 := by omega
    rcases this with z | z | z | z | z <;> subst z
    · exact f0
    · exact f1
    · exact f2
    · exact f3
    · exact f4
  · intro z
    have z1 : e - s = ((5 : Nat) : Int) := z.1
    exact ⟨by omega, z.2 0 (by decide), z.2 1 (by decide), z.2 2 (by decide), z.2 3 (by decide), z.2 4 (by decide)⟩
theorem wis_19 {tp : Int → Int} {s e : Int} (hse : s < e) (h : ∀ j, s ≤ j → j < s + (e - s).toNat → ltr (tp j)) : whs tp s (e - s).toNat = 427070942835 ↔ wis 19 tp s e := by
  have q := whs_5 h (b0 := 99) (b1 := 111) (b2 := 105) (b3 := 110) (b4 := 115) (by decide) (by decide) (by decide) (by decide) (by decide)
  rw [show (427070942835 : Int) = 99 * 4294967296 + 111 * 16777216 + 105 * 65536 + 110 * 256 + 115 * 1 by decide, q]
  constructor
  · rintro ⟨em, f0, f1, f2, f3, f4⟩
    refine ⟨show e - s = ((5 : Nat) : Int) by omega, fun j hj => ?_⟩
    have hj2 : j < 5 := hj
    have : j = 0 ∨ j = 1 ∨ j = 2 ∨ j = 3 ∨ j = 4 := by omega
    rcases this with z | z | z | z | z <;> subst z
    · exact f0
    · exact f1
    · exact f2
    · exact f3
    · exact f4
  · intro z
    have z1 : e - s = ((5 : Nat) : Int) := z.1
    exact ⟨by omega, z.2 0 (by decide), z.2 1 (by decide), z.2 2 (by decide), z.2 3 (by decide), z.2 4 (by decide)⟩
theorem wis_20 {tp : Int → Int} {s e : Int} (hse : s < e) (h : ∀ j, s ≤ j → j < s + (e - s).toNat → ltr (tp j)) : whs tp s (e - s).toNat = 499917091443 ↔ wis 20 tp s e := by
  have q := whs_5 h (b0 := 116) (b1 := 101) (b2 := 97) (b3 := 114) (b4 := 115) (by decide) (by decide) (by decide) (by decide) (by decide)
  rw [show (499917091443 : Int) = 116 * 4294967296 + 101 * 16777216 + 97 * 65536 + 114 * 256 + 115 * 1 by decide, q]
  constructor
  · rintro ⟨em, f0, f1, f2, f3, f4⟩
    refine ⟨show e - s = ((5 : Nat) : Int) by omega, fun j hj => ?_⟩
    have hj2 : j < 5 := hj
    have : j = 0 ∨ j = 1 ∨ j = 2 ∨ j = 3 ∨ j = 4 := by omega
    rcases this with z | z | z | z | z <;> subst z
    · exact f0
    · exact f1
    · exact f2
    · exact f3
    · exact f4
  · intro z
    have z1 : e - s = ((5 : Nat) : Int) := z.1
    exact ⟨by omega, z.2 0 (by decide), z.2 1 (by decide), z.2 2 (by decide), z.2 3 (by decide), z.2 4 (by decide)⟩
theorem wis_21 {tp : Int → Int} {s e : Int} (hse : s < e) (h : ∀ j, s ≤ j → j < s + (e - s).toNat → ltr (tp j)) : whs tp s (e - s).toNat = 28518 ↔ wis 21 tp s e := by
  have q := whs_2 h (b0 := 111) (b1 := 102) (by decide) (by decide)
  rw [show (28518 : Int) = 111 * 256 + 102 * 1 by decide, q]
  constructor
  · rintro ⟨em, f0, f1⟩
    refine ⟨show e - s = ((2 : Nat) : Int) by omega, fun j hj => ?_⟩
    have hj2 : j < 2 := hj
    have : j = 0 ∨ j = 1 := by omega
    rcases this with z | z <;> subst z
    · exact f0
    · exact f1
  · intro z
    have z1 : e - s = ((2 : Nat) : Int) := z.1
    exact ⟨by omega, z.2 0 (by decide), z.2 1 (by decide)⟩
theorem wis_22 {tp : Int → Int} {s e : Int} (hse : s < e) (h : ∀ j, s ≤ j → j < s + (e - s).toNat → ltr (tp j)) : whs tp s (e - s).toNat = 25209 ↔ wis 22 tp s e := by
  have q := whs_2 h (b0 := 98) (b1 := 121) (by decide) (by decide)
  rw [show (25209 : Int) = 98 * 256 + 121 * 1 by decide, q]
  constructor
  · rintro ⟨em, f0, f1⟩
    refine ⟨show e - s = ((2 : Nat) : Int) by omega, fun j hj => ?_⟩
    have hj2 : j < 2 := hj
    have : j = 0 ∨ j = 1 := by omega
    rcases this with z | z <;> subst z
    · exact f0
    · exact f1
  · intro z
    have z1 : e - s = ((2 : Nat) : Int) := z.1
    exact ⟨by omega, z.2 0 (by decide), z.2 1 (by decide)⟩
theorem wis_23 {tp : Int → Int} {s e : Int} (hse : s < e) (h : ∀ j, s ≤ j → j < s + (e - s).toNat → ltr (tp j)) : whs tp s (e - s).toNat = 418263299685 ↔ wis 23 tp s e := by
  have q := whs_5 h (b0 := 97) (b1 := 98) (b2 := 111) (b3 := 118) (b4 := 101) (by decide) (by decide) (by decide) (by decide) (by decide)
  rw [show (418263299685 : Int) = 97 * 4294967296 + 98 * 16777216 + 111 * 65536 + 118 * 256 + 101 * 1 by decide, q]
  constructor
  · rintro ⟨em, f0, f1, f2, f3, f4⟩
    refine ⟨show e - s = ((5 : Nat) : Int) by omega, fun j hj => ?_⟩
    have hj2 : j < 5 := hj
    have : j = 0 ∨ j = 1 ∨ j = 2 ∨ j = 3 ∨ j = 4 := by omega
    rcases this with z | z | z | z | z <;> subst z
    · exact f0
    · exact f1
    · exact f2
    · exact f3
    · exact f4
  · intro z
    have z1 : e - s = ((5 : Nat) : Int) := z.1
    exact ⟨by omega, z.2 0 (by decide), z.2 1 (by decide), z.2 2 (by decide), z.2 3 (by decide), z.2 4 (by decide)⟩
theorem wis_24 {tp : Int → Int} {s e : Int} (hse : s < e) (h : ∀ j, s ≤ j → j < s + (e - s).toNat → ltr (tp j)) : whs tp s (e - s).toNat = 422826306931 ↔ wis 24 tp s e := by
  have q := whs_5 h (b0 := 98) (b1 := 114) (b2 := 105) (b3 := 109) (b4 := 115) (by decide) (by decide) (by decide) (by decide) (by decide)
  rw [show (422826306931 : Int) = 98 * 4294967296 + 114 * 16777216 + 105 * 65536 + 109 * 256 + 115 * 1 by decide, q]
  constructor
  · rintro ⟨em, f0, f1, f2, f3, f4⟩
    refine ⟨show e - s = ((5 : Nat) : Int) by omega, fun j hj => ?_⟩
    have hj2 : j < 5 := hj
    have : j = 0 ∨ j = 1 ∨ j = 2 ∨ j = 3 ∨ j = 4 := by omega
    rcases this with z | z | z | z | z <;> subst z
    · exact f0
    · exact f1
    · exact f2
    · exact f3
    · exact f4
  · intro z
    have z1 : e - s = ((5 : Nat) : Int) := z.1
    exact ⟨by omega, z.2 0 (by decide), z.2 1 (by decide), z.2 2 (by decide), z.2 3 (by decide), z.2 4 (by decide)⟩
theorem wis_25 {tp : Int → Int} {s e : Int} (hse : s < e) (h : ∀ j, s ≤ j → j < s + (e - s).toNat → ltr (tp j)) : whs tp s (e - s).toNat = 26982 ↔ wis 25 tp s e := by
  have q := whs_2 h (b0 := 105) (b1 := 102) (by decide) (by decide)
  rw [show (26982 : Int) = 105 * 256 + 102 * 1 by decide, q]
  constructor
  · rintro ⟨em, f0, f1⟩
    refine ⟨show e - s = ((2 : Nat) : Int) by omega, fun j hj => ?_⟩
    have hj2 : j < 2 := hj
    have : j = 0 ∨ j = 1 := by omega
    rcases this with z | z <;> subst z
    · exact f0
    · exact f1
  · intro z
    have z1 : e - s = ((2 : Nat) : Int) := z.1
    exact ⟨by omega, z.2 0 (by decide), z.2 1 (by decide)⟩
theorem wis_26 {tp : Int → Int} {s e : Int} (hse : s < e) (h : ∀ j, s ≤ j → j < s + (e - s).toNat → ltr (tp j)) : whs tp s (e - s).toNat = 1952998766 ↔ wis 26 tp s e := by
  have q := whs_4 h (b0 := 116) (b1 := 104) (b2 := 101) (b3 := 110) (by decide) (by decide) (by decide) (by decide)
  rw [show (1952998766 : Int) = 116 * 16777216 + 104 * 65536 + 101 * 256 + 110 * 1 by decide, q]
  constructor
  · rintro ⟨em, f0, f1, f2, f3⟩
    refine ⟨show e - s = ((4 : Nat) : Int) by omega, fun j hj => ?_⟩
    have hj2 : j < 4 := hj
    have : j = 0 ∨ j = 1 ∨ j = 2 ∨ j = 3 := by omega
    rcases this with z | z | z | z <;> subst z
    · exact f0
    · exact f1
    · exact f2
    · exact f3
  · intro z
    have z1 : e - s = ((4 : Nat) : Int) := z.1
    exact ⟨by omega, z.2 0 (by decide), z.2 1 (by decide), z.2 2 (by decide), z.2 3 (by decide)⟩
theorem wis_27 {tp : Int → Int} {s e : Int} (hse : s < e) (h : ∀ j, s ≤ j → j < s + (e - s).toNat → ltr (tp j)) : whs tp s (e - s).toNat = 1701606245 ↔ wis 27 tp s e := by
  have q := whs_4 h (b0 := 101) (b1 := 108) (b2 := 115) (b3 := 101) (by decide) (by decide) (by decide) (by decide)
  rw [show (1701606245 : Int) = 101 * 16777216 + 108 * 65536 + 115 * 256 + 101 * 1 by decide, q]
  constructor
  · rintro ⟨em, f0, f1, f2, f3⟩
    refine ⟨show e - s = ((4 : Nat) : Int) by omega, fun j hj => ?_⟩
    have hj2 : j < 4 := hj
    have : j = 0 ∨ j = 1 ∨ j = 2 ∨ j = 3 := by omega
    rcases this with z | z | z | z <;> subst z
    · exact f0
    · exact f1
    · exact f2
    · exact f3
  · intro z
    have z1 : e - s = ((4 : Nat) : Int) := z.1
    exact ⟨by omega, z.2 0 (by decide), z.2 1 (by decide), z.2 2 (by decide), z.2 3 (by decide)⟩
theorem wis_28 {tp : Int → Int} {s e : Int} (hse : s < e) (h : ∀ j, s ≤ j → j < s + (e - s).toNat → ltr (tp j)) : whs tp s (e - s).toNat = 6647396 ↔ wis 28 tp s e := by
  have q := whs_3 h (b0 := 101) (b1 := 110) (b2 := 100) (by decide) (by decide) (by decide)
  rw [show (6647396 : Int) = 101 * 65536 + 110 * 256 + 100 * 1 by decide, q]
  constructor
  · rintro ⟨em, f0, f1, f2⟩
    refine ⟨show e - s = ((3 : Nat) : Int) by omega, fun j hj => ?_⟩
    have hj2 : j < 3 := hj
    have : j = 0 ∨ j = 1 ∨ j = 2 := by omega
    rcases this with z | z | z <;> subst z
    · exact f0
    · exact f1
    · exact f2
  · intro z
    have z1 : e - s = ((3 : Nat) : Int) := z.1
    exact ⟨by omega, z.2 0 (by decide), z.2 1 (by decide), z.2 2 (by decide)⟩
theorem wis_29 {tp : Int → Int} {s e : Int} (hse : s < e) (h : ∀ j, s ≤ j → j < s + (e - s).toNat → ltr (tp j)) : whs tp s (e - s).toNat = 28530 ↔ wis 29 tp s e := by
  have q := whs_2 h (b0 := 111) (b1 := 114) (by decide) (by decide)
  rw [show (28530 : Int) = 111 * 256 + 114 * 1 by decide, q]
  constructor
  · rintro ⟨em, f0, f1⟩
    refine ⟨show e - s = ((2 : Nat) : Int) by omega, fun j hj => ?_⟩
    have hj2 : j < 2 := hj
    have : j = 0 ∨ j = 1 := by omega
    rcases this with z | z <;> subst z
    · exact f0
    · exact f1
  · intro z
    have z1 : e - s = ((2 : Nat) : Int) := z.1
    exact ⟨by omega, z.2 0 (by decide), z.2 1 (by decide)⟩
theorem wis_30 {tp : Int → Int} {s e : Int} (hse : s < e) (h : ∀ j, s ≤ j → j < s + (e - s).toNat → ltr (tp j)) : whs tp s (e - s).toNat = 6385252 ↔ wis 30 tp s e := by
  have q := whs_3 h (b0 := 97) (b1 := 110) (b2 := 100) (by decide) (by decide) (by decide)
  rw [show (6385252 : Int) = 97 * 65536 + 110 * 256 + 100 * 1 by decide, q]
  constructor
  · rintro ⟨em, f0, f1, f2⟩
    refine ⟨show e - s = ((3 : Nat) : Int) by omega, fun j hj => ?_⟩
    have hj2 : j < 3 := hj
    have : j = 0 ∨ j = 1 ∨ j = 2 := by omega
    rcases this with z | z | z <;> subst z
    · exact f0
    · exact f1
    · exact f2
  · intro z
    have z1 : e - s = ((3 : Nat) : Int) := z.1
    exact ⟨by omega, z.2 0 (by decide), z.2 1 (by decide), z.2 2 (by decide)⟩
theorem wis_31 {tp : Int → Int} {s e : Int} (hse : s < e) (h : ∀ j, s ≤ j → j < s + (e - s).toNat → ltr (tp j)) : whs tp s (e - s).toNat = 7237492 ↔ wis 31 tp s e := by
  have q := whs_3 h (b0 := 110) (b1 := 111) (b2 := 116) (by decide) (by decide) (by decide)
  rw [show (7237492 : Int) = 110 * 65536 + 111 * 256 + 116 * 1 by decide, q]
  constructor
  · rintro ⟨em, f0, f1, f2⟩
    refine ⟨show e - s = ((3 : Nat) : Int) by omega, fun j hj => ?_⟩
    have hj2 : j < 3 := hj
    have : j = 0 ∨ j = 1 ∨ j = 2 := by omega
    rcases this with z | z | z <;> subst z
    · exact f0
    · exact f1
    · exact f2
  · intro z
    have z1 : e - s = ((3 : Nat) : Int) := z.1
    exact ⟨by omega, z.2 0 (by decide), z.2 1 (by decide), z.2 2 (by decide)⟩
theorem whs_w {tp : Int → Int} {s e : Int} (hse : s < e) (h : ∀ j, s ≤ j → j < s + (e - s).toNat → ltr (tp j)) (i : Nat) (hi : i < 32) (h5 : i ≠ 5) : whs tp s (e - s).toNat = Hw i ↔ wis i tp s e := by
  have c : i = 0 ∨ i = 1 ∨ i = 2 ∨ i = 3 ∨ i = 4 ∨ i = 6 ∨ i = 7 ∨ i = 8 ∨ i = 9 ∨ i = 10 ∨ i = 11 ∨ i = 12 ∨ i = 13 ∨ i = 14 ∨ i = 15 ∨ i = 16 ∨ i = 17 ∨ i = 18 ∨ i = 19 ∨ i = 20 ∨ i = 21 ∨ i = 22 ∨ i = 23 ∨ i = 24 ∨ i = 25 ∨ i = 26 ∨ i = 27 ∨ i = 28 ∨ i = 29 ∨ i = 30 ∨ i = 31 := by omega
  rcases c with c | c | c | c | c | c | c | c | c | c | c | c | c | c | c | c | c | c | c | c | c | c | c | c | c | c | c | c | c | c | c <;> subst c
  · exact wis_0 hse h
  · exact wis_1 hse h
  · exact wis_2 hse h
  · exact wis_3 hse h
  · exact wis_4 hse h
  · exact wis_6 hse h
  · exact wis_7 hse h
  · exact wis_8 hse h
  · exact wis_9 hse h
  · exact wis_10 hse h
  · exact wis_11 hse h
  · exact wis_12 hse h
  · exact wis_13 hse h
  · exact wis_14 hse h
  · exact wis_15 hse h
  · exact wis_16 hse h
  · exact wis_17 hse h
  · exact wis_18 hse h
  · exact wis_19 hse h
  · exact wis_20 hse h
  · exact wis_21 hse h
  · exact wis_22 hse h
  · exact wis_23 hse h
  · exact wis_24 hse h
  · exact wis_25 hse h
  · exact wis_26 hse h
  · exact wis_27 hse h
  · exact wis_28 hse h
  · exact wis_29 hse h
  · exact wis_30 hse h
  · exact wis_31 hse h
