/-! TEXTS: the reference's next token -/
theorem lShr48 {w : Int} (h : 0 ≤ w ∧ w < 9223372036854775808) : lShr w 48 = w / 281474976710656 := by
  unfold lShr
  have e : ∀ x : Int64, (x >>> ((Int32.ofInt 48).toInt64 &&& 63)).toInt = (BitVec.sshiftRight x.toBitVec 48).toInt := fun x => rfl
  rw [e, BitVec.toInt_sshiftRight, Int.shiftRight_eq_div_pow]
  have q : (Int64.ofInt w).toBitVec.toInt = w := i64 (by omega) (by omega)
  rw [q]
  rfl
theorem lOr8 {w b : Int} (h : 0 ≤ w ∧ w < 281474976710656) (hb : 0 ≤ b ∧ b < 256) : lOr (lShl w 8) b = w * 256 + b := by
  obtain ⟨n, rfl⟩ : ∃ n : Nat, w = n := ⟨w.toNat, by omega⟩
  obtain ⟨m, rfl⟩ : ∃ m : Nat, b = m := ⟨b.toNat, by omega⟩
  have e1 : lShl (n : Int) 8 = ((n * 256 : Nat) : Int) := by
    unfold lShl
    have e : ∀ x : Int64, (x <<< ((Int32.ofInt 8).toInt64 &&& 63)).toInt = (x.toBitVec <<< (8 : Nat)).toInt := fun x => rfl
    rw [e]
    have q : (Int64.ofInt (n : Int)).toBitVec = BitVec.ofNat 64 n := by
      show BitVec.ofInt 64 (n : Int) = _
      exact BitVec.ofInt_natCast 64 n
    rw [q, BitVec.toInt_eq_toNat_of_lt, BitVec.toNat_shiftLeft, BitVec.toNat_ofNat, Nat.shiftLeft_eq, Nat.mod_eq_of_lt (show n < 2 ^ 64 by omega), Nat.mod_eq_of_lt (show n * 2 ^ 8 < 2 ^ 64 by omega)]
    rw [BitVec.toNat_shiftLeft, BitVec.toNat_ofNat, Nat.shiftLeft_eq, Nat.mod_eq_of_lt (show n < 2 ^ 64 by omega), Nat.mod_eq_of_lt (show n * 2 ^ 8 < 2 ^ 64 by omega)]
    omega
  rw [e1]
  unfold lOr
  have q1 : (Int64.ofInt ((n * 256 : Nat) : Int)).toBitVec = BitVec.ofNat 64 (n * 256) := BitVec.ofInt_natCast 64 _
  have q2 : (Int64.ofInt ((m : Nat) : Int)).toBitVec = BitVec.ofNat 64 m := BitVec.ofInt_natCast 64 _
  show ((Int64.ofInt ((n * 256 : Nat) : Int)).toBitVec ||| (Int64.ofInt (m : Int)).toBitVec).toInt = _
  have o : n * 256 ||| m = n * 256 + m := by
    have z := Nat.shiftLeft_add_eq_or_of_lt (i := 8) (b := m) (by omega) n
    rw [Nat.shiftLeft_eq] at z
    exact z.symm
  rw [q1, q2, BitVec.toInt_eq_toNat_of_lt, BitVec.toNat_or, BitVec.toNat_ofNat, BitVec.toNat_ofNat, Nat.mod_eq_of_lt (show n * 256 < 2 ^ 64 by omega), Nat.mod_eq_of_lt (show m < 2 ^ 64 by omega), o]
  · omega
  · rw [BitVec.toNat_or, BitVec.toNat_ofNat, BitVec.toNat_ofNat, Nat.mod_eq_of_lt (show n * 256 < 2 ^ 64 by omega), Nat.mod_eq_of_lt (show m < 2 ^ 64 by omega), o]
    omega
def u84 (h h1 : Hp) : Prop := (∀ o, o ≠ 84 → h1 o = h o) ∧ ∀ j, (j < 7 ∨ 11 < j) → h1 84 j = h 84 j
theorem u84.rf {h : Hp} : u84 h h := ⟨fun _ _ => rfl, fun _ _ => rfl⟩
theorem u84.up {h h1 : Hp} {i v : Int} (u : u84 h h1) (hi : 7 ≤ i ∧ i ≤ 11) : u84 h (hup h1 84 i v) := ⟨fun o e => by rw [hup_o e]; exact u.1 o e, fun j e => by rw [hup_nj (by omega)]; exact u.2 j e⟩
section RT
variable {h : Hp} {Q : aPO} {D : Nat} {G : Hp} {N k : Int} {en : Int → Int}
theorem r_byte {p : Int} (h0 : 0 ≤ p) (hl : h 84 4 ≤ 300) (q : Q (vI (if p < h 84 4 then h 88 p else -1)) h) : Runs D 184 0 [vA 84, vI p] [] h Q := by
  refine Runs.go 20 [] ?_
  refine br.i (fun z => ?_) (fun z => ?_)
  · have z' : h 84 4 ≤ p := z
    rw [if_neg (by omega)] at q
    exact q
  · have z' : ¬ h 84 4 ≤ p := z
    rw [if_pos (by omega)] at q
    exact ⟨⟨h0, show p < (300 : Int) by omega⟩, q⟩
theorem r_isLet {c : Int} (q : Q (vI (b2i (ltr c))) h) : Runs D 185 0 [vI c] [] h Q := by
  refine Runs.go 20 [] ?_
  refine br.i (fun z1 => ?_) (fun z1 => br.i (fun z2 => ?_) (fun z2 => ?_))
  · refine br.i (fun z3 => ?_) (fun z3 => br.i (fun z4 => ?_) (fun z4 => ?_))
    · exact ⟨by omega, QI q (b2i_f (by omega)).symm⟩
    · exact ⟨by omega, QI q (b2i_f (by omega)).symm⟩
    · exact ⟨by omega, QI q (b2i_t (by omega)).symm⟩
  · exact ⟨by omega, QI q (b2i_t (by omega)).symm⟩
  · refine br.i (fun z3 => ?_) (fun z3 => br.i (fun z4 => ?_) (fun z4 => ?_))
    · exact ⟨by omega, QI q (b2i_f (by omega)).symm⟩
    · exact ⟨by omega, QI q (b2i_f (by omega)).symm⟩
    · exact ⟨by omega, QI q (b2i_t (by omega)).symm⟩
theorem r_isFig {c : Int} (q : Q (vI (b2i (dgt c))) h) : Runs D 186 0 [vI c] [] h Q := by
  refine Runs.go 20 [] ?_
  refine br.i (fun z1 => ?_) (fun z1 => br.i (fun z2 => ?_) (fun z2 => ?_))
  · exact ⟨by omega, QI q (b2i_f (by omega)).symm⟩
  · exact ⟨by omega, QI q (b2i_f (by omega)).symm⟩
  · exact ⟨by omega, QI q (b2i_t (by omega)).symm⟩
def isSg (c : Int) : Prop := c = 60 ∨ c = 62 ∨ c = 61 ∨ c = 35 ∨ c = 43 ∨ c = 45 ∨ c = 42 ∨ c = 47 ∨ c = 40 ∨ c = 41 ∨ c = 58 ∨ c = 59
theorem r_isSign {c : Int} (q1 : isSg c → Q (vI 1) h) (q2 : ¬ isSg c → Q (vI 0) h) : Runs D 187 0 [vI c] [] h Q := by
  unfold isSg at q1 q2
  refine Runs.go 20 [] ?_
  repeat' refine br.i (fun _ => ⟨by omega, ?_⟩) (fun _ => ?_)
  all_goals first
    | exact q1 (by omega)
    | exact q2 (by omega)
    | exact ⟨by omega, q1 (by omega)⟩
    | exact ⟨by omega, q2 (by omega)⟩
/-- the token's last place -/
theorem tokN {s e l : Int} {tp : Int → Int} (hG : h 88 = tp) (h4 : h 84 4 = l) (hl : l ≤ 300) (s0 : 0 ≤ s) (r : rnn dgt tp l s e) (e9 : h 84 9 = 1) (e7 : h 84 7 = s) (e10 : h 84 10 = 0)
    (q : ∀ h1, u84 h h1 → h1 84 7 = e → h1 84 8 = h 84 8 → h1 84 9 = 1 → h1 84 10 = nvr tp s (e - s).toNat → Q none h1) : ∀ u : AV, Runs (D + 1) 188 85 [vA 84, u] [] h Q := by
  intro u
  have hm : (((e - s).toNat : Nat) : Int) = e - s := by have := r.1; omega
  have L : ∀ (f i : Nat) (h1 : Hp), i + f = (e - s).toNat → u84 h h1 → h1 84 7 = s + i → h1 84 8 = h 84 8 → h1 84 9 = 1 → h1 84 10 = nvr tp s i → Runs (D + 1) 188 85 [vA 84, u] [] h1 Q := by
    intro f
    induction f with
    | zero =>
      intro i h1 hi a b c1 c2 c3
      have ei : (i : Int) = e - s := by omega
      have q4 : h1 84 4 = l := by rw [a.2 4 (by omega)]; exact h4
      have q8 : h1 88 = tp := by rw [a.1 88 (by decide)]; exact hG
      refine Runs.go 20 [] ?_
      refine r_byte (p := h1 84 7) (by omega) (by omega) ?_
      refine r_isFig ?_
      refine br.t (b2i_f ?_) ?_
      · rw [b, q4, q8, show s + (i : Int) = e by omega]
        split
        · exact r.2.2 (by assumption)
        · omega
      · refine q h1 a (by omega) c1 c2 ?_
        rw [c3]
        congr 1 <;> omega
    | succ f ih =>
      intro i h1 hi a b c1 c2 c3
      have q4 : h1 84 4 = l := by rw [a.2 4 (by omega)]; exact h4
      have q8 : h1 88 = tp := by rw [a.1 88 (by decide)]; exact hG
      have r1 := r.1
      have dg := r.2.1 (s + i) (by omega) (by omega)
      have nr := nvl_r (tp := tp) (s := s) (m := (e - s).toNat) (fun j x y => r.2.1 j x (by omega)) i (by omega)
      have eb : (if h1 84 7 < h1 84 4 then h1 88 (h1 84 7) else -1) = tp (s + i) := by rw [b, q4, q8, if_pos (by omega)]
      have J : ∀ (v : Int) (h2 : Hp), v = nvr tp s (i + 1) → h2 = hup h1 84 10 v → Runs (D + 1) 188 85 [vA 84, u] [] (hup h2 84 7 (h2 84 7 + 1)) Q := by
        intro v h2 ev eh
        subst eh
        refine ih (i + 1) _ (by omega) ((a.up (by decide)).up (by decide)) ?_ ?_ ?_ ?_
        · rw [hup_eq, hup_nj (by decide), b]
          omega
        · rw [hup_nj (by decide), hup_nj (by decide)]; exact c1
        · rw [hup_nj (by decide), hup_nj (by decide)]; exact c2
        · rw [hup_nj (by decide), hup_eq]; exact ev
      refine Runs.go 60 [85] ?_
      refine r_byte (p := h1 84 7) (by omega) (by omega) ?_
      rw [eb]
      refine r_isFig ?_
      refine br.f (by rw [b2i_t dg]; decide) ?_
      refine br.i (fun z => ?_) (fun z => ?_)
      · have z' : h1 84 10 ≤ 99999 := z
        refine ⟨by omega, ?_⟩
        refine r_byte (p := h1 84 7) (by omega) (by omega) ?_
        rw [eb]
        refine ⟨by omega, ⟨by omega, ⟨?_, J (10 * h1 84 10 + tp (s + i) - 48) _ ?_ rfl⟩⟩⟩
        · show -2147483648 ≤ (hup h1 84 10 (10 * h1 84 10 + tp (s + i) - 48)) 84 7 + 1 ∧ (hup h1 84 10 (10 * h1 84 10 + tp (s + i) - 48)) 84 7 + 1 < 2147483648
          rw [hup_nj (by decide)]
          omega
        · unfold nvr
          rw [if_neg (by omega), c3]
      · have z' : ¬ h1 84 10 ≤ 99999 := z
        refine ⟨?_, J (h1 84 10) _ ?_ rfl⟩
        · show -2147483648 ≤ (hup h1 84 10 (h1 84 10)) 84 7 + 1 ∧ (hup h1 84 10 (h1 84 10)) 84 7 + 1 < 2147483648
          rw [hup_nj (by decide)]
          omega
        · unfold nvr
          rw [if_pos (by omega), c3]
  exact L (e - s).toNat 0 h (by omega) u84.rf (by rw [e7]; omega) rfl e9 e10
theorem tokW {s e l : Int} {tp : Int → Int} (hG : h 88 = tp) (h4 : h 84 4 = l) (hl : l ≤ 300) (s0 : 0 ≤ s) (r : rnn ltr tp l s e) (e9 : h 84 9 = 2) (e7 : h 84 7 = s) (e11 : h 84 11 = 0)
    (q : ∀ h1, u84 h h1 → h1 84 7 = e → h1 84 8 = h 84 8 → h1 84 9 = 2 → h1 84 11 = whs tp s (e - s).toNat → Q none h1) : ∀ u : AV, Runs (D + 1) 188 168 [vA 84, u] [] h Q := by
  intro u
  have hm : (((e - s).toNat : Nat) : Int) = e - s := by have := r.1; omega
  have L : ∀ (f i : Nat) (h1 : Hp), i + f = (e - s).toNat → u84 h h1 → h1 84 7 = s + i → h1 84 8 = h 84 8 → h1 84 9 = 2 → h1 84 11 = whs tp s i → Runs (D + 1) 188 168 [vA 84, u] [] h1 Q := by
    intro f
    induction f with
    | zero =>
      intro i h1 hi a b c1 c2 c3
      have ei : (i : Int) = e - s := by omega
      have q4 : h1 84 4 = l := by rw [a.2 4 (by omega)]; exact h4
      have q8 : h1 88 = tp := by rw [a.1 88 (by decide)]; exact hG
      refine Runs.go 20 [] ?_
      refine r_byte (p := h1 84 7) (by omega) (by omega) ?_
      refine r_isLet ?_
      refine br.t (b2i_f ?_) ?_
      · rw [b, q4, q8, show s + (i : Int) = e by omega]
        split
        · exact r.2.2 (by assumption)
        · omega
      · refine q h1 a (by omega) c1 c2 ?_
        rw [c3]
        congr 1 <;> omega
    | succ f ih =>
      intro i h1 hi a b c1 c2 c3
      have q4 : h1 84 4 = l := by rw [a.2 4 (by omega)]; exact h4
      have q8 : h1 88 = tp := by rw [a.1 88 (by decide)]; exact hG
      have r1 := r.1
      have dg := r.2.1 (s + i) (by omega) (by omega)
      have nr := (whs_r (tp := tp) (s := s) (m := (e - s).toNat) (fun j x y => r.2.1 j x (by omega)) i (by omega)).1
      have eb : (if h1 84 7 < h1 84 4 then h1 88 (h1 84 7) else -1) = tp (s + i) := by rw [b, q4, q8, if_pos (by omega)]
      have J : ∀ (v : Int) (h2 : Hp), v = whs tp s (i + 1) → h2 = hup h1 84 11 v → Runs (D + 1) 188 168 [vA 84, u] [] (hup h2 84 7 (h2 84 7 + 1)) Q := by
        intro v h2 ev eh
        subst eh
        refine ih (i + 1) _ (by omega) ((a.up (by decide)).up (by decide)) ?_ ?_ ?_ ?_
        · rw [hup_eq, hup_nj (by decide), b]
          omega
        · rw [hup_nj (by decide), hup_nj (by decide)]; exact c1
        · rw [hup_nj (by decide), hup_nj (by decide)]; exact c2
        · rw [hup_nj (by decide), hup_eq]; exact ev
      have sh : lShr (h1 84 11) 48 = whs tp s i / 281474976710656 := by rw [c3]; exact lShr48 (by omega)
      refine Runs.go 60 [168] ?_
      refine r_byte (p := h1 84 7) (by omega) (by omega) ?_
      rw [eb]
      refine r_isLet ?_
      refine br.f (by rw [b2i_t dg]; decide) ?_
      refine br.j (fun z => ?_) (fun z => ?_)
      · have z' : ¬ lcI (lShr (h1 84 11) 48) 0 = 0 := z
        have z2 : whs tp s i / 281474976710656 ≠ 0 := by
          intro y
          rw [sh, y] at z'
          exact z' rfl
        refine ⟨?_, J 1152921504606846976 _ ?_ rfl⟩
        · show -2147483648 ≤ (hup h1 84 11 1152921504606846976) 84 7 + 1 ∧ (hup h1 84 11 1152921504606846976) 84 7 + 1 < 2147483648
          rw [hup_nj (by decide)]
          omega
        · unfold whs
          rw [if_pos z2]
      · have z' : lcI (lShr (h1 84 11) 48) 0 = 0 := z
        have z2 : ¬ whs tp s i / 281474976710656 ≠ 0 := by
          intro y
          rw [sh] at z'
          unfold lcI at z'
          rw [if_neg (by omega), if_neg (by omega)] at z'
          exact absurd z' (by decide)
        refine r_byte (p := h1 84 7) (by omega) (by omega) ?_
        rw [eb]
        refine ⟨?_, J (lOr (lShl (h1 84 11) 8) (tp (s + i))) _ ?_ rfl⟩
        · show -2147483648 ≤ (hup h1 84 11 (lOr (lShl (h1 84 11) 8) (tp (s + i)))) 84 7 + 1 ∧ (hup h1 84 11 (lOr (lShl (h1 84 11) 8) (tp (s + i)))) 84 7 + 1 < 2147483648
          rw [hup_nj (by decide)]
          omega
        · unfold whs
          rw [if_neg z2, c3]
          exact lOr8 (by omega) (by omega)
  exact L (e - s).toNat 0 h (by omega) u84.rf (by rw [e7]; omega) rfl e9 e11
end RT
