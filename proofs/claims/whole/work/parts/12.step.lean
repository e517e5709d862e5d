section STEP
variable {p : Program} {l : Launch} {e : Env} {R : Room} {s : State} {mid : MethodId} {args : Array Value} {below : List Frame} {meth : Method} {c : Code} {H : Heap} {locs : List Loc} {lsC : Array Slot} {ads : Nat → Nat} {cA : Nat → ClassId} {D : va_G} {QQ : State → Prop}
/-- String.length and String.charAt of the one text -/
theorem str_len (hx : p.tables.exec = Jvm.exec) {cc : ByteArray} (hb : c.code = cc) {nL : Nat} (hml : c.maxLocals = nL) (hlc : lsC.size = nL) (hown : s.vm.findClass "ThimbleLaw$Reader" = some mid.cls) (hts : ∀ w ∈ BIG, w.before args s = true) (hS : va_S (inA ads) s.heap H locs) (hX : SX ads s) (hR : 4 ≤ R.frames ∧ 200 ≤ R.locals) {pc : Nat} {rest : List Value} (hW : (rest.map fun v => v.category).sum ≤ 8) (hdg : decode cc pc = .ok (.invokevirtual 90, 3))
    (kk : ∀ locs1, va_S (inA ads) s.heap H locs1 → W p l e R s mid args below meth c H locs1 0 0 QQ (F0 mid (pc + 3) lsC (.int (Int32.ofInt 157) :: rest))) : W p l e R s mid args below meth c H locs 0 0 QQ (F0 mid pc lsC (.ref (ads 96) :: rest)) := by
  sorry
theorem str_chr (hx : p.tables.exec = Jvm.exec) {cc : ByteArray} (hb : c.code = cc) {nL : Nat} (hml : c.maxLocals = nL) (hlc : lsC.size = nL) (hown : s.vm.findClass "ThimbleLaw$Reader" = some mid.cls) (hts : ∀ w ∈ BIG, w.before args s = true) (hS : va_S (inA ads) s.heap H locs) (hX : SX ads s) (hR : 4 ≤ R.frames ∧ 200 ≤ R.locals) {pc : Nat} {rest : List Value} (hW : (rest.map fun v => v.category).sum ≤ 8) (hdg : decode cc pc = .ok (.invokevirtual 95, 3)) {i : Int} (h0 : 0 ≤ i) (h1 : i < 157)
    (kk : ∀ locs1, va_S (inA ads) s.heap H locs1 → W p l e R s mid args below meth c H locs1 0 0 QQ (F0 mid (pc + 3) lsC (.int (Int32.ofInt (nth 0 strB i.toNat)) :: rest))) : W p l e R s mid args below meth c H locs 0 0 QQ (F0 mid pc lsC (.int (Int32.ofInt i) :: .ref (ads 96) :: rest)) := by
  sorry
theorem i32clampC {i : Int} (h0 : 0 ≤ i) (h1 : i < 2147483648) : (((Int32.ofInt i).toNatClampNeg : Nat) : Int) = i := by
  rw [i32clamp h0 h1]; omega
theorem shN_lt {o : Nat} (ho : o < nOb) : shN o < 2147483648 := by
  rcases ckO o ho with h | h
  · have : ∀ c, c < 10 → clM c < 2147483648 := by decide +kernel
    rw [h.2]; exact this _ h.1
  · exact h.2.2
theorem upd_cel {h : Hp} {o : Nat} {i v : Int} (h0 : 0 ≤ i) (h1 : i < 2147483648) : (fun j : Nat => Int32.ofInt (hup h o i v o (j : Int))) = upd (fun j : Nat => Int32.ofInt (h o (j : Int))) (Int32.ofInt i).toNatClampNeg (Int32.ofInt v) := by
  funext j
  rw [i32clamp h0 h1]
  unfold hup upd
  by_cases hj : j = i.toNat
  · rw [if_pos ⟨rfl, by omega⟩, if_pos hj]
  · rw [if_neg (fun q => hj (by omega)), if_neg hj]
theorem updL_cel {h : Hp} {o : Nat} {i v : Int} (h0 : 0 ≤ i) (h1 : i < 2147483648) : (fun j : Nat => Int64.ofInt (hup h o i v o (j : Int))) = vp_updL (fun j : Nat => Int64.ofInt (h o (j : Int))) (Int32.ofInt i).toNatClampNeg (Int64.ofInt v) := by
  funext j
  rw [i32clamp h0 h1]
  unfold hup vp_updL
  by_cases hj : j = i.toNat
  · rw [if_pos ⟨rfl, by omega⟩, if_pos hj]
  · rw [if_neg (fun q => hj (by omega)), if_neg hj]
theorem cpy_cel {h : Hp} {o q : Nat} {sp dp n : Int} (h0 : 0 ≤ sp) (h1 : 0 ≤ dp) (h2 : 0 ≤ n) (b0 : sp < 2147483648) (b1 : dp < 2147483648) (b2 : n < 2147483648) : (fun j : Nat => Int32.ofInt (hcp h o sp q dp n q (j : Int))) = va_cpy (fun j : Nat => Int32.ofInt (h o (j : Int))) (fun j : Nat => Int32.ofInt (h q (j : Int))) (Int32.ofInt sp).toNatClampNeg (Int32.ofInt dp).toNatClampNeg (Int32.ofInt n).toNatClampNeg := by
  funext j
  rw [i32clamp h0 b0, i32clamp h1 b1, i32clamp h2 b2]
  unfold hcp va_cpy
  by_cases hj : dp.toNat ≤ j ∧ j < dp.toNat + n.toNat
  · rw [if_pos ⟨rfl, by omega, by omega⟩, if_pos hj]
    congr 2
    omega
  · rw [if_neg (fun z => hj (by omega)), if_neg hj]
theorem okh.cp {h : Hp} {o q : Nat} {sp dp n : Int} (hh : okh h) (ho : shK o = 100) (hq : shK q = 100) : okh (hcp h o sp q dp n) := by
  intro a j
  unfold hcp
  by_cases hc : a = q ∧ dp ≤ j ∧ j < dp + n
  · rw [if_pos hc]
    refine ⟨fun _ => (hh o _).1 ?_, (hh o _).2⟩
    unfold isLc; rw [ho]; rfl
  · rw [if_neg hc]; exact hh a j
theorem W.br {g g1 g2 : JFrame} {cc dd : Prop} (h1 : dd ↔ cc) {A B : Prop} (hc : br dd A B) : (cc → A) ∧ (¬ cc → B) := ⟨fun q => hc.1 (h1.mpr q), fun q => hc.2 (fun z => q (h1.mp z))⟩
end STEP
set_option maxHeartbeats 8000000 in
theorem shut_step (l : Launch) {ads : Nat → Nat} {cA : Nat → ClassId} {D : va_G} (hap : apA ads) (d m pc : Nat) (ls st : List AV) (h : Hp) (Q : aPO)
    (hs : semM (inCall (PW l ads cA D) d) (fun pc ls st h => PW l ads cA D d m pc ls st h Q) m pc ls st h Q) : PW l ads cA D d m pc ls st h Q := by
  intro p e R s mid args below meth c H locs lsC hm hC hR hK hN hX hls hst hh hl hP hS
  obtain ⟨hx, hb, hr, hml, hown, hts, hlocks⟩ := id hC
  unfold semM at hs
  split at hs
  case h_2 => exact hs.elim
  rename_i ins nxt a b hat
  obtain ⟨hd, hg⟩ := good_at hm hat
  have hD : va_D (inA ads) (wld ads cA h) := wldD hap
  have hsz : c.maxLocals = lsC.size := by rw [hml, hl.size]
  have G : ∀ {pc2 : Nat} {ls2 st2 : List AV} {h2 : Hp} {H2 : Heap} {locs2 : List Loc} {C2 : Array Slot}, PW l ads cA D d m pc2 ls2 st2 h2 Q → okl ls2 → okl st2 → okh h2 → LR ads C2 (mLo m) ls2 → va_P D fcs (wld ads cA h2) H2 → va_S (inA ads) s.heap H2 locs2 →
      W p l e R s mid args below meth c H2 locs2 0 0 (MQ below (QcM ads cA D Q) args s 0 0 (inA ads)) (F0 mid pc2 C2 (st2.map (cv ads))) :=
    fun q a1 a2 a3 a4 a5 a6 => q p e R s mid args below meth c _ _ _ hm hC hR hK hN hX a1 a2 a3 a4 a5 a6
  have hown2 : s.vm.findClass (ownN (mOw m)) = some mid.cls := by rw [gM_own hm]; exact hown
  have how : mOw m < 13 := (gM_lo hm).2.2
  cases ins
  all_goals first | exact hs.elim | skip
  all_goals dsimp only [semI] at hs
  all_goals dsimp only [goodI] at hg
  all_goals first | exact hs.elim | skip
  case iconst n =>
    simp only [decide_eq_true_eq] at hg
    obtain ⟨rfl, hg⟩ := hg
    rw [show pc + 1 - pc = 1 by omega] at hd
    exact lv_iconst hx hb hd rfl (G (st2 := vI n :: st) hs hls (okl.cons hg hst) hh hl hP hS)
  case bipush n =>
    simp only [decide_eq_true_eq] at hg
    obtain ⟨rfl, hg, hv⟩ := hg
    rw [show pc + 2 - pc = 2 by omega] at hd
    exact lv_bipush hx hb hd hv (G (st2 := vI n :: st) hs hls (okl.cons hg hst) hh hl hP hS)
  case sipush n =>
    simp only [decide_eq_true_eq] at hg
    obtain ⟨rfl, hg, hv⟩ := hg
    rw [show pc + 3 - pc = 3 by omega] at hd
    exact lv_sipush hx hb hd hv (G (st2 := vI n :: st) hs hls (okl.cons hg hst) hh hl hP hS)
  case lconst n =>
    simp only [decide_eq_true_eq] at hg
    subst hg
    rw [show pc + 1 - pc = 1 by omega] at hd
    have hn := n.isLt
    refine lv_lconst hx hb hd (v := Int64.ofInt (n.val : Int)) ?_ (G (st2 := vL (n.val : Int) :: st) hs hls (okl.cons (by show (-9223372036854775808 : Int) ≤ _ ∧ _; constructor <;> omega) hst) hh hl hP hS)
    exact (Int64.ofInt_eq_ofNat).symm
  case ldc i =>
    simp only [Bool.and_eq_true, decide_eq_true_eq] at hg
    obtain ⟨rfl, hg⟩ := hg
    rw [show pc + 2 - pc = 2 by omega] at hd
    split at hs
    · obtain ⟨h1, h2⟩ := kc_in hg
      exact lv_ldc hx hb hown2 (hts _ h1) hd (G (st2 := vI b :: st) hs hls (okl.cons h2 hst) hh hl hP hS)
    · rename_i hne
      have hg : mOw m = 5 ∧ i = 88 := by
        split at hg
        · exact absurd rfl hne
        · simpa using hg
      obtain ⟨h1, rfl⟩ := hg
      rw [h1] at hown2
      exact va_ldcS hx hb hown2 hX.1 hd (G (st2 := vA 96 :: st) hs hls (okl.cons trivial hst) hh hl hP hS)
  case ldc_w i =>
    simp only [Bool.and_eq_true, decide_eq_true_eq] at hg
    obtain ⟨rfl, hg⟩ := hg
    rw [show pc + 3 - pc = 3 by omega] at hd
    obtain ⟨h1, h2⟩ := kc_in hg
    exact lv_ldcw hx hb hown2 (hts _ h1) hd (G (st2 := vI b :: st) hs hls (okl.cons h2 hst) hh hl hP hS)
  case ldc2_w i =>
    simp only [Bool.and_eq_true, decide_eq_true_eq] at hg
    obtain ⟨rfl, hg⟩ := hg
    rw [show pc + 3 - pc = 3 by omega] at hd
    obtain ⟨h1, h2⟩ := kl_in hg
    exact lv_ldc2 hx hb hown2 (hts _ h1) hd (G (st2 := vL b :: st) hs hls (okl.cons h2 hst) hh hl hP hS)
  case iload_n k =>
    simp only [decide_eq_true_eq] at hg
    subst hg
    rw [show pc + 1 - pc = 1 by omega] at hd
    obtain ⟨x, ex, hs⟩ := hs.inv
    exact lv_iload_n hx hb hd rfl (hl.at ex) (G (st2 := vI x :: st) hs hls (okl.cons (by rw [← ex]; exact okl_get hls) hst) hh hl hP hS)
  case iload k =>
    simp only [decide_eq_true_eq] at hg
    subst hg
    rw [show pc + 2 - pc = 2 by omega] at hd
    obtain ⟨x, ex, hs⟩ := hs.inv
    exact lv_iload hx hb hd (hl.at ex) (G (st2 := vI x :: st) hs hls (okl.cons (by rw [← ex]; exact okl_get hls) hst) hh hl hP hS)
  case lload_n k =>
    simp only [decide_eq_true_eq] at hg
    subst hg
    rw [show pc + 1 - pc = 1 by omega] at hd
    obtain ⟨x, ex, hs⟩ := hs.inv
    exact lv_lload_n hx hb hd rfl (hl.at ex) (G (st2 := vL x :: st) hs hls (okl.cons (by rw [← ex]; exact okl_get hls) hst) hh hl hP hS)
  case lload k =>
    simp only [decide_eq_true_eq] at hg
    subst hg
    rw [show pc + 2 - pc = 2 by omega] at hd
    obtain ⟨x, ex, hs⟩ := hs.inv
    exact lv_lload hx hb hd (hl.at ex) (G (st2 := vL x :: st) hs hls (okl.cons (by rw [← ex]; exact okl_get hls) hst) hh hl hP hS)
  case aload_n k =>
    simp only [decide_eq_true_eq] at hg
    subst hg
    rw [show pc + 1 - pc = 1 by omega] at hd
    obtain ⟨x, ex, hs⟩ := hs.inv
    cases x with
    | none => exact lv_aload_nN hx hb hd rfl (hl.at ex) (G (st2 := vN :: st) hs hls (okl.cons trivial hst) hh hl hP hS)
    | some o => exact lv_aload_n hx hb hd rfl (hl.at ex) (G (st2 := vA o :: st) hs hls (okl.cons trivial hst) hh hl hP hS)
  case aload k =>
    simp only [decide_eq_true_eq] at hg
    subst hg
    rw [show pc + 2 - pc = 2 by omega] at hd
    obtain ⟨x, ex, hs⟩ := hs.inv
    cases x with
    | none => exact lv_aloadN hx hb hd (hl.at ex) (G (st2 := vN :: st) hs hls (okl.cons trivial hst) hh hl hP hS)
    | some o => exact lv_aload hx hb hd (hl.at ex) (G (st2 := vA o :: st) hs hls (okl.cons trivial hst) hh hl hP hS)
  case istore_n k =>
    simp only [decide_eq_true_eq] at hg
    obtain ⟨rfl, hg⟩ := hg
    rw [show pc + 1 - pc = 1 by omega] at hd
    obtain ⟨x, r, rfl, hs⟩ := hs.inv
    obtain ⟨lv, hl1, hl2⟩ := hl
    exact lv_istore_n hx hb hd rfl hl1 hg rfl (fun C2 h2 => G (st2 := r) hs (okl_stor hls hst.hd) hst.tl hh (LR.sto (w := .inl x) hl2 h2) hP hS)
  case istore k =>
    simp only [decide_eq_true_eq] at hg
    obtain ⟨rfl, hg⟩ := hg
    rw [show pc + 2 - pc = 2 by omega] at hd
    obtain ⟨x, r, rfl, hs⟩ := hs.inv
    obtain ⟨lv, hl1, hl2⟩ := hl
    exact lv_istore hx hb hd hl1 hg rfl (fun C2 h2 => G (st2 := r) hs (okl_stor hls hst.hd) hst.tl hh (LR.sto (w := .inl x) hl2 h2) hP hS)
  case lstore_n k =>
    simp only [decide_eq_true_eq] at hg
    obtain ⟨rfl, hg⟩ := hg
    rw [show pc + 1 - pc = 1 by omega] at hd
    obtain ⟨x, r, rfl, hs⟩ := hs.inv
    obtain ⟨lv, hl1, hl2⟩ := hl
    exact lv_lstore_n hx hb hd rfl hl1 hg rfl (fun C2 h2 => G (st2 := r) hs (okl_stor2 hls hst.hd) hst.tl hh (LR.sto2 (w := .inr (.inl x)) hl2 h2) hP hS)
  case lstore k =>
    simp only [decide_eq_true_eq] at hg
    obtain ⟨rfl, hg⟩ := hg
    rw [show pc + 2 - pc = 2 by omega] at hd
    obtain ⟨x, r, rfl, hs⟩ := hs.inv
    obtain ⟨lv, hl1, hl2⟩ := hl
    exact lv_lstore hx hb hd hl1 hg rfl (fun C2 h2 => G (st2 := r) hs (okl_stor2 hls hst.hd) hst.tl hh (LR.sto2 (w := .inr (.inl x)) hl2 h2) hP hS)
  case astore_n k =>
    simp only [decide_eq_true_eq] at hg
    obtain ⟨rfl, hg⟩ := hg
    rw [show pc + 1 - pc = 1 by omega] at hd
    obtain ⟨x, r, rfl, hs⟩ := hs.inv
    obtain ⟨lv, hl1, hl2⟩ := hl
    exact lv_astore_n hx hb hd rfl hl1 hg rfl (fun C2 h2 => G (st2 := r) hs (okl_stor hls hst.hd) hst.tl hh (LR.sto (w := .inr (.inr (some x))) hl2 h2) hP hS)
  case astore k =>
    simp only [decide_eq_true_eq] at hg
    obtain ⟨rfl, hg⟩ := hg
    rw [show pc + 2 - pc = 2 by omega] at hd
    obtain ⟨x, r, rfl, hs⟩ := hs.inv
    obtain ⟨lv, hl1, hl2⟩ := hl
    exact lv_astore hx hb hd hl1 hg rfl (fun C2 h2 => G (st2 := r) hs (okl_stor hls hst.hd) hst.tl hh (LR.sto (w := .inr (.inr (some x))) hl2 h2) hP hS)
  all_goals sorry
