section STEP
variable {p : Program} {l : Launch} {e : Env} {R : Room} {s : State} {mid : MethodId} {args : Array Value} {below : List Frame} {meth : Method} {c : Code} {H : Heap} {locs : List Loc} {lsC : Array Slot} {ads : Nat → Nat} {cA : Nat → ClassId} {D : va_G} {QQ : State → Prop}
theorem i32clampC {i : Int} (h0 : 0 ≤ i) (h1 : i < 2147483648) : (((Int32.ofInt i).toNatClampNeg : Nat) : Int) = i := by
  rw [i32clamp h0 h1]; omega
theorem shN_lt {o : Nat} (ho : o < nOb) : shN o < 2147483648 := by
  rcases ckO o ho with h | h
  · have : ∀ c, c < 10 → clM c < 2147483648 := by decide +kernel
    rw [h.2]; exact this _ h.1
  · exact h.2.2
theorem upd_cel {h : Hp} {o : Nat} {i v : Int} (h0 : 0 ≤ i) (h1 : i < 2147483648) : (fun j : Nat => Int32.ofInt (hup h o i v o (j : Int))) = upd (fun j : Nat => Int32.ofInt (h o (j : Int))) (Int32.ofInt i).toNatClampNeg (Int32.ofInt v) := by
  funext j
  rw [i32clamp h0 h1]
  unfold hup upd
  by_cases hj : j = i.toNat
  · rw [if_pos ⟨rfl, by omega⟩, if_pos hj]
  · rw [if_neg (fun q => hj (by omega)), if_neg hj]
theorem updL_cel {h : Hp} {o : Nat} {i v : Int} (h0 : 0 ≤ i) (h1 : i < 2147483648) : (fun j : Nat => Int64.ofInt (hup h o i v o (j : Int))) = vp_updL (fun j : Nat => Int64.ofInt (h o (j : Int))) (Int32.ofInt i).toNatClampNeg (Int64.ofInt v) := by
  funext j
  rw [i32clamp h0 h1]
  unfold hup vp_updL
  by_cases hj : j = i.toNat
  · rw [if_pos ⟨rfl, by omega⟩, if_pos hj]
  · rw [if_neg (fun q => hj (by omega)), if_neg hj]
theorem cpy_cel {h : Hp} {o q : Nat} {sp dp n : Int} (h0 : 0 ≤ sp) (h1 : 0 ≤ dp) (h2 : 0 ≤ n) (b0 : sp < 2147483648) (b1 : dp < 2147483648) (b2 : n < 2147483648) : (fun j : Nat => Int32.ofInt (hcp h o sp q dp n q (j : Int))) = va_cpy (fun j : Nat => Int32.ofInt (h o (j : Int))) (fun j : Nat => Int32.ofInt (h q (j : Int))) (Int32.ofInt sp).toNatClampNeg (Int32.ofInt dp).toNatClampNeg (Int32.ofInt n).toNatClampNeg := by
  funext j
  rw [i32clamp h0 b0, i32clamp h1 b1, i32clamp h2 b2]
  unfold hcp va_cpy
  by_cases hj : dp.toNat ≤ j ∧ j < dp.toNat + n.toNat
  · rw [if_pos ⟨rfl, by omega, by omega⟩, if_pos hj]
    congr 2
    omega
  · rw [if_neg (fun z => hj (by omega)), if_neg hj]
theorem okh.cp {h : Hp} {o q : Nat} {sp dp n : Int} (hh : okh h) (ho : shK o = 100) (hq : shK q = 100) : okh (hcp h o sp q dp n) := by
  intro a j
  unfold hcp
  by_cases hc : a = q ∧ dp ≤ j ∧ j < dp + n
  · rw [if_pos hc]
    refine ⟨fun _ => (hh o _).1 ?_, (hh o _).2⟩
    unfold isLc; rw [ho]; rfl
  · rw [if_neg hc]; exact hh a j
theorem W.br {g g1 g2 : JFrame} {cc dd : Prop} (h1 : dd ↔ cc) {A B : Prop} (hc : br dd A B) : (cc → A) ∧ (¬ cc → B) := ⟨fun q => hc.1 (h1.mpr q), fun q => hc.2 (fun z => q (h1.mp z))⟩
end STEP
theorem sw.inv {x : Int} {f : Nat → Prop} {d : Nat} : ∀ {l : List (Int × Nat)}, sw x f d l → (∃ (i : Nat) (k : Int) (t : Nat), l[i]? = some (k, t) ∧ x = k ∧ f t) ∨ ((∀ (i : Nat) (q : Int × Nat), l[i]? = some q → x ≠ q.1) ∧ f d)
  | [], h => Or.inr ⟨fun i q hq => by simp at hq, h⟩
  | (k, t) :: r, h => by
    by_cases hx : x = k
    · exact Or.inl ⟨0, k, t, rfl, hx, h.1 hx⟩
    · rcases sw.inv (h.2 hx) with ⟨i, k2, t2, h1, h2, h3⟩ | ⟨h1, h2⟩
      · exact Or.inl ⟨i + 1, k2, t2, by simpa using h1, h2, h3⟩
      · refine Or.inr ⟨fun i q hq => ?_, h2⟩
        cases i with
        | zero =>
          have : (k, t) = q := by simpa using hq
          rw [← this]; exact hx
        | succ i => exact h1 i q (by simpa using hq)
theorem sw.lk {x : Int} {f : Nat → Prop} {d pc : Nat} {dd : Int} (hd : (d : Int) = (pc : Int) + dd) : ∀ {l : List (Int × Nat)} {ps : List (Int × Int)}, l.map (fun q => (q.1, (q.2 : Int))) = ps.map (fun q => (q.1, (pc : Int) + q.2)) → sw x f d l → ∃ (off : Int) (tgt : Nat), Op.lookupswitch.offset ps dd x = off ∧ (pc : Int) + off = (tgt : Int) ∧ f tgt
  | [], [], _, h => ⟨dd, d, rfl, hd.symm, h⟩
  | [], q :: ps, he, _ => by simp at he
  | q :: l, [], he, _ => by simp at he
  | (k, t) :: r, (k2, o) :: ps, he, h => by
    simp only [List.map_cons, List.cons.injEq, Prod.mk.injEq] at he
    obtain ⟨⟨rfl, e1⟩, e2⟩ := he
    rw [Op.lookupswitch.offset_cons]
    by_cases hx : x = k
    · rw [if_pos hx.symm]
      exact ⟨o, t, rfl, by omega, h.1 hx⟩
    · rw [if_neg (fun q => hx q.symm)]
      exact sw.lk hd e2 (h.2 hx)
set_option maxHeartbeats 8000000 in
theorem shut_step (l : Launch) {ads : Nat → Nat} {cA : Nat → ClassId} {D : va_G} (hap : apA ads) (d m pc : Nat) (ls st : List AV) (h : Hp) (Q : aPO)
    (hs : semM (inCall (PW l ads cA D) d) (fun pc ls st h => PW l ads cA D d m pc ls st h Q) m pc ls st h Q) : PW l ads cA D d m pc ls st h Q := by
  intro p e R s mid args below meth c H locs lsC hm hC hR hK hN hX hls hst hh hl hP hS
  obtain ⟨hx, hb, hr, hml, hown, hts, hlocks⟩ := id hC
  unfold semM at hs
  split at hs
  case h_2 => exact hs.elim
  rename_i ins nxt a b hat
  obtain ⟨hd, hg⟩ := good_at hm hat
  have hD : va_D (inA ads) (wld ads cA h) := wldD hap
  have hsz : c.maxLocals = lsC.size := by rw [hml, hl.size]
  have G : ∀ {pc2 : Nat} {ls2 st2 : List AV} {h2 : Hp} {H2 : Heap} {locs2 : List Loc} {C2 : Array Slot}, PW l ads cA D d m pc2 ls2 st2 h2 Q → okl ls2 → okl st2 → okh h2 → LR ads C2 (mLo m) ls2 → va_P D fcs (wld ads cA h2) H2 → va_S (inA ads) s.heap H2 locs2 →
      W p l e R s mid args below meth c H2 locs2 0 0 (MQ below (QcM ads cA D Q) args s 0 0 (inA ads)) (F0 mid pc2 C2 (st2.map (cv ads))) :=
    fun q a1 a2 a3 a4 a5 a6 => q p e R s mid args below meth c _ _ _ hm hC hR hK hN hX a1 a2 a3 a4 a5 a6
  have hown2 : s.vm.findClass (ownN (mOw m)) = some mid.cls := by rw [gM_own hm]; exact hown
  have how : mOw m < 13 := (gM_lo hm).2.2
  cases ins
  all_goals first | exact hs.elim | skip
  all_goals dsimp only [semI] at hs
  all_goals dsimp only [goodI] at hg
  all_goals first | exact hs.elim | skip
  case iconst n =>
    simp only [decide_eq_true_eq] at hg
    obtain ⟨rfl, hg⟩ := hg
    rw [show pc + 1 - pc = 1 by omega] at hd
    exact lv_iconst hx hb hd rfl (G (st2 := vI n :: st) hs hls (okl.cons hg hst) hh hl hP hS)
  case bipush n =>
    simp only [decide_eq_true_eq] at hg
    obtain ⟨rfl, hg, hv⟩ := hg
    rw [show pc + 2 - pc = 2 by omega] at hd
    exact lv_bipush hx hb hd hv (G (st2 := vI n :: st) hs hls (okl.cons hg hst) hh hl hP hS)
  case sipush n =>
    simp only [decide_eq_true_eq] at hg
    obtain ⟨rfl, hg, hv⟩ := hg
    rw [show pc + 3 - pc = 3 by omega] at hd
    exact lv_sipush hx hb hd hv (G (st2 := vI n :: st) hs hls (okl.cons hg hst) hh hl hP hS)
  case lconst n =>
    simp only [decide_eq_true_eq] at hg
    subst hg
    rw [show pc + 1 - pc = 1 by omega] at hd
    have hn := n.isLt
    refine lv_lconst hx hb hd (v := Int64.ofInt (n.val : Int)) ?_ (G (st2 := vL (n.val : Int) :: st) hs hls (okl.cons (by show (-9223372036854775808 : Int) ≤ _ ∧ _; constructor <;> omega) hst) hh hl hP hS)
    exact (Int64.ofInt_eq_ofNat).symm
  case ldc i =>
    simp only [Bool.and_eq_true, decide_eq_true_eq] at hg
    obtain ⟨rfl, hg⟩ := hg
    rw [show pc + 2 - pc = 2 by omega] at hd
    split at hs
    · obtain ⟨h1, h2⟩ := kc_in hg
      exact lv_ldc hx hb hown2 (hts _ h1) hd (G (st2 := vI b :: st) hs hls (okl.cons h2 hst) hh hl hP hS)
    · rename_i hne
      have hg : mOw m = 5 ∧ i = 88 := by
        split at hg
        · exact absurd rfl hne
        · simpa using hg
      obtain ⟨h1, rfl⟩ := hg
      rw [h1] at hown2
      exact va_ldcS hx hb hown2 hX.1 hd (G (st2 := vA 96 :: st) hs hls (okl.cons trivial hst) hh hl hP hS)
  case ldc_w i =>
    simp only [Bool.and_eq_true, decide_eq_true_eq] at hg
    obtain ⟨rfl, hg⟩ := hg
    rw [show pc + 3 - pc = 3 by omega] at hd
    obtain ⟨h1, h2⟩ := kc_in hg
    exact lv_ldcw hx hb hown2 (hts _ h1) hd (G (st2 := vI b :: st) hs hls (okl.cons h2 hst) hh hl hP hS)
  case ldc2_w i =>
    simp only [Bool.and_eq_true, decide_eq_true_eq] at hg
    obtain ⟨rfl, hg⟩ := hg
    rw [show pc + 3 - pc = 3 by omega] at hd
    obtain ⟨h1, h2⟩ := kl_in hg
    exact lv_ldc2 hx hb hown2 (hts _ h1) hd (G (st2 := vL b :: st) hs hls (okl.cons h2 hst) hh hl hP hS)
  case iload_n k =>
    simp only [decide_eq_true_eq] at hg
    subst hg
    rw [show pc + 1 - pc = 1 by omega] at hd
    obtain ⟨x, ex, hs⟩ := hs.inv
    exact lv_iload_n hx hb hd rfl (hl.at ex) (G (st2 := vI x :: st) hs hls (okl.cons (by rw [← ex]; exact okl_get hls) hst) hh hl hP hS)
  case iload k =>
    simp only [decide_eq_true_eq] at hg
    subst hg
    rw [show pc + 2 - pc = 2 by omega] at hd
    obtain ⟨x, ex, hs⟩ := hs.inv
    exact lv_iload hx hb hd (hl.at ex) (G (st2 := vI x :: st) hs hls (okl.cons (by rw [← ex]; exact okl_get hls) hst) hh hl hP hS)
  case lload_n k =>
    simp only [decide_eq_true_eq] at hg
    subst hg
    rw [show pc + 1 - pc = 1 by omega] at hd
    obtain ⟨x, ex, hs⟩ := hs.inv
    exact lv_lload_n hx hb hd rfl (hl.at ex) (G (st2 := vL x :: st) hs hls (okl.cons (by rw [← ex]; exact okl_get hls) hst) hh hl hP hS)
  case lload k =>
    simp only [decide_eq_true_eq] at hg
    subst hg
    rw [show pc + 2 - pc = 2 by omega] at hd
    obtain ⟨x, ex, hs⟩ := hs.inv
    exact lv_lload hx hb hd (hl.at ex) (G (st2 := vL x :: st) hs hls (okl.cons (by rw [← ex]; exact okl_get hls) hst) hh hl hP hS)
  case aload_n k =>
    simp only [decide_eq_true_eq] at hg
    subst hg
    rw [show pc + 1 - pc = 1 by omega] at hd
    obtain ⟨x, ex, hs⟩ := hs.inv
    cases x with
    | none => exact lv_aload_nN hx hb hd rfl (hl.at ex) (G (st2 := vN :: st) hs hls (okl.cons trivial hst) hh hl hP hS)
    | some o => exact lv_aload_n hx hb hd rfl (hl.at ex) (G (st2 := vA o :: st) hs hls (okl.cons trivial hst) hh hl hP hS)
  case aload k =>
    simp only [decide_eq_true_eq] at hg
    subst hg
    rw [show pc + 2 - pc = 2 by omega] at hd
    obtain ⟨x, ex, hs⟩ := hs.inv
    cases x with
    | none => exact lv_aloadN hx hb hd (hl.at ex) (G (st2 := vN :: st) hs hls (okl.cons trivial hst) hh hl hP hS)
    | some o => exact lv_aload hx hb hd (hl.at ex) (G (st2 := vA o :: st) hs hls (okl.cons trivial hst) hh hl hP hS)
  case istore_n k =>
    simp only [decide_eq_true_eq] at hg
    obtain ⟨rfl, hg⟩ := hg
    rw [show pc + 1 - pc = 1 by omega] at hd
    obtain ⟨x, r, rfl, hs⟩ := hs.inv
    obtain ⟨lv, hl1, hl2⟩ := hl
    exact lv_istore_n hx hb hd rfl hl1 hg rfl (fun C2 h2 => G (st2 := r) hs (okl_stor hls hst.hd) hst.tl hh (LR.sto (w := .inl x) hl2 h2) hP hS)
  case istore k =>
    simp only [decide_eq_true_eq] at hg
    obtain ⟨rfl, hg⟩ := hg
    rw [show pc + 2 - pc = 2 by omega] at hd
    obtain ⟨x, r, rfl, hs⟩ := hs.inv
    obtain ⟨lv, hl1, hl2⟩ := hl
    exact lv_istore hx hb hd hl1 hg rfl (fun C2 h2 => G (st2 := r) hs (okl_stor hls hst.hd) hst.tl hh (LR.sto (w := .inl x) hl2 h2) hP hS)
  case lstore_n k =>
    simp only [decide_eq_true_eq] at hg
    obtain ⟨rfl, hg⟩ := hg
    rw [show pc + 1 - pc = 1 by omega] at hd
    obtain ⟨x, r, rfl, hs⟩ := hs.inv
    obtain ⟨lv, hl1, hl2⟩ := hl
    exact lv_lstore_n hx hb hd rfl hl1 hg rfl (fun C2 h2 => G (st2 := r) hs (okl_stor2 hls hst.hd) hst.tl hh (LR.sto2 (w := .inr (.inl x)) hl2 h2) hP hS)
  case lstore k =>
    simp only [decide_eq_true_eq] at hg
    obtain ⟨rfl, hg⟩ := hg
    rw [show pc + 2 - pc = 2 by omega] at hd
    obtain ⟨x, r, rfl, hs⟩ := hs.inv
    obtain ⟨lv, hl1, hl2⟩ := hl
    exact lv_lstore hx hb hd hl1 hg rfl (fun C2 h2 => G (st2 := r) hs (okl_stor2 hls hst.hd) hst.tl hh (LR.sto2 (w := .inr (.inl x)) hl2 h2) hP hS)
  case astore_n k =>
    simp only [decide_eq_true_eq] at hg
    obtain ⟨rfl, hg⟩ := hg
    rw [show pc + 1 - pc = 1 by omega] at hd
    obtain ⟨x, r, rfl, hs⟩ := hs.inv
    obtain ⟨lv, hl1, hl2⟩ := hl
    exact lv_astore_n hx hb hd rfl hl1 hg rfl (fun C2 h2 => G (st2 := r) hs (okl_stor hls hst.hd) hst.tl hh (LR.sto (w := .inr (.inr (some x))) hl2 h2) hP hS)
  case astore k =>
    simp only [decide_eq_true_eq] at hg
    obtain ⟨rfl, hg⟩ := hg
    rw [show pc + 2 - pc = 2 by omega] at hd
    obtain ⟨x, r, rfl, hs⟩ := hs.inv
    obtain ⟨lv, hl1, hl2⟩ := hl
    exact lv_astore hx hb hd hl1 hg rfl (fun C2 h2 => G (st2 := r) hs (okl_stor hls hst.hd) hst.tl hh (LR.sto (w := .inr (.inr (some x))) hl2 h2) hP hS)
  case iinc k n =>
    simp only [decide_eq_true_eq] at hg
    obtain ⟨rfl, hg⟩ := hg
    rw [show pc + 3 - pc = 3 by omega] at hd
    split at hs
    · rename_i x ex
      obtain ⟨lv, hl1, hl2⟩ := hl
      obtain ⟨ix, hix⟩ := List.getElem?_of_mem (hl2 k _ ex)
      exact lv_iinc hx hb hd hl1 hix (v := Int32.ofInt (x + n)) (Int32.ofInt_add ..).symm hg rfl (fun C2 h2 => G (st2 := st) hs.2 (okl_stor hls hs.1) hst hh (LR.sto (w := .inl (x + n)) hl2 h2) hP hS)
    · exact hs.elim
  case iadd =>
    simp only [decide_eq_true_eq] at hg
    subst hg
    rw [show pc + 1 - pc = 1 by omega] at hd
    obtain ⟨x, y, r, rfl, hs⟩ := hs.inv
    refine lv_iadd hx hb hd ?_
    rw [← Int32.ofInt_add]
    exact G (st2 := vI (x + y) :: r) hs.2 hls (okl.cons hs.1 hst.tl.tl) hh hl hP hS
  case isub =>
    simp only [decide_eq_true_eq] at hg
    subst hg
    rw [show pc + 1 - pc = 1 by omega] at hd
    obtain ⟨x, y, r, rfl, hs⟩ := hs.inv
    refine lv_isub hx hb hd ?_
    rw [← Int32.ofInt_sub]
    exact G (st2 := vI (x - y) :: r) hs.2 hls (okl.cons hs.1 hst.tl.tl) hh hl hP hS
  case imul =>
    simp only [decide_eq_true_eq] at hg
    subst hg
    rw [show pc + 1 - pc = 1 by omega] at hd
    obtain ⟨x, y, r, rfl, hs⟩ := hs.inv
    refine lv_imul hx hb hd ?_
    rw [← Int32.ofInt_mul]
    exact G (st2 := vI (x * y) :: r) hs.2 hls (okl.cons hs.1 hst.tl.tl) hh hl hP hS
  case ladd =>
    simp only [decide_eq_true_eq] at hg
    subst hg
    rw [show pc + 1 - pc = 1 by omega] at hd
    obtain ⟨x, y, r, rfl, hs⟩ := hs.inv
    refine lv_ladd hx hb hd ?_
    rw [← Int64.ofInt_add]
    exact G (st2 := vL (x + y) :: r) hs.2 hls (okl.cons hs.1 hst.tl.tl) hh hl hP hS
  case lsub =>
    simp only [decide_eq_true_eq] at hg
    subst hg
    rw [show pc + 1 - pc = 1 by omega] at hd
    obtain ⟨x, y, r, rfl, hs⟩ := hs.inv
    refine lv_lsub hx hb hd ?_
    rw [← Int64.ofInt_sub]
    exact G (st2 := vL (x - y) :: r) hs.2 hls (okl.cons hs.1 hst.tl.tl) hh hl hP hS
  case lmul =>
    simp only [decide_eq_true_eq] at hg
    subst hg
    rw [show pc + 1 - pc = 1 by omega] at hd
    obtain ⟨x, y, r, rfl, hs⟩ := hs.inv
    refine lv_lmul hx hb hd ?_
    rw [← Int64.ofInt_mul]
    exact G (st2 := vL (x * y) :: r) hs.2 hls (okl.cons hs.1 hst.tl.tl) hh hl hP hS
  case idiv =>
    simp only [decide_eq_true_eq] at hg
    subst hg
    rw [show pc + 1 - pc = 1 by omega] at hd
    obtain ⟨x, y, r, rfl, hs⟩ := hs.inv
    refine lv_idiv hx hb hd (fun z => hs.1.1 ((i32eq (y := 0) hst.hd (by omega)).mp z)) ?_
    rw [i32div hst.tl.hd hst.hd hs.1]
    exact G (st2 := vI (x.tdiv y) :: r) hs.2 hls (okl.cons (tdivR (M := 2147483648) hst.tl.hd hs.1) hst.tl.tl) hh hl hP hS
  case irem =>
    simp only [decide_eq_true_eq] at hg
    subst hg
    rw [show pc + 1 - pc = 1 by omega] at hd
    obtain ⟨x, y, r, rfl, hs⟩ := hs.inv
    refine lv_irem hx hb hd (fun z => hs.1.1 ((i32eq (y := 0) hst.hd (by omega)).mp z)) ?_
    rw [i32rem hst.tl.hd hst.hd hs.1]
    exact G (st2 := vI (x.tmod y) :: r) hs.2 hls (okl.cons (tmodR (M := 2147483648) hst.tl.hd hs.1) hst.tl.tl) hh hl hP hS
  case ldiv =>
    simp only [decide_eq_true_eq] at hg
    subst hg
    rw [show pc + 1 - pc = 1 by omega] at hd
    obtain ⟨x, y, r, rfl, hs⟩ := hs.inv
    refine lv_ldiv hx hb hd (fun z => hs.1.1 ((i64eq (y := 0) hst.hd (by omega)).mp z)) ?_
    rw [i64div hst.tl.hd hst.hd hs.1]
    exact G (st2 := vL (x.tdiv y) :: r) hs.2 hls (okl.cons (tdivQ (M := 9223372036854775808) hst.tl.hd hs.1) hst.tl.tl) hh hl hP hS
  case lrem =>
    simp only [decide_eq_true_eq] at hg
    subst hg
    rw [show pc + 1 - pc = 1 by omega] at hd
    obtain ⟨x, y, r, rfl, hs⟩ := hs.inv
    refine lv_lrem hx hb hd (fun z => hs.1.1 ((i64eq (y := 0) hst.hd (by omega)).mp z)) ?_
    rw [i64rem hst.tl.hd hst.hd hs.1]
    exact G (st2 := vL (x.tmod y) :: r) hs.2 hls (okl.cons (tmodR (M := 9223372036854775808) hst.tl.hd hs.1) hst.tl.tl) hh hl hP hS
  case ineg =>
    simp only [decide_eq_true_eq] at hg
    subst hg
    rw [show pc + 1 - pc = 1 by omega] at hd
    obtain ⟨x, r, rfl, hs⟩ := hs.inv
    refine lv_ineg hx hb hd ?_
    rw [i32neg]
    have g : -2147483648 ≤ x ∧ x < 2147483648 := hst.hd
    have g2 := hs.1
    exact G (st2 := vI (-x) :: r) hs.2 hls (okl.cons (by show (-2147483648 : Int) ≤ _ ∧ _; constructor <;> omega) hst.tl) hh hl hP hS
  case lneg =>
    simp only [decide_eq_true_eq] at hg
    subst hg
    rw [show pc + 1 - pc = 1 by omega] at hd
    obtain ⟨x, r, rfl, hs⟩ := hs.inv
    refine lv_lneg hx hb hd ?_
    rw [i64neg]
    have g : -9223372036854775808 ≤ x ∧ x < 9223372036854775808 := hst.hd
    have g2 := hs.1
    exact G (st2 := vL (-x) :: r) hs.2 hls (okl.cons (by show (-9223372036854775808 : Int) ≤ _ ∧ _; constructor <;> omega) hst.tl) hh hl hP hS
  case iand =>
    simp only [decide_eq_true_eq] at hg
    subst hg
    rw [show pc + 1 - pc = 1 by omega] at hd
    obtain ⟨x, y, r, rfl, hs⟩ := hs.inv
    refine lv_iand hx hb hd ?_
    have q := G (st2 := vI (iAnd x y) :: r) hs hls (okl.cons (i32r _) hst.tl.tl) hh hl hP hS
    have eq : Int32.ofInt (iAnd x y) = _ := i32back _
    simp only [List.map_cons, cv, cvv, eq] at q
    exact q
  case ior =>
    simp only [decide_eq_true_eq] at hg
    subst hg
    rw [show pc + 1 - pc = 1 by omega] at hd
    obtain ⟨x, y, r, rfl, hs⟩ := hs.inv
    refine lv_ior hx hb hd ?_
    have q := G (st2 := vI (iOr x y) :: r) hs hls (okl.cons (i32r _) hst.tl.tl) hh hl hP hS
    have eq : Int32.ofInt (iOr x y) = _ := i32back _
    simp only [List.map_cons, cv, cvv, eq] at q
    exact q
  case ixor =>
    simp only [decide_eq_true_eq] at hg
    subst hg
    rw [show pc + 1 - pc = 1 by omega] at hd
    obtain ⟨x, y, r, rfl, hs⟩ := hs.inv
    refine lv_ixor hx hb hd ?_
    have q := G (st2 := vI (iXor x y) :: r) hs hls (okl.cons (i32r _) hst.tl.tl) hh hl hP hS
    have eq : Int32.ofInt (iXor x y) = _ := i32back _
    simp only [List.map_cons, cv, cvv, eq] at q
    exact q
  case ishl =>
    simp only [decide_eq_true_eq] at hg
    subst hg
    rw [show pc + 1 - pc = 1 by omega] at hd
    obtain ⟨x, y, r, rfl, hs⟩ := hs.inv
    refine lv_ishl hx hb hd ?_
    have q := G (st2 := vI (iShl x y) :: r) hs hls (okl.cons (i32r _) hst.tl.tl) hh hl hP hS
    have eq : Int32.ofInt (iShl x y) = _ := i32back _
    simp only [List.map_cons, cv, cvv, eq] at q
    exact q
  case ishr =>
    simp only [decide_eq_true_eq] at hg
    subst hg
    rw [show pc + 1 - pc = 1 by omega] at hd
    obtain ⟨x, y, r, rfl, hs⟩ := hs.inv
    refine lv_ishr hx hb hd ?_
    have q := G (st2 := vI (iShr x y) :: r) hs hls (okl.cons (i32r _) hst.tl.tl) hh hl hP hS
    have eq : Int32.ofInt (iShr x y) = _ := i32back _
    simp only [List.map_cons, cv, cvv, eq] at q
    exact q
  case iushr =>
    simp only [decide_eq_true_eq] at hg
    subst hg
    rw [show pc + 1 - pc = 1 by omega] at hd
    obtain ⟨x, y, r, rfl, hs⟩ := hs.inv
    exact lv_iushr hx hb hd (v := Int32.ofInt (iUshr x y)) (i32back _).symm (G (st2 := vI (iUshr x y) :: r) hs hls (okl.cons (i32r _) hst.tl.tl) hh hl hP hS)
  case lor =>
    simp only [decide_eq_true_eq] at hg
    subst hg
    rw [show pc + 1 - pc = 1 by omega] at hd
    obtain ⟨x, y, r, rfl, hs⟩ := hs.inv
    refine lv_lor hx hb hd ?_
    have q := G (st2 := vL (lOr x y) :: r) hs hls (okl.cons (i64r _) hst.tl.tl) hh hl hP hS
    have eq : Int64.ofInt (lOr x y) = _ := i64back _
    simp only [List.map_cons, cv, cvv, eq] at q
    exact q
  case lshl =>
    simp only [decide_eq_true_eq] at hg
    subst hg
    rw [show pc + 1 - pc = 1 by omega] at hd
    obtain ⟨x, y, r, rfl, hs⟩ := hs.inv
    exact lv_lshl hx hb hd (v := Int64.ofInt (lShl x y)) (i64back _).symm (G (st2 := vL (lShl x y) :: r) hs hls (okl.cons (i64r _) hst.tl.tl) hh hl hP hS)
  case lshr =>
    simp only [decide_eq_true_eq] at hg
    subst hg
    rw [show pc + 1 - pc = 1 by omega] at hd
    obtain ⟨x, y, r, rfl, hs⟩ := hs.inv
    exact lv_lshr hx hb hd (v := Int64.ofInt (lShr x y)) (i64back _).symm (G (st2 := vL (lShr x y) :: r) hs hls (okl.cons (i64r _) hst.tl.tl) hh hl hP hS)
  case lcmp =>
    simp only [decide_eq_true_eq] at hg
    subst hg
    rw [show pc + 1 - pc = 1 by omega] at hd
    obtain ⟨x, y, r, rfl, hs⟩ := hs.inv
    refine W.lcmp hx hb hd ?_
    rw [i64cmp hst.tl.hd hst.hd]
    refine G (st2 := vI (lcI x y) :: r) hs hls (okl.cons ?_ hst.tl.tl) hh hl hP hS
    show (-2147483648 : Int) ≤ lcI x y ∧ lcI x y < 2147483648
    unfold lcI
    split <;> (try split) <;> omega
  case i2l =>
    simp only [decide_eq_true_eq] at hg
    subst hg
    rw [show pc + 1 - pc = 1 by omega] at hd
    obtain ⟨x, r, rfl, hs⟩ := hs.inv
    have g : -2147483648 ≤ x ∧ x < 2147483648 := hst.hd
    exact lv_i2l hx hb hd (i32to64 g) (G (st2 := vL x :: r) hs hls (okl.cons (by show (-9223372036854775808 : Int) ≤ _ ∧ _; constructor <;> omega) hst.tl) hh hl hP hS)
  case l2i =>
    simp only [decide_eq_true_eq] at hg
    subst hg
    rw [show pc + 1 - pc = 1 by omega] at hd
    obtain ⟨x, r, rfl, hs⟩ := hs.inv
    exact lv_l2i hx hb hd (i64to32 hs.1) (G (st2 := vI x :: r) hs.2 hls (okl.cons hs.1 hst.tl) hh hl hP hS)
  case i2b =>
    simp only [decide_eq_true_eq] at hg
    subst hg
    rw [show pc + 1 - pc = 1 by omega] at hd
    obtain ⟨x, r, rfl, hs⟩ := hs.inv
    exact lv_i2b hx hb hd (v := Int32.ofInt (iB x)) (i32back _).symm (G (st2 := vI (iB x) :: r) hs hls (okl.cons (i32r _) hst.tl) hh hl hP hS)
  case dup =>
    simp only [decide_eq_true_eq] at hg
    subst hg
    rw [show pc + 1 - pc = 1 by omega] at hd
    split at hs
    · rename_i x r
      exact lv_dup hx hb hd rfl (G (st2 := vI x :: vI x :: r) hs hls (okl.cons hst.hd hst) hh hl hP hS)
    · rename_i x r
      refine lv_dup hx hb hd ?_ (G (st2 := some (.inr (.inr x)) :: some (.inr (.inr x)) :: r) hs hls (okl.cons hst.hd hst) hh hl hP hS)
      cases x <;> rfl
    · exact hs.elim
  case dup2 =>
    simp only [decide_eq_true_eq] at hg
    subst hg
    rw [show pc + 1 - pc = 1 by omega] at hd
    split at hs
    · rename_i x y r
      refine lv_dup2_11 hx hb hd rfl ?_ (G (st2 := vI x :: some (.inr (.inr y)) :: vI x :: some (.inr (.inr y)) :: r) hs hls (okl.cons hst.hd (okl.cons hst.tl.hd hst)) hh hl hP hS)
      cases y <;> rfl
    · exact hs.elim
  case pop =>
    simp only [decide_eq_true_eq] at hg
    subst hg
    rw [show pc + 1 - pc = 1 by omega] at hd
    obtain ⟨x, r, rfl, hs⟩ := hs.inv
    exact lv_pop hx hb hd rfl (G (st2 := r) hs hls hst.tl hh hl hP hS)
  case aconst_null =>
    simp only [decide_eq_true_eq] at hg
    subst hg
    rw [show pc + 1 - pc = 1 by omega] at hd
    exact lv_null hx hb hd (G (st2 := vN :: st) hs hls (okl.cons trivial hst) hh hl hP hS)
  case goto o =>
    simp only [decide_eq_true_eq] at hg
    obtain ⟨rfl, hg⟩ := hg
    rw [show pc + 3 - pc = 3 by omega] at hd
    exact lv_goto hx hb hd hg (G (st2 := st) hs hls hst hh hl hP hS)
  case ifnull o =>
    simp only [decide_eq_true_eq] at hg
    obtain ⟨rfl, hg⟩ := hg
    rw [show pc + 3 - pc = 3 by omega] at hd
    split at hs
    · rename_i r
      exact lv_ifnullN hx hb hd hg (G (st2 := r) hs hls hst.tl hh hl hP hS)
    · rename_i q r
      exact lv_ifnull hx hb hd (G (st2 := r) hs hls hst.tl hh hl hP hS)
    · exact hs.elim
  case ifCond cd o =>
    simp only [decide_eq_true_eq] at hg
    obtain ⟨rfl, hg⟩ := hg
    rw [show pc + 3 - pc = 3 by omega] at hd
    obtain ⟨x, r, rfl, hs⟩ := hs.inv
    have g : -2147483648 ≤ x ∧ x < 2147483648 := hst.hd
    have z0 : (-2147483648 : Int) ≤ 0 ∧ (0 : Int) < 2147483648 := by omega
    cases cd with
    | eq => exact lv_if_eq hx hb hd hg (fun q => G (st2 := r) (hs.1 ((i32eq g z0).mp q)) hls hst.tl hh hl hP hS) (fun q => G (st2 := r) (hs.2 (fun z => q ((i32eq g z0).mpr z))) hls hst.tl hh hl hP hS)
    | ne => exact lv_if_ne hx hb hd hg (fun q => G (st2 := r) (hs.1 (fun z => q ((i32eq g z0).mpr z))) hls hst.tl hh hl hP hS) (fun q => G (st2 := r) (hs.2 (fun z => z ((i32eq g z0).mp q))) hls hst.tl hh hl hP hS)
    | lt => exact lv_if_lt hx hb hd hg (fun q => G (st2 := r) (hs.1 ((i32lt g z0).mp q)) hls hst.tl hh hl hP hS) (fun q => G (st2 := r) (hs.2 (fun z => q ((i32lt g z0).mpr z))) hls hst.tl hh hl hP hS)
    | ge => exact lv_if_ge hx hb hd hg (fun q => G (st2 := r) (hs.1 ((i32le z0 g).mp q)) hls hst.tl hh hl hP hS) (fun q => G (st2 := r) (hs.2 (fun z => q ((i32le z0 g).mpr z))) hls hst.tl hh hl hP hS)
    | gt => exact lv_if_gt hx hb hd hg (fun q => G (st2 := r) (hs.1 ((i32lt z0 g).mp q)) hls hst.tl hh hl hP hS) (fun q => G (st2 := r) (hs.2 (fun z => q ((i32lt z0 g).mpr z))) hls hst.tl hh hl hP hS)
    | le => exact lv_if_le hx hb hd hg (fun q => G (st2 := r) (hs.1 ((i32le g z0).mp q)) hls hst.tl hh hl hP hS) (fun q => G (st2 := r) (hs.2 (fun z => q ((i32le g z0).mpr z))) hls hst.tl hh hl hP hS)
  case if_icmp cd o =>
    simp only [decide_eq_true_eq] at hg
    obtain ⟨rfl, hg⟩ := hg
    rw [show pc + 3 - pc = 3 by omega] at hd
    obtain ⟨x, y, r, rfl, hs⟩ := hs.inv
    have z0 : -2147483648 ≤ y ∧ y < 2147483648 := hst.hd
    have g : -2147483648 ≤ x ∧ x < 2147483648 := hst.tl.hd
    cases cd with
    | eq => exact lv_icmp_eq hx hb hd hg (fun q => G (st2 := r) (hs.1 ((i32eq g z0).mp q)) hls hst.tl.tl hh hl hP hS) (fun q => G (st2 := r) (hs.2 (fun z => q ((i32eq g z0).mpr z))) hls hst.tl.tl hh hl hP hS)
    | ne => exact lv_icmp_ne hx hb hd hg (fun q => G (st2 := r) (hs.1 (fun z => q ((i32eq g z0).mpr z))) hls hst.tl.tl hh hl hP hS) (fun q => G (st2 := r) (hs.2 (fun z => z ((i32eq g z0).mp q))) hls hst.tl.tl hh hl hP hS)
    | lt => exact lv_icmp_lt hx hb hd hg (fun q => G (st2 := r) (hs.1 ((i32lt g z0).mp q)) hls hst.tl.tl hh hl hP hS) (fun q => G (st2 := r) (hs.2 (fun z => q ((i32lt g z0).mpr z))) hls hst.tl.tl hh hl hP hS)
    | ge => exact lv_icmp_ge hx hb hd hg (fun q => G (st2 := r) (hs.1 ((i32le z0 g).mp q)) hls hst.tl.tl hh hl hP hS) (fun q => G (st2 := r) (hs.2 (fun z => q ((i32le z0 g).mpr z))) hls hst.tl.tl hh hl hP hS)
    | gt => exact lv_icmp_gt hx hb hd hg (fun q => G (st2 := r) (hs.1 ((i32lt z0 g).mp q)) hls hst.tl.tl hh hl hP hS) (fun q => G (st2 := r) (hs.2 (fun z => q ((i32lt z0 g).mpr z))) hls hst.tl.tl hh hl hP hS)
    | le => exact lv_icmp_le hx hb hd hg (fun q => G (st2 := r) (hs.1 ((i32le g z0).mp q)) hls hst.tl.tl hh hl hP hS) (fun q => G (st2 := r) (hs.2 (fun z => q ((i32le g z0).mpr z))) hls hst.tl.tl hh hl hP hS)
  case getfield i =>
    simp only [Bool.and_eq_true, decide_eq_true_eq] at hg
    obtain ⟨⟨rfl, hb0⟩, hg⟩ := hg
    rw [show pc + 3 - pc = 3 by omega] at hd
    obtain ⟨o, r, rfl, hs1⟩ := xA1.inv hs
    obtain ⟨hsk, v, hs2, ev, hov⟩ := fgo.inv (ads := ads) hb0 hh hs1
    obtain ⟨hlk, ha10, hk⟩ := fl_in how hg
    have ho : o < nOb := shK_lt (by rw [hsk]; omega)
    have hsn : shN o = clM a := by
      rcases ckO o ho with q | q
      · rw [q.2, hsk]
      · omega
    refine va_get (D := D) (ci := a) (v := cvv ads v) (C := clN a) (T := clT a) (N := clM a) (ref := clN a) hx hb hts (uw_in ha10) hown2 hK hP o (by rw [wld_at ho, celE_c hsk ha10]) (fcs_at ha10) b.toNat hk (hts _ hlk) (fun x hx => by rw [← ckD a ha10 _ hk]; exact hx) ?_ hd (G (st2 := some v :: r) hs2 hls (okl.cons hov hst.tl) hh hl hP hS)
    rw [List.getElem?_map, List.getElem?_range (by omega), ev]
    rfl
  case putfield i =>
    simp only [Bool.and_eq_true, decide_eq_true_eq] at hg
    obtain ⟨⟨rfl, hb0⟩, hg⟩ := hg
    rw [show pc + 3 - pc = 3 by omega] at hd
    obtain ⟨hlk, ha10, hk⟩ := fl_in how hg
    have hfk := ckT a ha10 _ hk
    split at hs
    · rename_i v o r
      have ek : ((b.toNat : Nat) : Int) = b := by omega
      unfold pgo at hs
      split at hs
      · exact hs.elim
      · rename_i hsk
        have hsk := Nat.eq_of_beq_eq_true hsk
        have ho : o < nOb := shK_lt (by rw [hsk]; omega)
        have hsn : shN o = clM a := by
          rcases ckO o ho with q | q
          · rw [q.2, hsk]
          · omega
        have hlc : fkOf a b.toNat ≠ 2 → isLc o b = false → True := fun _ _ => trivial
        have cell : ∀ (x : Int) (w : Value), fvl ads (hup h o b x) o b.toNat = w → (wld ads cA h).set o (ads o, .inr (a, ((List.range (shN o)).map (fvl ads h o)).set b.toNat w)) = wld ads cA (hup h o b x) := by
          intro x w hw
          refine wld_set (fun q hq j => hup_ne hq j) ?_
          rw [celE_c hsk ha10]
          congr 2
          refine (range_set hw (fun j hj => ?_)).symm
          unfold fvl
          rw [show hup h o b x o (j : Int) = h o (j : Int) from if_neg (fun q => hj (by omega))]
        have stp : ∀ (x : Int) (w : Value) (ty : FieldType), clY a b.toNat = ty → ((clT a) b.toNat).2.2.2 = false → narrow ty w = w → fits ty w = true → fvl ads (hup h o b x) o b.toNat = w → okh (hup h o b x) → PW l ads cA D d m (pc + 3) ls r (hup h o b x) Q → W p l e R s mid args below meth c H locs 0 0 (MQ below (QcM ads cA D Q) args s 0 0 (inA ads)) (F0 mid pc lsC (w :: .ref (ads o) :: r.map (cv ads))) := by
          intro x w ty hty hfin hnar hfit hfv hok hgo
          refine va_put (D := D) (ci := a) (v := w) (ty := ty) (C := clN a) (T := clT a) (N := clM a) (ref := clN a) hx hb hts (uw_in ha10) (clY a) (ckY a ha10) (ckX a ha10) hown2 hK hP hD hS o (by rw [wld_at ho, celE_c hsk ha10]) (fcs_at ha10) b.toNat hk (hts _ hlk) (fun x hx => by rw [← ckD a ha10 _ hk]; exact hx) hfin (by rw [ckY a ha10 _ hk, hty]) hnar hfit (by simp; omega) hd (fun H1 locs1 hP1 hD1 hS1 => ?_)
          rw [cell x w hfv] at hP1
          exact G (st2 := r) hgo hls hst.tl.tl hok hl hP1 hS1
        have hne103 : a ≠ 103 := by omega
        split at hs
        · rename_i x hf0
          unfold fkOK at hfk
          rw [hf0] at hfk
          simp only [Bool.and_eq_true, decide_eq_true_eq, Bool.not_eq_true'] at hfk
          have g : -2147483648 ≤ x ∧ x < 2147483648 := hst.hd
          refine stp x (.int (Int32.ofInt x)) .int hfk.1 hfk.2 rfl rfl ?_ (hh.up (fun _ => g) (by omega)) hs
          unfold fvl; rw [hsk, hf0, ek]
          show Value.int (Int32.ofInt (if o = o ∧ b = b then x else h o b)) = _
          rw [if_pos ⟨rfl, rfl⟩]
        · rename_i x hf0
          unfold fkOK at hfk
          rw [hf0] at hfk
          simp only [Bool.and_eq_true, decide_eq_true_eq, Bool.not_eq_true'] at hfk
          have g : -2147483648 ≤ x ∧ x < 2147483648 := hst.hd
          refine stp x (.int (Int32.ofInt x)) .boolean hfk.1 hfk.2 ?_ ?_ ?_ (hh.up (fun _ => g) (by omega)) hs.2
          · rcases hs.1 with rfl | rfl <;> rfl
          · rcases hs.1 with rfl | rfl <;> rfl
          · unfold fvl; rw [hsk, hf0, ek]
            show Value.int (Int32.ofInt (if o = o ∧ b = b then x else h o b)) = _
            rw [if_pos ⟨rfl, rfl⟩]
        · rename_i x hf0
          unfold fkOK at hfk
          rw [hf0] at hfk
          simp only [Bool.and_eq_true, decide_eq_true_eq, Bool.not_eq_true'] at hfk
          have g : -9223372036854775808 ≤ x ∧ x < 9223372036854775808 := hst.hd
          refine stp x (.long (Int64.ofInt x)) .long hfk.1 hfk.2 rfl rfl ?_ (hh.up (fun q => ?_) g) hs
          · unfold fvl; rw [hsk, hf0, ek]
            show Value.long (Int64.ofInt (if o = o ∧ b = b then x else h o b)) = _
            rw [if_pos ⟨rfl, rfl⟩]
          · unfold isLc at q
            rw [hsk, hf0] at q
            simp at q
        · exact hs.elim
    · exact hs.elim
  case iaload =>
    simp only [decide_eq_true_eq] at hg
    subst hg
    rw [show pc + 1 - pc = 1 by omega] at hd
    obtain ⟨o, i, r, rfl, hs1⟩ := xAI.inv hs
    obtain ⟨hsk, hi, hs⟩ := ago.inv hs1
    have ho : o < nOb := shK_lt (by rw [hsk]; omega)
    have hn := shN_lt ho
    refine va_iald hx hb hK hP o 0 (cA := cA 0) (n := shN o) (f := fun j => Int32.ofInt (h o j)) (by rw [wld_at ho, celE_0 hsk]) rfl (i32in hi.1 hi.2 hn) hd ?_
    rw [i32clampC hi.1 (by omega)]
    exact G (st2 := vI (h o i) :: r) hs hls (okl.cons ((hh o i).1 (by unfold isLc; rw [hsk]; rfl)) hst.tl.tl) hh hl hP hS
  case laload =>
    simp only [decide_eq_true_eq] at hg
    subst hg
    rw [show pc + 1 - pc = 1 by omega] at hd
    obtain ⟨o, i, r, rfl, hs1⟩ := xAI.inv hs
    obtain ⟨hsk, hi, hs⟩ := ago.inv hs1
    have ho : o < nOb := shK_lt (by rw [hsk]; omega)
    have hn := shN_lt ho
    refine va_lald hx hb hK hP o 3 (cA := cA 3) (n := shN o) (f := fun j => Int64.ofInt (h o j)) (by rw [wld_at ho, celE_3 hsk]) rfl (i32in hi.1 hi.2 hn) hd ?_
    rw [i32clampC hi.1 (by omega)]
    exact G (st2 := vL (h o i) :: r) hs hls (okl.cons (hh o i).2 hst.tl.tl) hh hl hP hS
  case baload =>
    simp only [decide_eq_true_eq] at hg
    subst hg
    rw [show pc + 1 - pc = 1 by omega] at hd
    obtain ⟨o, i, r, rfl, hs1⟩ := xAI.inv hs
    clear hs
    have hs := hs1
    clear hs1
    unfold bgo at hs
    split at hs
    · rename_i hsk
      obtain ⟨hi, hs⟩ := hs
      have ho : o < nOb := shK_lt (by rw [hsk]; omega)
      have hn := shN_lt ho
      refine va_bald hx hb hK hP o 1 (cA := cA 1) (n := shN o) (f := fun j => Int32.ofInt (h o j)) (by rw [wld_at ho, celE_1 hsk]) rfl (i32in hi.1 hi.2 hn) hd ?_
      rw [i32clampC hi.1 (by omega)]
      exact G (st2 := vI (h o i) :: r) hs hls (okl.cons ((hh o i).1 (by unfold isLc; rw [hsk]; rfl)) hst.tl.tl) hh hl hP hS
    · rename_i hsk
      obtain ⟨hi, hs⟩ := hs
      have ho : o < nOb := shK_lt (by rw [hsk]; omega)
      have hn := shN_lt ho
      refine va_zald hx hb hK hP o 2 (cA := cA 2) (n := shN o) (f := fun j => Int32.ofInt (h o j)) (by rw [wld_at ho, celE_2 hsk]) rfl (i32in hi.1 hi.2 hn) hd ?_
      rw [i32clampC hi.1 (by omega)]
      exact G (st2 := vI (h o i) :: r) hs hls (okl.cons ((hh o i).1 (by unfold isLc; rw [hsk]; rfl)) hst.tl.tl) hh hl hP hS
    · exact hs.elim
  case aaload =>
    simp only [decide_eq_true_eq] at hg
    subst hg
    rw [show pc + 1 - pc = 1 by omega] at hd
    obtain ⟨o, i, r, rfl, hs1⟩ := xAI.inv hs
    clear hs
    have hs := hs1
    clear hs1
    unfold rgo at hs
    split at hs
    · exact hs.elim
    · rename_i hsk
      have hsk := Nat.eq_of_beq_eq_true hsk
      obtain ⟨hi, hs⟩ := hs
      have ho : o < nOb := shK_lt (by rw [hsk]; omega)
      have hn := shN_lt ho
      split at hs
      · rename_i q hq
        refine va_aldq hx hb hK hP o 4 (cA := cA 4) (n := shN o) (C := "ThimbleLaw$Text") (f := fun j => (shR o j).map ads) (by rw [wld_at ho, celE_4 hsk]) rfl (i32in hi.1 hi.2 hn) hd ?_
        rw [i32clamp hi.1 (by omega), hq]
        exact G (st2 := vA q :: r) hs hls (okl.cons trivial hst.tl.tl) hh hl hP hS
      · exact hs.elim
  case iastore =>
    simp only [decide_eq_true_eq] at hg
    subst hg
    rw [show pc + 1 - pc = 1 by omega] at hd
    first
      | obtain ⟨x, r0, rfl, hs0⟩ := xI1.inv hs
      | obtain ⟨x, r0, rfl, hs0⟩ := xL1.inv hs
    obtain ⟨o, i, r, rfl, hs1⟩ := xAI.inv hs0
    obtain ⟨hsk, hi, hs⟩ := ago.inv hs1
    have ho : o < nOb := shK_lt (by rw [hsk]; omega)
    have hn := shN_lt ho
    have g : -2147483648 ≤ x ∧ x < 2147483648 := hst.hd
    refine va_iast hx hb hK hP hD hS o 0 (cA := cA 0) (n := shN o) (f := fun j => Int32.ofInt (h o j)) (by rw [wld_at ho, celE_0 hsk]) rfl (i32in hi.1 hi.2 hn) hd (fun H1 locs1 hP1 hD1 hS1 => ?_)
    rw [← upd_cel hi.1 (by omega), ← celE_0 (ads := ads) (cA := cA) hsk, wld_set (fun q hq j => hup_ne hq j) rfl] at hP1
    exact G (st2 := r) hs hls hst.tl.tl.tl (hh.up (fun _ => g) (by omega)) hl hP1 hS1
  case lastore =>
    simp only [decide_eq_true_eq] at hg
    subst hg
    rw [show pc + 1 - pc = 1 by omega] at hd
    first
      | obtain ⟨x, r0, rfl, hs0⟩ := xI1.inv hs
      | obtain ⟨x, r0, rfl, hs0⟩ := xL1.inv hs
    obtain ⟨o, i, r, rfl, hs1⟩ := xAI.inv hs0
    obtain ⟨hsk, hi, hs⟩ := ago.inv hs1
    have ho : o < nOb := shK_lt (by rw [hsk]; omega)
    have hn := shN_lt ho
    have g : -9223372036854775808 ≤ x ∧ x < 9223372036854775808 := hst.hd
    refine va_last hx hb hK hP hD hS o 3 (cA := cA 3) (n := shN o) (f := fun j => Int64.ofInt (h o j)) (by rw [wld_at ho, celE_3 hsk]) rfl (i32in hi.1 hi.2 hn) hd (fun H1 locs1 hP1 hD1 hS1 => ?_)
    rw [← updL_cel hi.1 (by omega), ← celE_3 (ads := ads) (cA := cA) hsk, wld_set (fun q hq j => hup_ne hq j) rfl] at hP1
    exact G (st2 := r) hs hls hst.tl.tl.tl (hh.up (fun q => by unfold isLc at q; rw [hsk] at q; cases q) g) hl hP1 hS1
  case bastore =>
    simp only [decide_eq_true_eq] at hg
    subst hg
    rw [show pc + 1 - pc = 1 by omega] at hd
    obtain ⟨x, r0, rfl, hs0⟩ := xI1.inv hs
    obtain ⟨o, i, r, rfl, hs1⟩ := xAI.inv hs0
    clear hs hs0
    have hs := hs1
    clear hs1
    have g : -2147483648 ≤ x ∧ x < 2147483648 := hst.hd
    unfold bsto at hs
    split at hs
    · rename_i hsk
      obtain ⟨⟨hi, hv⟩, hs⟩ := hs
      have ho : o < nOb := shK_lt (by rw [hsk]; omega)
      have hn := shN_lt ho
      have hnar : vp_nar .byte (Int32.ofInt x) = Int32.ofInt x := by
        rw [vp_nar_byte]
        apply Int32.toInt_inj.mp
        rw [Int8.toInt_toInt32, Int32.toInt_toInt8, i32 g.1 g.2]
        exact Int.bmod_eq_of_le (by omega) (by omega)
      refine va_bast hx hb hK hP hD hS o 1 (cA := cA 1) (n := shN o) (f := fun j => Int32.ofInt (h o j)) (by rw [wld_at ho, celE_1 hsk]) rfl (i32in hi.1 hi.2 hn) hd (fun H1 locs1 hP1 hD1 hS1 => ?_)
      rw [hnar, ← upd_cel hi.1 (by omega), ← celE_1 (ads := ads) (cA := cA) hsk, wld_set (fun q hq j => hup_ne hq j) rfl] at hP1
      exact G (st2 := r) hs hls hst.tl.tl.tl (hh.up (fun _ => g) (by omega)) hl hP1 hS1
    · rename_i hsk
      obtain ⟨⟨hi, hv⟩, hs⟩ := hs
      have ho : o < nOb := shK_lt (by rw [hsk]; omega)
      have hn := shN_lt ho
      have hnar : vp_nar .boolean (Int32.ofInt x) = Int32.ofInt x := by
        rcases hv with rfl | rfl <;> rfl
      refine va_zast hx hb hK hP hD hS o 2 (cA := cA 2) (n := shN o) (f := fun j => Int32.ofInt (h o j)) (by rw [wld_at ho, celE_2 hsk]) rfl (i32in hi.1 hi.2 hn) hd (fun H1 locs1 hP1 hD1 hS1 => ?_)
      rw [hnar, ← upd_cel hi.1 (by omega), ← celE_2 (ads := ads) (cA := cA) hsk, wld_set (fun q hq j => hup_ne hq j) rfl] at hP1
      exact G (st2 := r) hs hls hst.tl.tl.tl (hh.up (fun _ => g) (by omega)) hl hP1 hS1
    · exact hs.elim
  case arraylength =>
    simp only [decide_eq_true_eq] at hg
    subst hg
    rw [show pc + 1 - pc = 1 by omega] at hd
    obtain ⟨o, r, rfl, hs1⟩ := xA1.inv hs
    unfold lgo at hs1
    split at hs1
    · exact hs1.elim
    · rename_i hk
      simp only [Bool.and_eq_true] at hk
      have k1 := Nat.le_of_ble_eq_true hk.1
      have k2 := Nat.le_of_ble_eq_true hk.2
      have ho : o < nOb := shK_lt (by omega)
      have hn := shN_lt ho
      have fin : W p l e R s mid args below meth c H locs 0 0 (MQ below (QcM ads cA D Q) args s 0 0 (inA ads)) (F0 mid (pc + 1) lsC (.int (Int32.ofInt (shN o : Int)) :: r.map (cv ads))) :=
        G (st2 := vI (shN o : Int) :: r) hs1 hls (okl.cons (by show (-2147483648 : Int) ≤ _ ∧ _; constructor <;> omega) hst.tl) hh hl hP hS
      have ev : Int32.ofNat (shN o) = Int32.ofInt (shN o : Int) := (Int32.ofInt_eq_ofNat).symm
      rcases (show shK o = 100 ∨ shK o = 101 ∨ shK o = 102 ∨ shK o = 103 ∨ shK o = 104 by omega) with q | q | q | q | q
      · exact va_alen hx hb hK hP o 0 (cA := cA 0) (by rw [wld_at ho, celE_0 q]) (ty := .int) rfl ev hd fin
      · exact va_alen hx hb hK hP o 1 (cA := cA 1) (by rw [wld_at ho, celE_1 q]) (ty := .byte) rfl ev hd fin
      · exact va_alen hx hb hK hP o 2 (cA := cA 2) (by rw [wld_at ho, celE_2 q]) (ty := .boolean) rfl ev hd fin
      · exact va_alen hx hb hK hP o 3 (cA := cA 3) (by rw [wld_at ho, celE_3 q]) (ty := .long) rfl ev hd fin
      · exact va_alen hx hb hK hP o 4 (cA := cA 4) (by rw [wld_at ho, celE_4 q]) (ty := .object "ThimbleLaw$Text") rfl ev hd fin
  case ireturn =>
    simp only [decide_eq_true_eq] at hg
    subst hg
    rw [show pc + 1 - pc = 1 by omega] at hd
    have hrt := gM_rt hm
    unfold rtOK at hrt
    split at hs
    · rename_i x
      split at hs
      · rename_i hq
        rw [hq] at hrt
        simp only [decide_eq_true_eq] at hrt
        rw [hrt] at hr
        exact W.iret hx hb hr (fun t ht hW => ⟨⟨vI x, h, rfl, hs, by rw [ht]; exact hP, hh, hst.hd⟩, hS.F ht⟩) hS.2.2 hd hlocks
      · rename_i hq
        rw [hq] at hrt
        simp only [decide_eq_true_eq] at hrt
        rw [hrt] at hr
        refine W.zret hx hb hr ?_ (fun t ht hW => ⟨⟨vI x, h, rfl, hs.2, by rw [ht]; exact hP, hh, hst.hd⟩, hS.F ht⟩) hS.2.2 hd hlocks
        rcases hs.1 with rfl | rfl <;> rfl
      · exact hs.elim
    · exact hs.elim
  case lreturn =>
    simp only [decide_eq_true_eq] at hg
    subst hg
    rw [show pc + 1 - pc = 1 by omega] at hd
    have hrt := gM_rt hm
    unfold rtOK at hrt
    split at hs
    · rename_i x
      split at hs
      · rename_i hq
        rw [hq] at hrt
        simp only [decide_eq_true_eq] at hrt
        rw [hrt] at hr
        exact W.lret hx hb hr (fun t ht hW => ⟨⟨vL x, h, rfl, hs, by rw [ht]; exact hP, hh, hst.hd⟩, hS.F ht⟩) hS.2.2 hd hlocks
      · exact hs.elim
    · exact hs.elim
  case areturn =>
    simp only [decide_eq_true_eq] at hg
    subst hg
    rw [show pc + 1 - pc = 1 by omega] at hd
    have hrt := gM_rt hm
    unfold rtOK at hrt
    split at hs
    · rename_i x
      split at hs
      · rename_i hq
        rw [hq] at hrt
        simp only [decide_eq_true_eq] at hrt
        rw [hrt] at hr
        refine W.aret hx hb hr (Or.inl ⟨_, rfl⟩) ?_ (fun t ht hW => ⟨⟨some (.inr (.inr x)), h, rfl, hs, by rw [ht]; exact hP, hh, trivial⟩, hS.F ht⟩) hS.2.2 hd hlocks
        cases x with
        | none => exact Or.inl rfl
        | some o => exact Or.inr ⟨_, rfl⟩
      · exact hs.elim
    · exact hs.elim
  case return_ =>
    simp only [decide_eq_true_eq] at hg
    subst hg
    rw [show pc + 1 - pc = 1 by omega] at hd
    have hrt := gM_rt hm
    unfold rtOK at hrt
    split at hs
    · split at hs
      · rename_i hq
        rw [hq] at hrt
        simp only [decide_eq_true_eq] at hrt
        rw [hrt] at hr
        exact W.vret hx hb hr (fun t ht hW => ⟨⟨none, h, rfl, hs, by rw [ht]; exact hP, hh, trivial⟩, hS.F ht⟩) hS.2.2 hd hlocks
      · exact hs.elim
    · exact hs.elim
  case tableswitch dflt lo hi offs =>
    obtain ⟨x, r, rfl, hs1⟩ := xI1.inv hs
    have g : -2147483648 ≤ x ∧ x < 2147483648 := hst.hd
    have ex : (Int32.ofInt x).toInt = x := i32 g.1 g.2
    unfold swOK at hg
    simp only [decide_eq_true_eq] at hg
    obtain ⟨g1, g2, g3⟩ := hg
    have hlen : (nth (0, []) swT a).2.length = offs.toList.length := by
      have := congrArg List.length g2
      simpa using this
    rcases sw.inv hs1 with ⟨i, k, t, q1, q2, q3⟩ | ⟨q1, q2⟩
    · have g4 := congrArg (fun l => l[i]?) g2
      simp only [List.getElem?_map, q1, Option.map_some, List.getElem?_zipIdx] at g4
      cases ho : offs.toList[i]? with
      | none => rw [ho] at g4; simp at g4
      | some o =>
        rw [ho] at g4
        simp only [Option.map_some, Option.some.injEq, Prod.mk.injEq] at g4
        have hi : i < offs.toList.length := (List.getElem?_eq_some_iff.mp ho).1
        refine lv_tableIn hx hb hd (by rw [ex]; omega) (by rw [ex]; omega) (off := o) (tgt := t) ?_ (by omega) (G (st2 := r) q3 hls hst.tl hh hl hP hS)
        rw [ex, show (x - lo).toNat = i by omega, ← Array.getElem?_toList]
        exact ho
    · refine lv_tableOut hx hb hd (tgt := (nth (0, []) swT a).1) ?_ (by omega) (G (st2 := r) q2 hls hst.tl hh hl hP hS)
      rw [ex]
      by_cases hlo : x < lo
      · exact Or.inl hlo
      · right
        by_cases z : hi < x
        · exact z
        · exfalso
          have hi : (x - lo).toNat < (nth (0, []) swT a).2.length := by omega
          have hq := List.getElem?_eq_getElem hi
          have g4 := congrArg (fun l => l[(x - lo).toNat]?) g2
          simp only [List.getElem?_map, hq, Option.map_some, List.getElem?_zipIdx] at g4
          have ho := List.getElem?_eq_getElem (l := offs.toList) (i := (x - lo).toNat) (by omega)
          rw [ho] at g4
          simp only [Option.map_some, Option.some.injEq, Prod.mk.injEq] at g4
          exact q1 _ _ hq (by omega)
  case lookupswitch dflt ps =>
    obtain ⟨x, r, rfl, hs1⟩ := xI1.inv hs
    have g : -2147483648 ≤ x ∧ x < 2147483648 := hst.hd
    have ex : (Int32.ofInt x).toInt = x := i32 g.1 g.2
    unfold lkOK at hg
    simp only [Bool.and_eq_true, decide_eq_true_eq] at hg
    obtain ⟨⟨g1, g2⟩, g3⟩ := hg
    obtain ⟨off, tgt, q1, q2, q3⟩ := sw.lk g1 g2 hs1
    exact lv_lookup hx hb hd g3 (by rw [ex]; exact q1) q2 (G (st2 := r) q3 hls hst.tl hh hl hP hS)
  case invokestatic i =>
    simp only [Bool.and_eq_true, decide_eq_true_eq] at hg
    obtain ⟨rfl, hg⟩ := hg
    rw [show pc + 3 - pc = 3 by omega] at hd
    unfold invS at hs
    split at hs
    · rename_i hlt
      rw [hlt] at hg
      simp only [cond_false, Bool.and_eq_true, Bool.or_eq_true] at hg
      obtain ⟨hst1, hlk⟩ := hg
      unfold invM at hs
      split at hs
      · exact hs.elim
      · rename_i hok
        obtain ⟨k1, k2, k3⟩ := okC.inv hok
        obtain ⟨e1, -⟩ := takeR_spec (nAr a) [] st (by simpa using k3)
        cases d with
        | zero => exact hs.elim
        | succ dd =>
          have ha : a < nMe := by
            rcases hlk with q | q
            · exact (ml_in how q).2
            · exact (mn_in how q).2
          have hM := met_in (l := l) (ads := ads) (cA := cA) (D := D) (d := dd) ha hs k2 (okl_take k3 hst) hh
          have hstk : st.map (cv ads) = ((takeR (nAr a) [] st).map (cv ads)).reverse ++ (dropN (nAr a) st).map (cv ads) := by
            conv => lhs; rw [e1]
            rw [List.map_append, List.map_reverse]
          have hws : GoodIn BIG (wsM a) := fun w hw => by
            rcases List.mem_cons.mp hw with rfl | hw
            · exact big_ok _ (code_in ha)
            · exact big_ok _ hw
          have hroom : (rmD dd).frames + 1 ≤ R.frames ∧ 8 + (mLo a + 11) + (rmD dd).locals ≤ R.locals := by
            have := (gM_lo ha).1
            have h1 := hR.1
            have h2 := hR.2
            show dd + 4 + 1 ≤ R.frames ∧ 8 + (mLo a + 11) + (40 * dd + 200) ≤ R.locals
            constructor <;> omega
          have hpre : PreS s H (PcM ads cA D (takeR (nAr a) [] st) h) ((takeR (nAr a) [] st).map (cv ads)) :=
            ⟨PcM.blind, fun U hU hW => ⟨rfl, by rw [hU]; exact hP, va_K.moved hW.alike hK, hN.kept hW, hX.kept hS hU hW⟩⟩
          have hrun : va_Run p l e R s mid args below meth c H locs 0 0 0 0 (F0 mid pc lsC (st.map (cv ads))) ((dropN (nAr a) st).map (cv ads)) (QcM ads cA D (fun r h2 => PW l ads cA D (dd + 1) m (pc + 3) ls (pushR r (dropN (nAr a) st)) h2 Q) ((takeR (nAr a) [] st).map (cv ads)).toArray) (inA ads) := by
            rcases hlk with q | q
            · exact va_runS ⟨hx, hb, hml, hown2, hts⟩ hM ⟨callB_of (nAr a) hts hws rfl rfl rfl (hts _ (init_in ha)) (hts _ (ml_in how q).1) ⟨(gM_mh ha).1, (gM_mh ha).2, gM_st ha hst1⟩ hroom, hts _ (stat_in ha hst1)⟩ hpre rfl (by rw [List.length_map]; exact k3) hl.size hstk (lv_room (by rw [cat_map]; exact k1)) hd ⟨Nat.zero_le _, Nat.zero_le _⟩
            · exact va_runSN ⟨hx, hb, hml, hown2, hts⟩ hM ⟨va_cnB (nAr a) hts hws rfl rfl rfl (hN _ _ _ how q) (hts _ (init_in ha)) ⟨(gM_mh ha).1, (gM_mh ha).2, gM_st ha hst1⟩ hroom, hts _ (stat_in ha hst1), trivial⟩ hpre rfl (by rw [List.length_map]; exact k3) hl.size hstk (lv_room (by rw [cat_map]; exact k1)) hd ⟨Nat.zero_le _, Nat.zero_le _⟩
          refine call_on hrun hS (fun r h2 H1 locs1 hq hP1 hok1 hor hS1 => ?_)
          rw [push_map]
          exact G (st2 := pushR r (dropN (nAr a) st)) hq hls (okl_push hor (okl_drop hst)) hok1 hl hP1 hS1
    · rename_i hlt
      rw [hlt] at hg
      simp only [cond_true] at hg
      split at hs
      · rename_i ha0
        rw [ha0] at hg
        unfold copyM at hs
        split at hs
        · rename_i n dp q sp o r
          split at hs
          · exact hs.elim
          · rename_i hk
            simp only [Bool.and_eq_true] at hk
            have hko := Nat.eq_of_beq_eq_true hk.1
            have hkq := Nat.eq_of_beq_eq_true hk.2.1
            have hcat := Nat.le_of_ble_eq_true hk.2.2
            obtain ⟨⟨c1, c2, c3, c4, c5⟩, hs⟩ := hs
            have ho : o < nOb := shK_lt (by rw [hko]; omega)
            have hq : q < nOb := shK_lt (by rw [hkq]; omega)
            have hno := shN_lt ho
            have hnq := shN_lt hq
            have z0 : (0 : Int32) = Int32.ofInt 0 := rfl
            have nn : ∀ z : Int, 0 ≤ z → z < 2147483648 → ¬ Int32.ofInt z < 0 := fun z h1 h2 => by rw [z0, i32lt (by omega) (by omega)]; omega
            refine va_copyi hx hb hsz hown2 (hts _ (ac_in hg)) (hts _ ac2_in.1) (hts _ ac2_in.2.1) (hts _ ac2_in.2.2) hK hP hD hS o q 0 0 (c0 := cA 0) (c1 := cA 0) (n0 := shN o) (n1 := shN q) (f := fun j => Int32.ofInt (h o j)) (g := fun j => Int32.ofInt (h q j)) (ty := .int) (by rw [wld_at ho, celE_0 hko]) (by rw [wld_at hq, celE_0 hkq]) rfl rfl rfl (nn sp c1 (by omega)) (nn dp c2 (by omega)) (nn n c3 (by omega)) (by rw [i32clamp c1 (by omega), i32clamp c3 (by omega)]; omega) (by rw [i32clamp c2 (by omega), i32clamp c3 (by omega)]; omega) (fun _ _ => rfl) (by have := hR.1; omega) ?_ hd (fun H1 locs1 hP1 hD1 hS1 => ?_)
            · rw [cat_map]
              have e9 : nativeFrameWords "java/lang/System" "arraycopy" 5 = 7 := by decide
              rw [e9]
              have := hR.2
              omega
            · rw [← cpy_cel c1 c2 c3 (by omega) (by omega) (by omega), ← celE_0 (ads := ads) (cA := cA) hkq, wld_set (h2 := hcp h o sp q dp n) (fun z hz j => by unfold hcp; exact if_neg (fun w => hz w.1)) rfl] at hP1
              exact G (st2 := r) hs hls hst.tl.tl.tl.tl.tl (hh.cp hko hkq) hl hP1 hS1
        · exact hs.elim
      · rename_i ha0
        rw [ha0] at hg
        unfold maxM at hs
        obtain ⟨x, y, r, rfl, hs1⟩ := xI2.inv hs
        split at hs1
        · exact hs1.elim
        · rename_i hk
          have hcat := Nat.le_of_ble_eq_true hk
          have gy : -2147483648 ≤ y ∧ y < 2147483648 := hst.hd
          have gx : -2147483648 ≤ x ∧ x < 2147483648 := hst.tl.hd
          refine va_mmax hx hb hsz hown2 (hts _ (ma_in hg)) (hts _ ma2_in.2.1) (hts _ ma2_in.1) (hts _ ma2_in.2.2.2.2.1) (by have := hR.1; omega) (by rw [cat_map]; have := hR.2; omega) (Nat.zero_le _) (Nat.zero_le _) hd ?_
          have ev : (if Int32.ofInt x < Int32.ofInt y then Int32.ofInt y else Int32.ofInt x) = Int32.ofInt (max x y) := by
            by_cases hc : x < y
            · rw [if_pos ((i32lt gx gy).mpr hc), show max x y = y by omega]
            · rw [if_neg (fun z => hc ((i32lt gx gy).mp z)), show max x y = x by omega]
          rw [ev]
          exact G (st2 := vI (max x y) :: r) hs1 hls (okl.cons (by show (-2147483648 : Int) ≤ _ ∧ _; constructor <;> omega) hst.tl.tl) hh hl hP hS
      · rename_i ha0
        rw [ha0] at hg
        unfold minM at hs
        obtain ⟨x, y, r, rfl, hs1⟩ := xI2.inv hs
        split at hs1
        · exact hs1.elim
        · rename_i hk
          have hcat := Nat.le_of_ble_eq_true hk
          have gy : -2147483648 ≤ y ∧ y < 2147483648 := hst.hd
          have gx : -2147483648 ≤ x ∧ x < 2147483648 := hst.tl.hd
          refine va_mmin hx hb hsz hown2 (hts _ (ma_in hg)) (hts _ ma2_in.2.2.1) (hts _ ma2_in.1) (hts _ ma2_in.2.2.2.2.2.1) (by have := hR.1; omega) (by rw [cat_map]; have := hR.2; omega) (Nat.zero_le _) (Nat.zero_le _) hd ?_
          have ev : (if Int32.ofInt y < Int32.ofInt x then Int32.ofInt y else Int32.ofInt x) = Int32.ofInt (min x y) := by
            by_cases hc : y < x
            · rw [if_pos ((i32lt gy gx).mpr hc), show min x y = y by omega]
            · rw [if_neg (fun z => hc ((i32lt gy gx).mp z)), show min x y = x by omega]
          rw [ev]
          exact G (st2 := vI (min x y) :: r) hs1 hls (okl.cons (by show (-2147483648 : Int) ≤ _ ∧ _; constructor <;> omega) hst.tl.tl) hh hl hP hS
      · rename_i ha0
        rw [ha0] at hg
        unfold absM at hs
        obtain ⟨x, r, rfl, hs1⟩ := xI1.inv hs
        split at hs1
        · exact hs1.elim
        · rename_i hk
          have hcat := Nat.le_of_ble_eq_true hk
          have gx : -2147483648 ≤ x ∧ x < 2147483648 := hst.hd
          refine va_mabs hx hb hsz hown2 (hts _ (ma_in hg)) (hts _ ma2_in.2.2.2.1) (hts _ ma2_in.1) (hts _ ma2_in.2.2.2.2.2.2) (by have := hR.1; omega) (by rw [cat_map]; have := hR.2; omega) (Nat.zero_le _) (Nat.zero_le _) hd ?_
          have z0 : (0 : Int32) = Int32.ofInt 0 := rfl
          have ev : (if 0 ≤ Int32.ofInt x then Int32.ofInt x else 0 - Int32.ofInt x) = Int32.ofInt (if 0 ≤ x then x else 0 - x) := by
            by_cases hc : 0 ≤ x
            · rw [if_pos (by rw [z0, i32le (by omega) gx]; exact hc), if_pos hc]
            · rw [if_neg (by rw [z0, i32le (by omega) gx]; exact hc), if_neg hc, Int32.ofInt_sub]; rfl
          rw [ev]
          have g2 := hs1.1
          exact G (st2 := vI (if 0 ≤ x then x else 0 - x) :: r) hs1.2 hls (okl.cons (by show (-2147483648 : Int) ≤ _ ∧ _; split <;> constructor <;> omega) hst.tl) hh hl hP hS
      · exact hs.elim
  case invokevirtual i =>
    simp only [Bool.and_eq_true, decide_eq_true_eq] at hg
    obtain ⟨rfl, hg⟩ := hg
    rw [show pc + 3 - pc = 3 by omega] at hd
    unfold invV at hs
    split at hs
    · rename_i ha0
      rw [ha0] at hg
      simp only [cond_true, decide_eq_true_eq] at hg
      obtain ⟨h5, rfl⟩ := hg
      rw [h5] at hown2
      unfold lenM at hs
      split at hs
      · rename_i r
        split at hs
        · exact hs.elim
        · rename_i hk
          have hcat := Nat.le_of_ble_eq_true hk
          exact str_len hx hb hml hl.size hown2 hts hS hX ⟨by have := hR.1; omega, by have := hR.2; omega⟩ (by rw [cat_map]; exact hcat) hd (fun locs1 hS1 => G (st2 := vI 157 :: r) hs hls (okl.cons (by show (-2147483648 : Int) ≤ _ ∧ _; constructor <;> omega) hst.tl) hh hl hP hS1)
      · exact hs.elim
    · rename_i ha0
      rw [ha0] at hg
      simp only [cond_false] at hg
      split at hs
      · rename_i ha1
        rw [ha1] at hg
        simp only [cond_true, decide_eq_true_eq] at hg
        obtain ⟨h5, rfl⟩ := hg
        rw [h5] at hown2
        unfold chrM at hs
        split at hs
        · rename_i i r
          split at hs
          · exact hs.elim
          · rename_i hk
            have hcat := Nat.le_of_ble_eq_true hk
            refine str_chr hx hb hml hl.size hown2 hts hS hX ⟨by have := hR.1; omega, by have := hR.2; omega⟩ (by rw [cat_map]; exact hcat) hd hs.1.1 hs.1.2 (fun locs1 hS1 => G (st2 := vI (nth 0 strB i.toNat) :: r) hs.2 hls (okl.cons ?_ hst.tl.tl) hh hl hP hS1)
            have : ∀ k, k < 157 → -2147483648 ≤ nth 0 strB k ∧ nth 0 strB k < 2147483648 := by decide +kernel
            have h1 := hs.1
            exact this i.toNat (by omega)
        · exact hs.elim
      · rename_i ha1
        rw [ha1] at hg
        simp only [cond_false, Bool.and_eq_true, Bool.not_eq_true'] at hg
        obtain ⟨hst1, hlk⟩ := hg
        split at hs
        · exact hs.elim
        · rename_i hor0
          unfold invM at hs
          split at hs
          · exact hs.elim
          · rename_i hok
            obtain ⟨k1, k2, k3⟩ := okC.inv hok
            obtain ⟨e1, -⟩ := takeR_spec (nAr a) [] st (by simpa using k3)
            obtain ⟨hln, ha⟩ := ml_in how hlk
            obtain ⟨⟨hc10, hcn⟩, hdesc⟩ := gM_vi ha hst1
            unfold okR at hor0
            cases d with
            | zero => exact hs.elim
            | succ dd =>
              have hM := met_in (l := l) (ads := ads) (cA := cA) (D := D) (d := dd) ha hs k2 (okl_take k3 hst) hh
              cases htk : takeR (nAr a) [] st with
              | nil => rw [htk] at hor0; cases hor0
              | cons v0 As =>
                rw [htk] at hor0 hM e1 k3
                match v0, hor0 with
                | some (.inr (.inr (some o))), hor0 =>
                  have hko : shK o = mCi a := Nat.eq_of_beq_eq_true hor0
                  have ho : o < nOb := shK_lt (by rw [hko]; omega)
                  have hstk : st.map (cv ads) = (As.map (cv ads)).reverse ++ .ref (ads o) :: (dropN (nAr a) st).map (cv ads) := by
                    conv => lhs; rw [e1]
                    rw [List.map_append, List.map_reverse, List.map_cons, List.reverse_cons, List.append_assoc]
                    rfl
                  have hws : GoodIn BIG (wsM a) := fun w hw => by
                    rcases List.mem_cons.mp hw with rfl | hw
                    · exact big_ok _ (code_in ha)
                    · exact big_ok _ hw
                  have hroom : (rmD dd).frames + 1 ≤ R.frames ∧ 8 + (mLo a + 11) + (rmD dd).locals ≤ R.locals := by
                    have := (gM_lo ha).1
                    have h1 := hR.1
                    have h2 := hR.2
                    show dd + 4 + 1 ≤ R.frames ∧ 8 + (mLo a + 11) + (40 * dd + 200) ≤ R.locals
                    constructor <;> omega
                  have hpre : PreV s H (mNm a).cls (ads o) (PcM ads cA D (some (.inr (.inr (some o))) :: As) h) (As.map (cv ads)) := by
                    refine ⟨PcM.blind, ?_, fun U hU hW => ⟨rfl, by rw [hU]; exact hP, va_K.moved hW.alike hK, hN.kept hW, hX.kept hS hU hW⟩⟩
                    rw [← hcn]
                    exact va_recv hK hP (fcs_at hc10) (q0 := o) (by rw [wld_at ho, celE_c hko hc10])
                  have hn : (parseMethodDescriptor (mNm a).desc).map (fun d => d.parameters.length) = some (nAr a - 1) := by
                    cases hpd : parseMethodDescriptor (mNm a).desc with
                    | none => rw [hpd] at hdesc; cases hdesc
                    | some sg =>
                      rw [hpd] at hdesc
                      have : sg.parameters.length + 1 = nAr a := Option.some.inj hdesc
                      show some sg.parameters.length = some _
                      rw [← this]; rfl
                  have hrun : va_Run p l e R s mid args below meth c H locs 0 0 0 0 (F0 mid pc lsC (st.map (cv ads))) ((dropN (nAr a) st).map (cv ads)) (QcM ads cA D (fun r h2 => PW l ads cA D (dd + 1) m (pc + 3) ls (pushR r (dropN (nAr a) st)) h2 Q) (Value.ref (ads o) :: As.map (cv ads)).toArray) (inA ads) :=
                    va_runV ⟨hx, hb, hml, hown2, hts⟩ hM ⟨callB_of (nAr a - 1) hts hws rfl rfl rfl (hts _ (init_in ha)) (hts _ hln) ⟨(gM_mh ha).1, (gM_mh ha).2, hn⟩ hroom, hts _ (inst_in ha hst1), hts _ (sel_in ha hst1)⟩ hpre rfl (by rw [List.length_map]; simp at k3; omega) hl.size hstk (lv_room (by rw [cat_map]; exact k1)) hd ⟨Nat.zero_le _, Nat.zero_le _⟩
                  refine call_on hrun hS (fun r h2 H1 locs1 hq hP1 hok1 hor hS1 => ?_)
                  rw [push_map]
                  exact G (st2 := pushR r (dropN (nAr a) st)) hq hls (okl_push hor (okl_drop hst)) hok1 hl hP1 hS1
theorem runs_PW (l : Launch) {ads : Nat → Nat} {cA : Nat → ClassId} {D : va_G} (hap : apA ads) {d m pc : Nat} {ls st : List AV} {h : Hp} {Q : aPO} (hr : Runs d m pc ls st h Q) : PW l ads cA D d m pc ls st h Q :=
  hr _ ⟨PW.mono l ads cA D, fun d m pc ls st h Q => shut_step l hap d m pc ls st h Q⟩
