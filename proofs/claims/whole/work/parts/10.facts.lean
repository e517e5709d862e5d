def BIG : List Cond := lw_tbl.filter goodWord
theorem big_of {w : Cond} (h : w ∈ lw_tbl) (hg : goodWord w = true) : w ∈ BIG := List.mem_filter.mpr ⟨h, hg⟩
theorem big_ok : GoodIn BIG BIG := fun w h => ⟨h, good_of_word (List.mem_filter.mp h).2⟩
def wsM (m : Nat) : List Cond := .code (mNm m) (mBy m) (mLo m) (mRt m) :: BIG
theorem mtT_len : ∀ m, m < nMe → m / 16 < mtT.length ∧ m % 16 < (nth [] mtT (m / 16)).length := by decide +kernel
theorem ckCs : ∀ i, i < 20 → (nth [] mtT i).map miO = (nth [] mtT i).map miR := by
  intro i h
  match i, h with
  | 0, _ => exact ckC0
  | 1, _ => exact ckC1
  | 2, _ => exact ckC2
  | 3, _ => exact ckC3
  | 4, _ => exact ckC4
  | 5, _ => exact ckC5
  | 6, _ => exact ckC6
  | 7, _ => exact ckC7
  | 8, _ => exact ckC8
  | 9, _ => exact ckC9
  | 10, _ => exact ckC10
  | 11, _ => exact ckC11
  | 12, _ => exact ckC12
  | 13, _ => exact ckC13
  | 14, _ => exact ckC14
  | 15, _ => exact ckC15
  | 16, _ => exact ckC16
  | 17, _ => exact ckC17
  | 18, _ => exact ckC18
  | 19, _ => exact ckC19
  | i + 20, h => exact absurd h (by omega)
theorem ckFs : ∀ w, w < 13 → (nth [] flW w).map (fun e => tpA e.2) = (nth [] flW w).map (fun e => some (Cond.fieldLink (ownN w) e.1.1 (clN e.1.2.1) ((clT e.1.2.1) e.1.2.2).2.1 ((clT e.1.2.1) e.1.2.2).2.2.1)) := by
  intro w h
  match w, h with
  | 0, _ => exact ckF0
  | 1, _ => exact ckF1
  | 2, _ => exact ckF2
  | 3, _ => exact ckF3
  | 4, _ => exact ckF4
  | 5, _ => exact ckF5
  | 6, _ => exact ckF6
  | 7, _ => exact ckF7
  | 8, _ => exact ckF8
  | 9, _ => exact ckF9
  | 10, _ => exact ckF10
  | 11, _ => exact ckF11
  | 12, _ => exact ckF12
  | w + 13, h => exact absurd h (by omega)
theorem ckLs : ∀ w, w < 13 → (nth [] mlW w).map (fun e => tpA e.2) = (nth [] mlW w).map (fun e => some (Cond.methodLink (ownN w) e.1.1 (mNm e.1.2))) := by
  intro w h
  match w, h with
  | 0, _ => exact ckL0
  | 1, _ => exact ckL1
  | 2, _ => exact ckL2
  | 3, _ => exact ckL3
  | 4, _ => exact ckL4
  | 5, _ => exact ckL5
  | 6, _ => exact ckL6
  | 7, _ => exact ckL7
  | 8, _ => exact ckL8
  | 9, _ => exact ckL9
  | 10, _ => exact ckL10
  | 11, _ => exact ckL11
  | 12, _ => exact ckL12
  | w + 13, h => exact absurd h (by omega)
theorem ckNs : ∀ w, w < 13 → (nth [] mnW w).map (fun e => tpA e.2) = (nth [] mnW w).map (fun e => some (Cond.methodLinkNest (ownN w) e.1.1 (mNm e.1.2) "ThimbleLaw")) := by
  intro w h
  match w, h with
  | 0, _ => exact ckN0
  | 1, _ => exact ckN1
  | 2, _ => exact ckN2
  | 3, _ => exact ckN3
  | 4, _ => exact ckN4
  | 5, _ => exact ckN5
  | 6, _ => exact ckN6
  | 7, _ => exact ckN7
  | 8, _ => exact ckN8
  | 9, _ => exact ckN9
  | 10, _ => exact ckN10
  | 11, _ => exact ckN11
  | 12, _ => exact ckN12
  | w + 13, h => exact absurd h (by omega)
theorem ckWs : ∀ c, c < 10 → (nth [] uwH c).map tpA = (u_ws (clN c) (clT c) (clM c)).map some := by
  intro c h
  match c, h with
  | 0, _ => exact ckW0
  | 1, _ => exact ckW1
  | 2, _ => exact ckW2
  | 3, _ => exact ckW3
  | 4, _ => exact ckW4
  | 5, _ => exact ckW5
  | 6, _ => exact ckW6
  | 7, _ => exact ckW7
  | 8, _ => exact ckW8
  | 9, _ => exact ckW9
  | c + 10, h => exact absurd h (by omega)
theorem map_at {α β : Type} {f g : α → β} {l : List α} (h : l.map f = l.map g) {x : α} (hx : x ∈ l) : f x = g x := List.map_inj_left.mp h x hx
theorem mi_at {m : Nat} (h : m < nMe) : miO (mi m) = miR (mi m) := by
  obtain ⟨h1, h2⟩ := mtT_len m h
  have h1 : m / 16 < 20 := h1
  exact map_at (ckCs _ h1) (nth_mem h2)
theorem gM {m : Nat} (h : m < nMe) : goodM m = true := List.all_eq_true.mp ckM m (List.mem_range.mpr h)
theorem gM_own {m : Nat} (h : m < nMe) : ownN (mOw m) = (mNm m).cls := by
  have g := gM h
  unfold goodM at g
  simp only [Bool.and_eq_true, decide_eq_true_eq] at g
  exact g.1
theorem gM_plain {m : Nat} (h : m < nMe) : Jvm.plainName (mNm m).cls = true := by
  have g := gM h
  unfold goodM at g
  simp only [Bool.and_eq_true, decide_eq_true_eq] at g
  exact g.2.1
theorem gM_mh {m : Nat} (h : m < nMe) : (mNm m).cls ≠ "java/lang/invoke/MethodHandle" ∧ (mNm m).cls ≠ "java/lang/invoke/VarHandle" := by
  have g := gM h
  unfold goodM at g
  simp only [Bool.and_eq_true, decide_eq_true_eq] at g
  exact g.2.2.1
theorem gM_rt {m : Nat} (h : m < nMe) : rtOK m = true := by
  have g := gM h
  unfold goodM at g
  simp only [Bool.and_eq_true, decide_eq_true_eq] at g
  exact g.2.2.2.1
theorem gM_lo {m : Nat} (h : m < nMe) : mLo m ≤ 12 ∧ mLo m = (mi m).2.2.1 ∧ mOw m < 13 := by
  have g := gM h
  unfold goodM at g
  simp only [Bool.and_eq_true, decide_eq_true_eq] at g
  exact g.2.2.2.2.1
theorem gM_st {m : Nat} (h : m < nMe) (hs : mSt m = true) : (parseMethodDescriptor (mNm m).desc).map (fun d => d.parameters.length) = some (nAr m) := by
  have g := gM h
  unfold goodM at g
  simp only [Bool.and_eq_true, decide_eq_true_eq, hs] at g
  exact g.2.2.2.2.2
theorem gM_vi {m : Nat} (h : m < nMe) (hs : mSt m = false) : (mCi m < 10 ∧ clN (mCi m) = (mNm m).cls) ∧ (parseMethodDescriptor (mNm m).desc).map (fun d => d.parameters.length + 1) = some (nAr m) := by
  have g := gM h
  unfold goodM at g
  simp only [Bool.and_eq_true, decide_eq_true_eq, hs] at g
  exact ⟨g.2.2.2.2.2.1, g.2.2.2.2.2.2⟩
theorem code_in {m : Nat} (h : m < nMe) : Cond.code (mNm m) (mBy m) (mLo m) (mRt m) ∈ BIG := by
  have g := mi_at h
  refine big_of (tpA_in (q := nth (99, 0) (mi m).2.2.2.2.2 0) ?_) rfl
  rw [(gM_lo h).2.1]
  unfold miO miR at g
  split at g
  · exact (List.cons.inj g).1
  · exact (List.cons.inj g).1
theorem init_in {m : Nat} (h : m < nMe) : Cond.initialized (mNm m).cls ∈ BIG := by
  have g := mi_at h
  refine big_of (tpA_in (q := nth (99, 0) (mi m).2.2.2.2.2 1) ?_) rfl
  unfold miO miR at g
  split at g
  · exact (List.cons.inj (List.cons.inj g).2).1
  · exact (List.cons.inj (List.cons.inj g).2).1
theorem stat_in {m : Nat} (h : m < nMe) (hs : mSt m = true) : Cond.static (mNm m) ∈ BIG := by
  have g := mi_at h
  refine big_of (tpA_in (q := nth (99, 0) (mi m).2.2.2.2.2 2) ?_) rfl
  have hs : (mi m).2.2.2.2.1 = true := hs
  unfold miO miR at g
  rw [hs] at g
  exact (List.cons.inj (List.cons.inj (List.cons.inj g).2).2).1
theorem inst_in {m : Nat} (h : m < nMe) (hs : mSt m = false) : Cond.instanceMethod (mNm m) ∈ BIG := by
  have g := mi_at h
  refine big_of (tpA_in (q := nth (99, 0) (mi m).2.2.2.2.2 2) ?_) rfl
  have hs : (mi m).2.2.2.2.1 = false := hs
  unfold miO miR at g
  rw [hs] at g
  exact (List.cons.inj (List.cons.inj (List.cons.inj g).2).2).1
theorem sel_in {m : Nat} (h : m < nMe) (hs : mSt m = false) : Cond.selects (mNm m).cls (mNm m) (mNm m) ∈ BIG := by
  have g := mi_at h
  refine big_of (tpA_in (q := nth (99, 0) (mi m).2.2.2.2.2 3) ?_) rfl
  have hs : (mi m).2.2.2.2.1 = false := hs
  unfold miO miR at g
  rw [hs] at g
  exact (List.cons.inj (List.cons.inj (List.cons.inj (List.cons.inj g).2).2).2).1
theorem mem_of_contains {α : Type} [BEq α] [LawfulBEq α] {l : List α} {x : α} (h : l.contains x = true) : x ∈ l := by
  simpa using h
theorem fl_in {w i c k : Nat} (hw : w < 13) (h : (flL w).contains (i, c, k) = true) : Cond.fieldLink (ownN w) i (clN c) ((clT c) k).2.1 ((clT c) k).2.2.1 ∈ BIG ∧ c < 10 ∧ k < clM c := by
  have h := mem_of_contains h
  have g := List.all_eq_true.mp (ckFb w hw) _ h
  simp only [decide_eq_true_eq] at g
  obtain ⟨e, he, hx⟩ := List.mem_map.mp h
  have q := map_at (ckFs w hw) he
  try dsimp only at q
  rw [hx] at q
  exact ⟨big_of (tpA_in q) rfl, g⟩
theorem ml_in {w i a : Nat} (hw : w < 13) (h : (mlL w).contains (i, a) = true) : Cond.methodLink (ownN w) i (mNm a) ∈ BIG ∧ a < nMe := by
  have h := mem_of_contains h
  have g := List.all_eq_true.mp (ckLb w hw) _ h
  simp only [decide_eq_true_eq] at g
  obtain ⟨e, he, hx⟩ := List.mem_map.mp h
  have q := map_at (ckLs w hw) he
  try dsimp only at q
  rw [hx] at q
  exact ⟨big_of (tpA_in q) rfl, g⟩
theorem mn_in {w i a : Nat} (hw : w < 13) (h : (mnL w).contains (i, a) = true) : Cond.methodLinkNest (ownN w) i (mNm a) "ThimbleLaw" ∈ lw_tbl ∧ a < nMe := by
  have h := mem_of_contains h
  have g := List.all_eq_true.mp (ckNb w hw) _ h
  simp only [decide_eq_true_eq] at g
  obtain ⟨e, he, hx⟩ := List.mem_map.mp h
  have q := map_at (ckNs w hw) he
  try dsimp only at q
  rw [hx] at q
  exact ⟨tpA_in q, g⟩
theorem ac_in {w i : Nat} (h : acL.contains (w, i) = true) : Cond.methodLink (ownN w) i arraycopyName ∈ BIG := by
  have h := mem_of_contains h
  obtain ⟨e, he, hx⟩ := List.mem_map.mp h
  have q := map_at ckA he
  try dsimp only at q
  rw [hx] at q
  exact big_of (tpA_in q) rfl
theorem ma_in {w i t : Nat} (h : maL.contains (w, i, t) = true) : Cond.methodLink (ownN w) i (maN t) ∈ BIG := by
  have h := mem_of_contains h
  obtain ⟨e, he, hx⟩ := List.mem_map.mp h
  have q := map_at ckMa he
  try dsimp only at q
  rw [hx] at q
  exact big_of (tpA_in q) rfl
theorem ac2_in : Cond.native arraycopyName ∈ BIG ∧ Cond.static arraycopyName ∈ BIG ∧ Cond.initialized "java/lang/System" ∈ BIG :=
  ⟨big_of (tpA_in (List.cons.inj ckA2).1) rfl, big_of (tpA_in (List.cons.inj (List.cons.inj ckA2).2).1) rfl, big_of (tpA_in (List.cons.inj (List.cons.inj (List.cons.inj ckA2).2).2).1) rfl⟩
theorem ma2_in : Cond.initialized "java/lang/Math" ∈ BIG ∧ Cond.static Lib.Math.max.name ∈ BIG ∧ Cond.static Lib.Math.min.name ∈ BIG ∧ Cond.static Lib.Math.abs.name ∈ BIG ∧ Cond.code Lib.Math.max.name Lib.Math.max.code 2 (some .int) ∈ BIG ∧ Cond.code Lib.Math.min.name Lib.Math.min.code 2 (some .int) ∈ BIG ∧ Cond.code Lib.Math.abs.name Lib.Math.abs.code 1 (some .int) ∈ BIG := by
  have h := ckMa2
  simp only [maH, List.map_cons, List.cons.injEq] at h
  obtain ⟨a, b, c, d, e, f, g, -⟩ := h
  exact ⟨big_of (tpA_in a) rfl, big_of (tpA_in b) rfl, big_of (tpA_in c) rfl, big_of (tpA_in d) rfl, big_of (tpA_in e) rfl, big_of (tpA_in f) rfl, big_of (tpA_in g) rfl⟩
theorem kc_in {w i : Nat} {b : Int} (h : kcL.contains (w, i, b) = true) : Cond.constant (ownN w) i (Int32.ofInt b) ∈ BIG ∧ -2147483648 ≤ b ∧ b < 2147483648 := by
  have h := mem_of_contains h
  obtain ⟨e, he, hx⟩ := List.mem_map.mp h
  have q := map_at ckK he
  have g := List.all_eq_true.mp ckK2 e he
  simp only [decide_eq_true_eq] at g
  try dsimp only at q
  rw [hx] at q g
  exact ⟨big_of (tpA_in q) rfl, g⟩
theorem kl_in {w i : Nat} {b : Int} (h : klL.contains (w, i, b) = true) : Cond.constantLong (ownN w) i (Int64.ofInt b) ∈ BIG ∧ -9223372036854775808 ≤ b ∧ b < 9223372036854775808 := by
  have h := mem_of_contains h
  obtain ⟨e, he, hx⟩ := List.mem_map.mp h
  have q := map_at ckJ he
  have g := List.all_eq_true.mp ckJ2 e he
  simp only [decide_eq_true_eq] at g
  try dsimp only at q
  rw [hx] at q g
  exact ⟨big_of (tpA_in q) rfl, g⟩
theorem uw_in {c : Nat} (hc : c < 10) : ∀ w ∈ u_ws (clN c) (clT c) (clM c), w ∈ BIG := by
  intro w hw
  have h1 : some w ∈ (nth [] uwH c).map tpA := by rw [ckWs c hc]; exact List.mem_map.mpr ⟨w, hw, rfl⟩
  obtain ⟨q, -, hq⟩ := List.mem_map.mp h1
  refine big_of (tpA_in hq) ?_
  obtain ⟨k, -, rfl⟩ := List.mem_map.mp hw
  unfold u_lay
  split <;> rfl
theorem fcs_at {c : Nat} (hc : c < 10) : fcs[c]? = some (clN c, clT c, clM c) := nth_lt (d := ("", (fun _ => ("", "", "", false)), 0)) hc
theorem lkE_mem {pc : Nat} : ∀ {l : List cEn} {e : Instr × Nat × Nat × Int}, lkE pc l = some e → (pc, e) ∈ l
  | [], e, h => by cases h
  | x :: xs, e, h => by
    unfold lkE at h
    cases hb : Nat.beq x.1 pc with
    | true =>
      rw [hb] at h
      have h : some x.2 = some e := h
      have e1 : x.1 = pc := Nat.eq_of_beq_eq_true hb
      cases h
      rw [← e1]
      exact List.mem_cons_self
    | false =>
      rw [hb] at h
      exact List.mem_cons_of_mem _ (lkE_mem h)
theorem good_at {m pc nxt a : Nat} {ins : Instr} {b : Int} (hm : m < nMe) (h : codeAt m pc = some (ins, nxt, a, b)) : decode (mBy m) pc = .ok (ins, nxt - pc) ∧ goodI m pc ins nxt a b = true := by
  have h1 := lkE_mem h
  have h2 := List.all_eq_true.mp (ckE hm)
  rcases Nat.lt_or_ge (pc / 16) (nth2 [] cdT m).length with q | q
  · have h3 := List.all_eq_true.mp (h2 _ (nth_mem (d := []) q)) _ h1
    unfold goodE at h3
    simp only [Bool.and_eq_true, decide_eq_true_eq] at h3
    exact h3
  · rw [nth_ge q] at h1
    cases h1
