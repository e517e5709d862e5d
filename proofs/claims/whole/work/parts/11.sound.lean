theorem xI1.inv {st : List AV} {f : Int → List AV → Prop} (h : xI1 st f) : ∃ x r, st = vI x :: r ∧ f x r := by
  unfold xI1 at h; split at h
  · exact ⟨_, _, rfl, h⟩
  · exact h.elim
theorem xI2.inv {st : List AV} {f : Int → Int → List AV → Prop} (h : xI2 st f) : ∃ x y r, st = vI y :: vI x :: r ∧ f x y r := by
  unfold xI2 at h; split at h
  · exact ⟨_, _, _, rfl, h⟩
  · exact h.elim
theorem xL1.inv {st : List AV} {f : Int → List AV → Prop} (h : xL1 st f) : ∃ x r, st = vL x :: r ∧ f x r := by
  unfold xL1 at h; split at h
  · exact ⟨_, _, rfl, h⟩
  · exact h.elim
theorem xL2.inv {st : List AV} {f : Int → Int → List AV → Prop} (h : xL2 st f) : ∃ x y r, st = vL y :: vL x :: r ∧ f x y r := by
  unfold xL2 at h; split at h
  · exact ⟨_, _, _, rfl, h⟩
  · exact h.elim
theorem xLI.inv {st : List AV} {f : Int → Int → List AV → Prop} (h : xLI st f) : ∃ x y r, st = vI y :: vL x :: r ∧ f x y r := by
  unfold xLI at h; split at h
  · exact ⟨_, _, _, rfl, h⟩
  · exact h.elim
theorem xA1.inv {st : List AV} {f : Nat → List AV → Prop} (h : xA1 st f) : ∃ x r, st = vA x :: r ∧ f x r := by
  unfold xA1 at h; split at h
  · exact ⟨_, _, rfl, h⟩
  · exact h.elim
theorem xAI.inv {st : List AV} {f : Nat → Int → List AV → Prop} (h : xAI st f) : ∃ o i r, st = vI i :: vA o :: r ∧ f o i r := by
  unfold xAI at h; split at h
  · exact ⟨_, _, _, rfl, h⟩
  · exact h.elim
theorem ldI.inv {v : AV} {f : AV → Prop} (h : ldI v f) : ∃ x, v = vI x ∧ f (vI x) := by
  unfold ldI at h; split at h
  · exact ⟨_, rfl, h⟩
  · exact h.elim
theorem ldL.inv {v : AV} {f : AV → Prop} (h : ldL v f) : ∃ x, v = vL x ∧ f (vL x) := by
  unfold ldL at h; split at h
  · exact ⟨_, rfl, h⟩
  · exact h.elim
theorem ldA.inv {v : AV} {f : AV → Prop} (h : ldA v f) : ∃ x, v = some (.inr (.inr x)) ∧ f (some (.inr (.inr x))) := by
  unfold ldA at h; split at h
  · exact ⟨_, rfl, h⟩
  · exact h.elim
theorem ago.inv {o t : Nat} {i : Int} {f : Prop} (h : ago o t i f) : shK o = t ∧ (0 ≤ i ∧ i < (shN o : Int)) ∧ f := by
  unfold ago at h; split at h
  · exact h.elim
  · rename_i e; exact ⟨Nat.eq_of_beq_eq_true e, h⟩
theorem fgo.inv {ads : Nat → Nat} {h : Hp} {o ci : Nat} {k : Int} {f : AV → Prop} (hk : 0 ≤ k) (hh : okh h) (hf : fgo h o ci k f) : shK o = ci ∧ ∃ v, f (some v) ∧ cvv ads v = fvl ads h o k.toNat ∧ okv (some v) := by
  have ek : ((k.toNat : Nat) : Int) = k := by omega
  unfold fgo at hf; split at hf
  · exact hf.elim
  · rename_i e
    have e := Nat.eq_of_beq_eq_true e
    refine ⟨e, ?_⟩
    have hlc : fkOf ci k.toNat ≠ 2 → ci ≠ 103 → -2147483648 ≤ h o k ∧ h o k < 2147483648 := by
      intro q q2
      refine (hh o k).1 ?_
      unfold isLc
      rw [e]
      have a : Nat.beq ci 103 = false := by
        cases hb : Nat.beq ci 103 with
        | true => exact absurd (Nat.eq_of_beq_eq_true hb) q2
        | false => rfl
      have b : Nat.beq (fkOf ci k.toNat) 2 = false := by
        cases hb : Nat.beq (fkOf ci k.toNat) 2 with
        | true => exact absurd (Nat.eq_of_beq_eq_true hb) q
        | false => rfl
      rw [a, b]; rfl
    have hci : fkOf ci k.toNat ≠ 9 → ci ≠ 103 := by
      intro q q2
      rw [q2] at q
      exact q rfl
    split at hf
    · rename_i g
      refine ⟨_, hf, ?_, hlc (by omega) (hci (by omega))⟩
      unfold fvl; rw [e, g, ek]; rfl
    · rename_i g
      refine ⟨_, hf, ?_, hlc (by omega) (hci (by omega))⟩
      unfold fvl; rw [e, g, ek]; rfl
    · rename_i g
      refine ⟨_, hf, ?_, (hh o k).2⟩
      unfold fvl; rw [e, g, ek]; rfl
    · rename_i g
      split at hf
      · rename_i q hq
        refine ⟨_, hf, ?_, trivial⟩
        unfold fvl; rw [e, g, hq]; rfl
      · exact hf.elim
    · exact hf.elim
/-- what is held of the launch: the kinds of objects, the nest's words -/
def NX (U : State) : Prop := ∀ w i a, w < 13 → (mnL w).contains (i, a) = true → va_Nw (.methodLinkNest (ownN w) i (mNm a) "ThimbleLaw") U
def strT : String := "dries errs fine one brim standard do weep wash pour bend shrink day who stuff dent room kind drops coins tears of by above brims if then else end or and not "
def SX (ads : Nat → Nat) (U : State) : Prop := vk_R "ThimbleLaw$Reader" 88 strT (ads 96) U ∧ (∃ adV : Nat, vk_S 1 [157] [strB.map Int32.ofInt] (fun _ => ads 96) (fun _ => adV) (inA ads) U U.heap) ∧ va_Z "java/lang/String" "COMPACT_STRINGS" "Z" (.int 1) (inA ads) U U.heap ∧ va_Zq "jdk/internal/util/Preconditions" "SIOOBE_FORMATTER" "Ljava/util/function/BiFunction;" (inA ads) U U.heap
def Cxt (p : Program) (s : State) (mid : MethodId) (args : Array Value) (meth : Method) (c : Code) (m : Nat) : Prop :=
  p.tables.exec = Jvm.exec ∧ c.code = mBy m ∧ meth.sig.returnType = mRt m ∧ c.maxLocals = mLo m ∧ s.vm.findClass (mNm m).cls = some mid.cls ∧ (∀ w ∈ BIG, w.before args s = true) ∧ meth.locks = false
def QcM (ads : Nat → Nat) (cA : Nat → ClassId) (D : va_G) (Q : aPO) : Array Value → State → Outcome → State → Prop := fun _ st oc t =>
  (∃ (r : AV) (h : Hp), oc = .returned (r.map (cvv ads)) ∧ Q r h ∧ va_P D fcs (wld ads cA h) t.heap ∧ okh h ∧ okv r) ∧ va_F (inA ads) st t
def PW (l : Launch) (ads : Nat → Nat) (cA : Nat → ClassId) (D : va_G) : aRL := fun d m pc ls st h Q =>
  ∀ (p : Program) (e : Env) (R : Room) (s : State) (mid : MethodId) (args : Array Value) (below : List Frame) (meth : Method) (c : Code) (H : Heap) (locs : List Loc) (lsC : Array Slot),
    m < nMe → Cxt p s mid args meth c m → (d + 4 ≤ R.frames ∧ 40 * d + 200 ≤ R.locals) → va_K D fcs (tysL cA) s → NX s → SX ads s → okl ls → okl st → okh h → LR ads lsC (mLo m) ls → va_P D fcs (wld ads cA h) H → va_S (inA ads) s.heap H locs →
    W p l e R s mid args below meth c H locs 0 0 (MQ below (QcM ads cA D Q) args s 0 0 (inA ads)) (F0 mid pc lsC (st.map (cv ads)))
def rmD (d : Nat) : Room := { frames := d + 4, cells := 0, slots := 0, locals := 40 * d + 200 }
theorem W.imp {p : Program} {l : Launch} {e : Env} {R : Room} {s : State} {m : MethodId} {args : Array Value} {below : List Frame} {meth : Method} {c : Code} {H : Heap} {locs : List Loc} {cells slots : Nat} {Q Q' : State → Prop} {g : JFrame} (hQ : ∀ t, Q t → Q' t) (h : W p l e R s m args below meth c H locs cells slots Q g) : W p l e R s m args below meth c H locs cells slots Q' g := by
  intro T hT X
  obtain ⟨t, a, b⟩ := h T hT X
  exact ⟨t, a, hQ t b⟩
theorem PW.mono (l : Launch) (ads : Nat → Nat) (cA : Nat → ClassId) (D : va_G) : ∀ d m pc ls st h Q Q', (∀ r h2, Q r h2 → Q' r h2) → PW l ads cA D d m pc ls st h Q → PW l ads cA D d m pc ls st h Q' := by
  intro d m pc ls st h Q Q' hQ hp p e R s mid args below meth c H locs lsC a1 a2 a3 a4 a5 a6 a7 a8 a9 a10 a11 a12
  refine W.imp ?_ (hp p e R s mid args below meth c H locs lsC a1 a2 a3 a4 a5 a6 a7 a8 a9 a10 a11 a12)
  rintro t ⟨o, h1, h2, ⟨⟨r, h', e1, e2, e3⟩, h4⟩, h5⟩
  exact ⟨o, h1, h2, ⟨⟨r, h', e1, hQ _ _ e2, e3⟩, h4⟩, h5⟩
def PcM (ads : Nat → Nat) (cA : Nat → ClassId) (D : va_G) (av : List AV) (h : Hp) : Array Value → State → Prop := va_Pc (av.map (cv ads)) (fun U => va_P D fcs (wld ads cA h) U.heap ∧ va_K D fcs (tysL cA) U ∧ NX U ∧ SX ads U)
theorem met_in {l : Launch} {ads : Nat → Nat} {cA : Nat → ClassId} {D : va_G} {d a : Nat} {av : List AV} {h : Hp} {Q : aPO} (ha : a < nMe) (hX : PW l ads cA D d a 0 (pad (ents av) (mLo a)) [] h Q) (hlen : (ents av).length ≤ mLo a) (hokv : okl av) (hokh : okh h) :
    Met l (mNm a) (wsM a) (rmD d) (PcM ads cA D av h) (QcM ads cA D Q) 0 0 (inA ads) := by
  refine Met.ofW (cc := mBy a) (maxL := mLo a) (ret := mRt a) (gM_plain ha) rfl ?_
  intro p e s m args below meth c s₁ B hml hv
  obtain ⟨rfl, hP, hK, hN, hS0⟩ := hv
  rw [lg_entry_eq]
  exact hX p e (rmD d) s m _ below meth c s.heap [] _ ha ⟨B.exec, B.bytes, B.returns, hml, findClass_of_methodNamed B.named, fun w hw => atoms_spec (ws := wsM a) B.pre w (List.mem_cons_of_mem _ hw), B.notSynchronized⟩
    ⟨Nat.le_refl _, Nat.le_refl _⟩ hK hN hS0 (okl_pad (okl_ents hokv)) (fun _ h => absurd h List.not_mem_nil) hokh (LR.entry hlen) hP va_S.rf
theorem SX.kept {ads : Nat → Nat} {s U : State} {H : Heap} {locs : List Loc} (h : SX ads s) (hS : va_S (inA ads) s.heap H locs) (hU : U.heap = H) (hW : s.WarmedH U.vm) : SX ads U := by
  obtain ⟨h1, ⟨adV, h2⟩, h3, h4⟩ := h
  refine ⟨h1.warm hW, ⟨adV, ?_⟩, ?_, ?_⟩
  · rw [hU]; exact vk_S.moved hW.alike (vk_S.kept h2 hS.2.1)
  · rw [hU]; exact va_Z.moved hW.alike (va_Z.kept h3 hS.2.1)
  · rw [hU]; exact va_Zq.moved hW.alike (va_Zq.kept h4 hS.2.1)
theorem NX.kept {s U : State} (h : NX s) (hW : s.WarmedH U.vm) : NX U := fun w i a hw hc => (h w i a hw hc).warmM hW
theorem SX.same {ads : Nat → Nat} {U V : State} (h : SX ads U) (hv : V.vm = U.vm) (hh : V.heap = U.heap) : SX ads V := by
  obtain ⟨h1, ⟨adV, h2⟩, h3, h4⟩ := h
  have ha : U.vm.Alike V.vm := by rw [hv]; exact Vm.Alike.refl U.vm
  exact ⟨vk_R.same hv h1, ⟨adV, by rw [hh]; exact vk_S.moved ha h2⟩, by rw [hh]; exact va_Z.moved ha h3, by rw [hh]; exact va_Zq.moved ha h4⟩
theorem PcM.blind {ads : Nat → Nat} {cA : Nat → ClassId} {D : va_G} {av : List AV} {h : Hp} : FrameBlind (PcM ads cA D av h) := by
  intro a U g mk q
  obtain ⟨q0, qP, qK, qN, qS⟩ := q
  refine ⟨q0, qP, va_K.moved (u := U) (U := U.calling g mk a) (Vm.Alike.refl U.vm) qK, fun w i b hw hc => va_Nw.same rfl rfl (qN w i b hw hc), qS.same rfl rfl⟩
/-- behind a call -/
theorem call_on {p : Program} {l : Launch} {e : Env} {R : Room} {s : State} {mid : MethodId} {args : Array Value} {below : List Frame} {meth : Method} {c : Code} {H : Heap} {locs : List Loc} {QQ : State → Prop} {pc : Nat} {lsC : Array Slot} {st0 rest : List Value} {av : Array Value}
    {ads : Nat → Nat} {cA : Nat → ClassId} {D : va_G} {Q : aPO} (hr : va_Run p l e R s mid args below meth c H locs 0 0 0 0 (F0 mid pc lsC st0) rest (QcM ads cA D Q av) (inA ads)) (hS : va_S (inA ads) s.heap H locs)
    (kk : ∀ (r : AV) (h : Hp) (H1 : Heap) (locs1 : List Loc), Q r h → va_P D fcs (wld ads cA h) H1 → okh h → okv r → va_S (inA ads) s.heap H1 locs1 → W p l e R s mid args below meth c H1 locs1 0 0 QQ (F0 mid (pc + 3) lsC ((r.map (cvv ads)).toList ++ rest))) :
    W p l e R s mid args below meth c H locs 0 0 QQ (F0 mid pc lsC st0) := by
  intro T hT X
  obtain ⟨v, st₀, t, T', L, h0, X', hL, e1, e2, ⟨⟨r, h', hv, hq, hP', hok, hor⟩, hz, hk⟩, st⟩ := hr T hT X
  cases hv
  rw [h0] at hz hk
  obtain ⟨t2, a1, b1⟩ := kk r h' T'.heap (locs ++ L) hq (by rw [e1]; exact hP') hok hor ⟨Nat.le_trans hS.1 (by rw [e1]; exact hz), fun q h1 h2 => by rw [e1, hk q (Nat.lt_of_lt_of_le h1 hS.1) h2]; exact hS.2.1 q h1 h2, fun q hq => by
      rcases List.mem_append.mp hq with h | h
      · exact hS.2.2 q h
      · exact hL q h⟩ T' rfl X'
  exact ⟨t2, st t2 a1, b1⟩
theorem cat_map {ads : Nat → Nat} : ∀ (l : List AV), ((l.map (cv ads)).map fun v => v.category).sum = catS l
  | [] => rfl
  | some (.inr (.inl x)) :: r => by
    have := cat_map (ads := ads) r
    exact congrArg (fun z => 2 + z) this
  | some (.inl x) :: r => by
    have := cat_map (ads := ads) r
    exact congrArg (fun z => 1 + z) this
  | some (.inr (.inr none)) :: r => by
    have := cat_map (ads := ads) r
    exact congrArg (fun z => 1 + z) this
  | some (.inr (.inr (some o))) :: r => by
    have := cat_map (ads := ads) r
    exact congrArg (fun z => 1 + z) this
  | none :: r => by
    have := cat_map (ads := ads) r
    exact congrArg (fun z => 1 + z) this
theorem push_map {ads : Nat → Nat} {r : AV} {st : List AV} : (r.map (cvv ads)).toList ++ st.map (cv ads) = (pushR r st).map (cv ads) := by
  cases r <;> rfl
theorem okl_push {r : AV} {st : List AV} (hr : okv r) (h : okl st) : okl (pushR r st) := by
  cases r with
  | none => exact h
  | some v => exact okl.cons hr h
theorem okl_drop : ∀ {n : Nat} {st : List AV}, okl st → okl (dropN n st)
  | 0, st, h => h
  | n + 1, x :: xs, h => okl_drop (n := n) h.tl
  | n + 1, [], h => h
theorem okl_take {n : Nat} {st : List AV} (hl : (takeR n [] st).length = n) (h : okl st) : okl (takeR n [] st) := by
  have e := (takeR_spec n [] st (by simpa using hl)).1
  intro v hv
  apply h v
  rw [e]
  exact List.mem_append_left _ (List.mem_reverse.mpr hv)
theorem okC.inv {a : Nat} {st : List AV} (h : okC a st = true) : catS (dropN (nAr a) st) ≤ 8 ∧ (ents (takeR (nAr a) [] st)).length ≤ mLo a ∧ (takeR (nAr a) [] st).length = nAr a := by
  unfold okC at h
  simp only [Bool.and_eq_true] at h
  exact ⟨Nat.le_of_ble_eq_true h.1, Nat.le_of_ble_eq_true h.2.1, Nat.eq_of_beq_eq_true h.2.2⟩
