/-! THE CLAIM OUT OF ONE WALK OF THE LAW'S BODY. Your part is whole_start (and what it stands on); all else here is the same for every law, but numbers. -/
def R_law : String := "ThimbleLawLaw"
def lw_P (b : Addr) (xs : List Int32) (args : Array Value) (s : State) : Prop := args = #[.ref b] ∧ s.IntsAt b xs ∧ xs.length ≤ 3072 ∧ (Jvm.Cond.and given_1 narrow_1).before args s = true
def lw_Q (_ : Array Value) (s : State) (o : Outcome) (t : State) : Prop := o = .returned (some (.int 1)) ∧ Framed s o t [] 600000 7302250
def lw_Z (below : List Frame) (a : Array Value) (s : State) : State → Prop := fun t => ∃ o, t.status = .running ∧ Ended t below o ∧ lw_Q a s o t
/-- the law's own end, with 1 on the stack, nothing written that was there before, its room as the claim has it -/
theorem lw_ret {p : Program} {l : Launch} {e : Env} {s : State} {m : MethodId} {below : List Frame} {meth : Method} {c : Code} {b : Nat} (hx : p.tables.exec = Jvm.exec) (hb : c.code = code) (hr : meth.sig.returnType = ret) (hlocks : meth.locks = false) {pc : Nat} {H : Heap} {ls : Array Slot} (hdg : decode code pc = .ok (.ireturn, 1)) : W p l e room_1 s m #[Value.ref b] below meth c H [] 600000 7302250 (lw_Z below #[Value.ref b] s) (F0 m pc ls [.int 1]) := by
  intro T hT X
  obtain ⟨fs, hret, hrun, hended, hW, hframe⟩ := X.leave (v := some (.int 1)) (hlocks := hlocks) (fun h => by rw [hr] at h; cases h)
  have hmeth' : T.vm.method? m = some meth := X.method'
  refine ⟨T.setFrames fs, ?_, .returned (some (.int 1)), hrun, hended, rfl, ⟨_, rfl⟩, hW, hframe⟩
  jvm_step X.here [X.here.top, hx, hb, hdg, hmeth', hr, ret, narrow_b1]
  (try refine ⟨rfl, ?_⟩); (try refine ⟨rfl, ?_⟩)
  first | (intro acts; rw [hret _ acts rfl rfl rfl]) | rw [hret _ _ rfl rfl rfl]
  exact Steps.refl _
/-- what holds at the law's entry: the machine, the code, the tables' words (any of lw_tbl by 'hts w (by decide +kernel)'), the script of L ints xs at the cell b, what the Statement gives of the start (any of its parts by flat_of_before) -/
def lw_At (p : Program) (s : State) (m : MethodId) (meth : Method) (c : Code) (b L : Nat) (xs : Nat → Int32) : Prop :=
  p.tables.exec = Jvm.exec ∧ c.code = code ∧ meth.sig.returnType = ret ∧ c.maxLocals = 4 ∧ s.vm.findClass R_law = some m.cls ∧ (∀ w ∈ lw_tbl, w.before #[Value.ref b] s = true) ∧ va_X b L xs s s.heap ∧ b < s.heap.size ∧ meth.locks = false ∧ (Jvm.Cond.and given_1 narrow_1).before #[Value.ref b] s = true

def nzI (x : Int) : Int := if x = 0 then 0 else 1
/-- a call of the class and the same call of the reference: they answer alike -/
def OpI (Inv : Nat → Hp → Prop) (mc mr : Nat) (av : List AV) : Prop := ∀ n, n < 512 → ∀ h, Inv n h → okh h → Runs 150 mc 0 (pad (ents (vA 0 :: av)) (mLo mc)) [] h (fun r h1 => ∃ z, r = vI z ∧ Runs 150 mr 0 (pad (ents (vA 84 :: av)) (mLo mr)) [] h1 (fun r2 h2 => r2 = vI z ∧ Inv (n + 1) h2))
def OpL (Inv : Nat → Hp → Prop) (mc mr : Nat) (av : List AV) : Prop := ∀ n, n < 512 → ∀ h, Inv n h → okh h → Runs 150 mc 0 (pad (ents (vA 0 :: av)) (mLo mc)) [] h (fun r h1 => ∃ z, r = vL z ∧ Runs 150 mr 0 (pad (ents (vA 84 :: av)) (mLo mr)) [] h1 (fun r2 h2 => r2 = vL z ∧ Inv (n + 1) h2))
/-- five ints of the script -/
def inX (x : Nat → Int) : Prop := ∀ j, -2147483648 ≤ x j ∧ x j < 2147483648
def op_one (Inv : Nat → Hp → Prop) : Prop := ∀ x : Nat → Int, inX x → OpI Inv 110 177 [vI (x 1), vI (x 2), vI (x 3)]
def op_brim (Inv : Nat → Hp → Prop) : Prop := ∀ x : Nat → Int, inX x → OpI Inv 111 179 [vI (x 1), vI (x 2)]
def op_standard (Inv : Nat → Hp → Prop) : Prop := ∀ x : Nat → Int, inX x → OpI Inv 112 180 [vI (x 1)]
def op_feed (Inv : Nat → Hp → Prop) : Prop := ∀ x : Nat → Int, inX x → OpI Inv 113 182 [vI (x 1), vI (x 2), vI (x 3), vI (x 4), vI (x 5)]
def op_end (Inv : Nat → Hp → Prop) : Prop := ∀ x : Nat → Int, inX x → OpI Inv 115 183 [vI (x 1)]
def op_text (Inv : Nat → Hp → Prop) : Prop := ∀ x : Nat → Int, inX x → OpI Inv 116 221 []
def op_fault (Inv : Nat → Hp → Prop) : Prop := ∀ x : Nat → Int, inX x → OpI Inv 117 222 [vI (x 1)]
def op_by (Inv : Nat → Hp → Prop) : Prop := ∀ x : Nat → Int, inX x → OpI Inv 118 223 [vI (x 1)]
def op_deed (Inv : Nat → Hp → Prop) : Prop := ∀ x : Nat → Int, inX x → OpI Inv 119 241 [vI (x 1), vI (x 2), vI (x 3)]
def op_weep (Inv : Nat → Hp → Prop) : Prop := ∀ x : Nat → Int, inX x → OpI Inv 120 242 [vI (x 1), vI (x 2)]
def op_wash (Inv : Nat → Hp → Prop) : Prop := ∀ x : Nat → Int, inX x → OpI Inv 121 245 [vI (x 1), vI (x 2), vI (x 3)]
def op_pour (Inv : Nat → Hp → Prop) : Prop := ∀ x : Nat → Int, inX x → OpI Inv 122 247 [vI (x 1), vI (x 2)]
def op_bend (Inv : Nat → Hp → Prop) : Prop := ∀ x : Nat → Int, inX x → OpI Inv 123 249 [vI (x 1)]
def op_shrink (Inv : Nat → Hp → Prop) : Prop := ∀ x : Nat → Int, inX x → OpI Inv 124 250 [vI (x 1)]
def op_day (Inv : Nat → Hp → Prop) : Prop := ∀ x : Nat → Int, inX x → OpI Inv 125 252 [vI (x 1)]
def op_played (Inv : Nat → Hp → Prop) : Prop := ∀ x : Nat → Int, inX x → OpI Inv 126 254 [vI (x 1)]
def op_centuries (Inv : Nat → Hp → Prop) : Prop := ∀ x : Nat → Int, inX x → OpI Inv 127 256 [vI (x 1), vI (x 2)]
def op_undo (Inv : Nat → Hp → Prop) : Prop := ∀ x : Nat → Int, inX x → OpI Inv 128 239 []
def op_of (Inv : Nat → Hp → Prop) : Prop := ∀ x : Nat → Int, inX x → OpI Inv 129 257 [vI (x 1), vI (x 2)]
def op_drops (Inv : Nat → Hp → Prop) : Prop := ∀ x : Nat → Int, inX x → OpI Inv 130 258 [vI (x 1), vI (x 2), vI (x 3)]
def op_is (Inv : Nat → Hp → Prop) : Prop := ∀ x : Nat → Int, inX x → OpI Inv 131 259 [vI (x 1)]
def op_book (Inv : Nat → Hp → Prop) : Prop := ∀ x : Nat → Int, inX x → OpI Inv 132 262 [vI (x 1), vI (x 2)]
def op_foretold (Inv : Nat → Hp → Prop) : Prop := ∀ x : Nat → Int, inX x → OpI Inv 133 274 [vI (x 1), vI (x 2), vI (x 3)]
def op_firstBrim (Inv : Nat → Hp → Prop) : Prop := ∀ x : Nat → Int, inX x → OpI Inv 134 275 [vI (x 1), vI (x 2), vI (x 3)]
def op_plan (Inv : Nat → Hp → Prop) : Prop := ∀ x : Nat → Int, inX x → OpI Inv 135 276 [vI (x 1), vI (x 2)]
def op_within (Inv : Nat → Hp → Prop) : Prop := ∀ x : Nat → Int, inX x → OpI Inv 136 278 [vI (x 1)]
def op_wrongly (Inv : Nat → Hp → Prop) : Prop := ∀ x : Nat → Int, inX x → OpL Inv 137 283 [vI (x 1), vI (x 2), vI (x 3), vI (nzI (x 4))]
def op_howOften (Inv : Nat → Hp → Prop) : Prop := ∀ x : Nat → Int, inX x → OpI Inv 138 284 [vI (x 1), vI (x 2), vI (x 3)]
def op_way (Inv : Nat → Hp → Prop) : Prop := ∀ x : Nat → Int, inX x → OpI Inv 139 285 [vI (x 1), vI (x 2), vI (x 3)]
def op_round (Inv : Nat → Hp → Prop) : Prop := ∀ x : Nat → Int, inX x → OpI Inv 140 289 [vI (x 1)]
def op_year (Inv : Nat → Hp → Prop) : Prop := ∀ x : Nat → Int, inX x → OpI Inv 141 290 [vI (x 1), vI (x 2)]
def op_shrunk (Inv : Nat → Hp → Prop) : Prop := ∀ x : Nat → Int, inX x → OpI Inv 142 292 [vI (x 1)]
def op_wouldTell (Inv : Nat → Hp → Prop) : Prop := ∀ x : Nat → Int, inX x → OpI Inv 143 294 []
def op_against (Inv : Nat → Hp → Prop) : Prop := ∀ x : Nat → Int, inX x → OpI Inv 144 296 [vI (x 1), vI (x 2), vI (nzI (x 3))]
def op_even (Inv : Nat → Hp → Prop) : Prop := ∀ x : Nat → Int, inX x → OpI Inv 145 299 [vI (x 1), vI (nzI (x 2))]
def op_worst (Inv : Nat → Hp → Prop) : Prop := ∀ x : Nat → Int, inX x → OpI Inv 146 269 []
def op_moreDents (Inv : Nat → Hp → Prop) : Prop := ∀ x : Nat → Int, inX x → OpI Inv 147 270 [vI (x 1)]
def op_cases (Inv : Nat → Hp → Prop) : Prop := ∀ x : Nat → Int, inX x → OpI Inv 148 271 [vI (x 1)]
def op_dried (Inv : Nat → Hp → Prop) : Prop := ∀ x : Nat → Int, inX x → OpI Inv 149 300 [vI (x 1), vI (x 2), vI (x 3)]
def op_whose (Inv : Nat → Hp → Prop) : Prop := ∀ x : Nat → Int, inX x → OpI Inv 150 301 []
def op_costs (Inv : Nat → Hp → Prop) : Prop := ∀ x : Nat → Int, inX x → OpI Inv 151 302 [vI (x 1), vI (x 2)]
def op_game (Inv : Nat → Hp → Prop) : Prop := ∀ x : Nat → Int, inX x → OpI Inv 152 303 [vI (x 1), vI (nzI (x 2))]
def op_fined (Inv : Nat → Hp → Prop) : Prop := ∀ x : Nat → Int, inX x → OpI Inv 153 263 [vI (x 1)]
def op_fines (Inv : Nat → Hp → Prop) : Prop := ∀ x : Nat → Int, inX x → OpI Inv 154 264 [vI (x 1)]
def op_sober (Inv : Nat → Hp → Prop) : Prop := ∀ x : Nat → Int, inX x → OpI Inv 155 265 [vI (x 1)]
def op_heaviest (Inv : Nat → Hp → Prop) : Prop := ∀ x : Nat → Int, inX x → OpI Inv 156 267 []
def op_image (Inv : Nat → Hp → Prop) : Prop := ∀ x : Nat → Int, inX x → OpI Inv 157 304 []
def op_back (Inv : Nat → Hp → Prop) : Prop := ∀ x : Nat → Int, inX x → OpI Inv 158 305 []
def op_about (Inv : Nat → Hp → Prop) : Prop := ∀ x : Nat → Int, inX x → OpI Inv 159 306 [vI (x 1)]
def allOps (Inv : Nat → Hp → Prop) : Prop := op_one Inv ∧ op_brim Inv ∧ op_standard Inv ∧ op_feed Inv ∧ op_end Inv ∧ op_text Inv ∧ op_fault Inv ∧ op_by Inv ∧ op_deed Inv ∧ op_weep Inv ∧ op_wash Inv ∧ op_pour Inv ∧ op_bend Inv ∧ op_shrink Inv ∧ op_day Inv ∧ op_played Inv ∧ op_centuries Inv ∧ op_undo Inv ∧ op_of Inv ∧ op_drops Inv ∧ op_is Inv ∧ op_book Inv ∧ op_foretold Inv ∧ op_firstBrim Inv ∧ op_plan Inv ∧ op_within Inv ∧ op_wrongly Inv ∧ op_howOften Inv ∧ op_way Inv ∧ op_round Inv ∧ op_year Inv ∧ op_shrunk Inv ∧ op_wouldTell Inv ∧ op_against Inv ∧ op_even Inv ∧ op_worst Inv ∧ op_moreDents Inv ∧ op_cases Inv ∧ op_dried Inv ∧ op_whose Inv ∧ op_costs Inv ∧ op_game Inv ∧ op_fined Inv ∧ op_fines Inv ∧ op_sober Inv ∧ op_heaviest Inv ∧ op_image Inv ∧ op_back Inv ∧ op_about Inv
section LAWR
variable {p : Program} {l : Launch} {e : Env} {s : State} {m : MethodId} {below : List Frame} {meth : Method} {c : Code} {b L : Nat} {xs : Nat → Int32} {H : Heap} {locs : List Loc} {kc ks : Nat} {QQ : State → Prop} {ads : Nat → Nat} {cA : Nat → ClassId} {D : va_G} {ls : Array Slot} {rest : List Value} {pc i : Nat}
theorem ld_arg {cc : ByteArray} (hx : p.tables.exec = Jvm.exec) (hb : c.code = cc) (hX : va_X b L xs s s.heap) (hbl : b < s.heap.size) (hbA : ¬ inA ads b) (hS : va_S (inA ads) s.heap H locs) {j q1 q2 : Nat} {n : Int} (hn : n = (j : Int)) {q0 : Int32} (hl0 : ls[0]? = some (.val (.ref b))) (hl3 : ls[3]? = some (.val (.int (Int32.ofInt (i : Int))))) (hij : i + j < L) (hL : L ≤ 3072)
    (d0 : decode cc pc = .ok (.aload_n 0, 1)) (d1 : decode cc (pc + 1) = .ok (.iload_n 3, 1)) (d2 : decode cc (pc + 1 + 1) = .ok (.iconst n, 1)) (d3 : decode cc (pc + 1 + 1 + 1) = .ok (.iadd, 1)) (d4 : decode cc (pc + 1 + 1 + 1 + 1) = .ok (.iaload, 1))
    (kk : W p l e room_1 s m #[Value.ref b] below meth c H locs kc ks QQ (F0 m (pc + 5) ls (.int (Int32.ofInt (xs (i + j)).toInt) :: rest))) : W p l e room_1 s m #[Value.ref b] below meth c H locs kc ks QQ (F0 m pc ls rest) := by
  refine lv_aload_n hx hb d0 rfl hl0 ?_
  refine lv_iload_n hx hb d1 rfl hl3 ?_
  refine lv_iconst (v := Int32.ofInt n) hx hb d2 rfl ?_
  refine lv_iadd hx hb d3 ?_
  rw [← Int32.ofInt_add, hn]
  refine va_sld hx hb hX hbl hbA hS (i32in (by omega) (by omega) (by omega)) d4 ?_
  rw [i32clamp (by omega) (by omega), show ((i : Int) + (j : Int)).toNat = i + j by omega, ← i32back (xs (i + j))]
  exact kk
theorem ld_bool {cc : ByteArray} (hx : p.tables.exec = Jvm.exec) (hb : c.code = cc) (hX : va_X b L xs s s.heap) (hbl : b < s.heap.size) (hbA : ¬ inA ads b) (hS : va_S (inA ads) s.heap H locs) {j : Nat} {n : Int} (hn : n = (j : Int)) (hl0 : ls[0]? = some (.val (.ref b))) (hl3 : ls[3]? = some (.val (.int (Int32.ofInt (i : Int))))) (hij : i + j < L) (hL : L ≤ 3072)
    (d0 : decode cc pc = .ok (.aload_n 0, 1)) (d1 : decode cc (pc + 1) = .ok (.iload_n 3, 1)) (d2 : decode cc (pc + 1 + 1) = .ok (.iconst n, 1)) (d3 : decode cc (pc + 1 + 1 + 1) = .ok (.iadd, 1)) (d4 : decode cc (pc + 1 + 1 + 1 + 1) = .ok (.iaload, 1)) (d5 : decode cc (pc + 5) = .ok (.ifCond .eq 7, 3)) (d8 : decode cc (pc + 5 + 3) = .ok (.iconst 1, 1)) (d9 : decode cc (pc + 5 + 3 + 1) = .ok (.goto 4, 3)) (d12 : decode cc (pc + 12) = .ok (.iconst 0, 1))
    (kk : W p l e room_1 s m #[Value.ref b] below meth c H locs kc ks QQ (F0 m (pc + 13) ls (.int (Int32.ofInt (nzI (xs (i + j)).toInt)) :: rest))) : W p l e room_1 s m #[Value.ref b] below meth c H locs kc ks QQ (F0 m pc ls rest) := by
  refine ld_arg (q0 := 0) (q1 := 0) (q2 := 0) hx hb hX hbl hbA hS hn hl0 hl3 hij hL d0 d1 d2 d3 d4 ?_
  have hr := i32r (xs (i + j))
  refine lv_if_eq (tgt := pc + 12) hx hb d5 (by omega) (fun q => ?_) (fun q => ?_)
  · have q : (xs (i + j)).toInt = 0 := (i32eq (y := 0) hr (by omega)).mp q
    refine lv_iconst (v := Int32.ofInt 0) hx hb d12 rfl ?_
    unfold nzI at kk
    rw [if_pos q] at kk
    exact kk
  · have q : ¬ (xs (i + j)).toInt = 0 := fun z => q ((i32eq (y := 0) hr (by omega)).mpr z)
    refine lv_iconst (v := Int32.ofInt 1) hx hb d8 rfl ?_
    refine lv_goto (tgt := pc + 13) hx hb d9 (by omega) ?_
    unfold nzI at kk
    rw [if_neg q] at kk
    exact kk
/-- a call out of the law -/
theorem law_inv {o a idx : Nat} {av : List AV} {h : Hp} {Q : aPO} (hx : p.tables.exec = Jvm.exec) (hb : c.code = code) (hml : c.maxLocals = 4) (hown : s.vm.findClass "ThimbleLawLaw" = some m.cls) (hts : ∀ w ∈ BIG, w.before #[Value.ref b] s = true) (hap : apA ads) (hK : va_K D fcs (tysL cA) s) (hN : NX s) (hX : SX ads s)
    (ha : a < nMe) (hst : mSt a = false) (hln : Cond.methodLink "ThimbleLawLaw" idx (mNm a) ∈ BIG) (hn : (vA o :: av).length = nAr a) (hlen : (ents (vA o :: av)).length ≤ mLo a) (hko : shK o = mCi a) (hok : okl av) (hh : okh h) (hls : ls.size = 4)
    (hP : va_P D fcs (wld ads cA h) H) (hS : va_S (inA ads) s.heap H locs) (hkc : kc ≤ 600000) (hks : ks ≤ 7302250) (hW : (rest.map fun v => v.category).sum ≤ 8) (hr : Runs 150 a 0 (pad (ents (vA o :: av)) (mLo a)) [] h Q) (hdg : decode code pc = .ok (.invokevirtual idx, 3))
    (kk : ∀ (r : AV) (h : Hp) (H1 : Heap) (locs1 : List Loc), Q r h → va_P D fcs (wld ads cA h) H1 → okh h → okv r → va_S (inA ads) s.heap H1 locs1 → W p l e room_1 s m #[Value.ref b] below meth c H1 locs1 kc ks QQ (F0 m (pc + 3) ls ((r.map (cvv ads)).toList ++ rest))) :
    W p l e room_1 s m #[Value.ref b] below meth c H locs kc ks QQ (F0 m pc ls ((av.map (cv ads)).reverse ++ .ref (ads o) :: rest)) := by
  have hM := met_in (l := l) (ads := ads) (cA := cA) (D := D) (d := 150) ha (runs_PW l hap hr) hlen (okl.cons trivial hok) hh
  obtain ⟨⟨hc10, hcn⟩, hdesc⟩ := gM_vi ha hst
  have ho : o < nOb := shK_lt (by rw [hko]; omega)
  have hws : GoodIn BIG (wsM a) := fun w hw => by
    rcases List.mem_cons.mp hw with rfl | hw
    · exact big_ok _ (code_in ha)
    · exact big_ok _ hw
  have hpn : (parseMethodDescriptor (mNm a).desc).map (fun d => d.parameters.length) = some (nAr a - 1) := by
    cases hpd : parseMethodDescriptor (mNm a).desc with
    | none => rw [hpd] at hdesc; cases hdesc
    | some sg =>
      rw [hpd] at hdesc
      have : sg.parameters.length + 1 = nAr a := Option.some.inj hdesc
      show some sg.parameters.length = some _
      rw [← this]; rfl
  have hpre : PreV s H (mNm a).cls (ads o) (PcM ads cA D (vA o :: av) h) (av.map (cv ads)) := by
    refine ⟨PcM.blind, ?_, fun U hU hW => ⟨rfl, by rw [hU]; exact hP, va_K.moved hW.alike hK, hN.kept hW, hX.kept hS hU hW⟩⟩
    rw [← hcn]
    exact va_recv hK hP (fcs_at hc10) (q0 := o) (by rw [wld_at ho, celE_c hko hc10])
  have hroom : (rmD 150).frames + 1 ≤ room_1.frames ∧ 8 + (mLo a + 11) + (rmD 150).locals ≤ room_1.locals := by
    have := (gM_lo ha).1
    show 150 + 4 + 1 ≤ 2048 ∧ 8 + (mLo a + 11) + (40 * 150 + 200) ≤ 84000
    constructor <;> omega
  have hrun : va_Run p l e room_1 s m #[Value.ref b] below meth c H locs kc ks 0 0 (F0 m pc ls ((av.map (cv ads)).reverse ++ .ref (ads o) :: rest)) rest (QcM ads cA D Q (Value.ref (ads o) :: av.map (cv ads)).toArray) (inA ads) :=
    va_runV ⟨hx, hb, hml, hown, hts⟩ hM ⟨callB_of (nAr a - 1) hts hws rfl rfl rfl (hts _ (init_in ha)) (hts _ hln) ⟨(gM_mh ha).1, (gM_mh ha).2, hpn⟩ hroom, hts _ (inst_in ha hst), hts _ (sel_in ha hst)⟩ hpre rfl (by rw [List.length_map]; simp at hn; omega) hls rfl (lv_room hW) hdg ⟨hkc, hks⟩
  intro T hT X
  obtain ⟨v, st₀, t, T', L', h0, X', hL, e1, e2, ⟨⟨r, h', hv, hq, hP', hok', hor⟩, hz, hk⟩, st⟩ := hrun T hT X
  cases hv
  rw [h0] at hz hk
  obtain ⟨t2, a1, b1⟩ := kk r h' T'.heap (locs ++ L') hq (by rw [e1]; exact hP') hok' hor ⟨Nat.le_trans hS.1 (by rw [e1]; exact hz), fun q h1 h2 => by rw [e1, hk q (Nat.lt_of_lt_of_le h1 hS.1) h2]; exact hS.2.1 q h1 h2, fun q hq => by
      rcases List.mem_append.mp hq with h | h
      · exact hS.2.2 q h
      · exact hL q h⟩ T' rfl X'
  exact ⟨t2, st t2 a1, b1⟩
end LAWR

