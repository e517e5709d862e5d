def yJ_len : MethodName := ⟨"java/lang/String", "length", "()I"⟩
abbrev cJ_len : ByteArray := prog_17_method_54_code
theorem sw_code_len : Cond.code yJ_len cJ_len 1 (some .int) ∈ BIG := big_of (tpA_in (q := (2, 190)) rfl) rfl
theorem sw_in_len : Cond.instanceMethod yJ_len ∈ BIG := big_of (tpA_in (q := (2, 188)) rfl) rfl
theorem sw_sel_len : Cond.selects "java/lang/String" yJ_len yJ_len ∈ BIG := big_of (tpA_in (q := (2, 189)) rfl) rfl
theorem dJ_len_0 : decode cJ_len 0 = .ok (.aload_n 0, 1) := by decide +kernel
theorem dJ_len_1 : decode cJ_len 1 = .ok (.getfield 9, 3) := by decide +kernel
theorem dJ_len_4 : decode cJ_len 4 = .ok (.arraylength, 1) := by decide +kernel
theorem dJ_len_5 : decode cJ_len 5 = .ok (.aload_n 0, 1) := by decide +kernel
theorem dJ_len_6 : decode cJ_len 6 = .ok (.invokevirtual 335, 3) := by decide +kernel
theorem dJ_len_9 : decode cJ_len 9 = .ok (.ishr, 1) := by decide +kernel
theorem dJ_len_10 : decode cJ_len 10 = .ok (.ireturn, 1) := by decide +kernel
def yJ_cod : MethodName := ⟨"java/lang/String", "coder", "()B"⟩
abbrev cJ_cod : ByteArray := prog_17_method_152_code
theorem sw_code_cod : Cond.code yJ_cod cJ_cod 1 (some .byte) ∈ BIG := big_of (tpA_in (q := (2, 194)) rfl) rfl
theorem sw_in_cod : Cond.instanceMethod yJ_cod ∈ BIG := big_of (tpA_in (q := (2, 192)) rfl) rfl
theorem sw_sel_cod : Cond.selects "java/lang/String" yJ_cod yJ_cod ∈ BIG := big_of (tpA_in (q := (2, 193)) rfl) rfl
theorem dJ_cod_0 : decode cJ_cod 0 = .ok (.getstatic 38, 3) := by decide +kernel
theorem dJ_cod_3 : decode cJ_cod 3 = .ok (.ifCond .eq 10, 3) := by decide +kernel
theorem dJ_cod_6 : decode cJ_cod 6 = .ok (.aload_n 0, 1) := by decide +kernel
theorem dJ_cod_7 : decode cJ_cod 7 = .ok (.getfield 15, 3) := by decide +kernel
theorem dJ_cod_10 : decode cJ_cod 10 = .ok (.goto 4, 3) := by decide +kernel
theorem dJ_cod_13 : decode cJ_cod 13 = .ok (.iconst 1, 1) := by decide +kernel
theorem dJ_cod_14 : decode cJ_cod 14 = .ok (.ireturn, 1) := by decide +kernel
def yJ_chr : MethodName := ⟨"java/lang/String", "charAt", "(I)C"⟩
abbrev cJ_chr : ByteArray := prog_17_method_56_code
theorem sw_code_chr : Cond.code yJ_chr cJ_chr 2 (some .char) ∈ BIG := big_of (tpA_in (q := (2, 200)) rfl) rfl
theorem sw_in_chr : Cond.instanceMethod yJ_chr ∈ BIG := big_of (tpA_in (q := (2, 198)) rfl) rfl
theorem sw_sel_chr : Cond.selects "java/lang/String" yJ_chr yJ_chr ∈ BIG := big_of (tpA_in (q := (2, 199)) rfl) rfl
theorem dJ_chr_0 : decode cJ_chr 0 = .ok (.aload_n 0, 1) := by decide +kernel
theorem dJ_chr_1 : decode cJ_chr 1 = .ok (.invokevirtual 492, 3) := by decide +kernel
theorem dJ_chr_4 : decode cJ_chr 4 = .ok (.ifCond .eq 12, 3) := by decide +kernel
theorem dJ_chr_7 : decode cJ_chr 7 = .ok (.aload_n 0, 1) := by decide +kernel
theorem dJ_chr_8 : decode cJ_chr 8 = .ok (.getfield 9, 3) := by decide +kernel
theorem dJ_chr_11 : decode cJ_chr 11 = .ok (.iload_n 1, 1) := by decide +kernel
theorem dJ_chr_12 : decode cJ_chr 12 = .ok (.invokestatic 495, 3) := by decide +kernel
theorem dJ_chr_15 : decode cJ_chr 15 = .ok (.ireturn, 1) := by decide +kernel
theorem dJ_chr_16 : decode cJ_chr 16 = .ok (.aload_n 0, 1) := by decide +kernel
theorem dJ_chr_17 : decode cJ_chr 17 = .ok (.getfield 9, 3) := by decide +kernel
theorem dJ_chr_20 : decode cJ_chr 20 = .ok (.iload_n 1, 1) := by decide +kernel
theorem dJ_chr_21 : decode cJ_chr 21 = .ok (.invokestatic 498, 3) := by decide +kernel
theorem dJ_chr_24 : decode cJ_chr 24 = .ok (.ireturn, 1) := by decide +kernel
def yJ_isl : MethodName := ⟨"java/lang/String", "isLatin1", "()Z"⟩
abbrev cJ_isl : ByteArray := prog_17_method_154_code
theorem sw_code_isl : Cond.code yJ_isl cJ_isl 1 (some .boolean) ∈ BIG := big_of (tpA_in (q := (2, 204)) rfl) rfl
theorem sw_in_isl : Cond.instanceMethod yJ_isl ∈ BIG := big_of (tpA_in (q := (2, 202)) rfl) rfl
theorem sw_sel_isl : Cond.selects "java/lang/String" yJ_isl yJ_isl ∈ BIG := big_of (tpA_in (q := (2, 203)) rfl) rfl
theorem dJ_isl_0 : decode cJ_isl 0 = .ok (.getstatic 38, 3) := by decide +kernel
theorem dJ_isl_3 : decode cJ_isl 3 = .ok (.ifCond .eq 14, 3) := by decide +kernel
theorem dJ_isl_6 : decode cJ_isl 6 = .ok (.aload_n 0, 1) := by decide +kernel
theorem dJ_isl_7 : decode cJ_isl 7 = .ok (.getfield 15, 3) := by decide +kernel
theorem dJ_isl_10 : decode cJ_isl 10 = .ok (.ifCond .ne 7, 3) := by decide +kernel
theorem dJ_isl_13 : decode cJ_isl 13 = .ok (.iconst 1, 1) := by decide +kernel
theorem dJ_isl_14 : decode cJ_isl 14 = .ok (.goto 4, 3) := by decide +kernel
theorem dJ_isl_17 : decode cJ_isl 17 = .ok (.iconst 0, 1) := by decide +kernel
theorem dJ_isl_18 : decode cJ_isl 18 = .ok (.ireturn, 1) := by decide +kernel
def yJ_l1c : MethodName := ⟨"java/lang/StringLatin1", "charAt", "([BI)C"⟩
abbrev cJ_l1c : ByteArray := prog_18_method_2_code
theorem sw_code_l1c : Cond.code yJ_l1c cJ_l1c 2 (some .char) ∈ BIG := big_of (tpA_in (q := (2, 207)) rfl) rfl
theorem sw_st_l1c : Cond.static yJ_l1c ∈ BIG := big_of (tpA_in (q := (2, 206)) rfl) rfl
theorem dJ_l1c_0 : decode cJ_l1c 0 = .ok (.iload_n 1, 1) := by decide +kernel
theorem dJ_l1c_1 : decode cJ_l1c 1 = .ok (.aload_n 0, 1) := by decide +kernel
theorem dJ_l1c_2 : decode cJ_l1c 2 = .ok (.arraylength, 1) := by decide +kernel
theorem dJ_l1c_3 : decode cJ_l1c 3 = .ok (.invokestatic 9, 3) := by decide +kernel
theorem dJ_l1c_6 : decode cJ_l1c 6 = .ok (.aload_n 0, 1) := by decide +kernel
theorem dJ_l1c_7 : decode cJ_l1c 7 = .ok (.iload_n 1, 1) := by decide +kernel
theorem dJ_l1c_8 : decode cJ_l1c 8 = .ok (.baload, 1) := by decide +kernel
theorem dJ_l1c_9 : decode cJ_l1c 9 = .ok (.sipush 255, 3) := by decide +kernel
theorem dJ_l1c_12 : decode cJ_l1c 12 = .ok (.iand, 1) := by decide +kernel
theorem dJ_l1c_13 : decode cJ_l1c 13 = .ok (.i2c, 1) := by decide +kernel
theorem dJ_l1c_14 : decode cJ_l1c 14 = .ok (.ireturn, 1) := by decide +kernel
def yJ_sci : MethodName := ⟨"java/lang/String", "checkIndex", "(II)V"⟩
abbrev cJ_sci : ByteArray := prog_17_method_155_code
theorem sw_code_sci : Cond.code yJ_sci cJ_sci 2 none ∈ BIG := big_of (tpA_in (q := (2, 210)) rfl) rfl
theorem sw_st_sci : Cond.static yJ_sci ∈ BIG := big_of (tpA_in (q := (2, 209)) rfl) rfl
theorem dJ_sci_0 : decode cJ_sci 0 = .ok (.iload_n 0, 1) := by decide +kernel
theorem dJ_sci_1 : decode cJ_sci 1 = .ok (.iload_n 1, 1) := by decide +kernel
theorem dJ_sci_2 : decode cJ_sci 2 = .ok (.getstatic 1053, 3) := by decide +kernel
theorem dJ_sci_5 : decode cJ_sci 5 = .ok (.invokestatic 1059, 3) := by decide +kernel
theorem dJ_sci_8 : decode cJ_sci 8 = .ok (.pop, 1) := by decide +kernel
theorem dJ_sci_9 : decode cJ_sci 9 = .ok (.return_, 1) := by decide +kernel
def yJ_pci : MethodName := ⟨"jdk/internal/util/Preconditions", "checkIndex", "(IILjava/util/function/BiFunction;)I"⟩
abbrev cJ_pci : ByteArray := prog_21_method_11_code
theorem sw_code_pci : Cond.code yJ_pci cJ_pci 3 (some .int) ∈ BIG := big_of (tpA_in (q := (2, 215)) rfl) rfl
theorem sw_st_pci : Cond.static yJ_pci ∈ BIG := big_of (tpA_in (q := (2, 214)) rfl) rfl
theorem dJ_pci_0 : decode cJ_pci 0 = .ok (.iload_n 0, 1) := by decide +kernel
theorem dJ_pci_1 : decode cJ_pci 1 = .ok (.ifCond .lt 8, 3) := by decide +kernel
theorem dJ_pci_4 : decode cJ_pci 4 = .ok (.iload_n 0, 1) := by decide +kernel
theorem dJ_pci_5 : decode cJ_pci 5 = .ok (.iload_n 1, 1) := by decide +kernel
theorem dJ_pci_6 : decode cJ_pci 6 = .ok (.if_icmp .lt 10, 3) := by decide +kernel
theorem dJ_pci_9 : decode cJ_pci 9 = .ok (.aload_n 2, 1) := by decide +kernel
theorem dJ_pci_10 : decode cJ_pci 10 = .ok (.iload_n 0, 1) := by decide +kernel
theorem dJ_pci_11 : decode cJ_pci 11 = .ok (.iload_n 1, 1) := by decide +kernel
theorem dJ_pci_12 : decode cJ_pci 12 = .ok (.invokestatic 95, 3) := by decide +kernel
theorem dJ_pci_15 : decode cJ_pci 15 = .ok (.athrow, 1) := by decide +kernel
theorem dJ_pci_16 : decode cJ_pci 16 = .ok (.iload_n 0, 1) := by decide +kernel
theorem dJ_pci_17 : decode cJ_pci 17 = .ok (.ireturn, 1) := by decide +kernel
theorem sw_ini_S : Cond.initialized "java/lang/String" ∈ BIG := big_of (tpA_in (q := (1, 12)) rfl) rfl
theorem sw_ini_L : Cond.initialized "java/lang/StringLatin1" ∈ BIG := big_of (tpA_in (q := (1, 13)) rfl) rfl
theorem sw_ini_P : Cond.initialized "jdk/internal/util/Preconditions" ∈ BIG := big_of (tpA_in (q := (1, 14)) rfl) rfl
theorem sw_fval : Cond.fieldLink "java/lang/String" 9 "java/lang/String" "value" "[B" ∈ BIG := big_of (tpA_in (q := (8, 58)) rfl) rfl
theorem sw_fcod : Cond.fieldLink "java/lang/String" 15 "java/lang/String" "coder" "B" ∈ BIG := big_of (tpA_in (q := (8, 59)) rfl) rfl
theorem sw_fcmp : Cond.fieldLink "java/lang/String" 38 "java/lang/String" "COMPACT_STRINGS" "Z" ∈ BIG := big_of (tpA_in (q := (2, 195)) rfl) rfl
theorem sw_fsio : Cond.fieldLink "java/lang/String" 1053 "jdk/internal/util/Preconditions" "SIOOBE_FORMATTER" "Ljava/util/function/BiFunction;" ∈ BIG := big_of (tpA_in (q := (2, 211)) rfl) rfl
theorem sw_mcod : Cond.methodLink "java/lang/String" 335 yJ_cod ∈ BIG := big_of (tpA_in (q := (2, 191)) rfl) rfl
theorem sw_misl : Cond.methodLink "java/lang/String" 492 yJ_isl ∈ BIG := big_of (tpA_in (q := (2, 201)) rfl) rfl
theorem sw_ml1c : Cond.methodLink "java/lang/String" 495 yJ_l1c ∈ BIG := big_of (tpA_in (q := (2, 205)) rfl) rfl
theorem sw_msci : Cond.methodLink "java/lang/StringLatin1" 9 yJ_sci ∈ BIG := big_of (tpA_in (q := (2, 208)) rfl) rfl
theorem sw_mpci : Cond.methodLink "java/lang/String" 1059 yJ_pci ∈ BIG := big_of (tpA_in (q := (2, 213)) rfl) rfl
theorem sw_mlen : Cond.methodLink "ThimbleLaw$Reader" 90 yJ_len ∈ BIG := big_of (tpA_in (q := (2, 187)) rfl) rfl
theorem sw_mchr : Cond.methodLink "ThimbleLaw$Reader" 95 yJ_chr ∈ BIG := big_of (tpA_in (q := (2, 197)) rfl) rfl
/-! THE JDK's OWN METHODS over the one text: they read, and change nothing -/
def QrM (v : Option Value) : Array Value → State → Outcome → State → Prop := fun _ st oc t => oc = .returned v ∧ t.heap = st.heap
def PrM (ads : Nat → Nat) (av : List Value) : Array Value → State → Prop := va_Pc av (fun U => SX ads U)
theorem PrM.blind {ads : Nat → Nat} {av : List Value} : FrameBlind (PrM ads av) := fun a U g mk q => ⟨q.1, q.2.same rfl rfl⟩
def rmJ (d : Nat) : Room := { frames := d, cells := 0, slots := 0, locals := 40 * d }
theorem call_rd {p : Program} {l : Launch} {e : Env} {R : Room} {s : State} {mid : MethodId} {args : Array Value} {below : List Frame} {meth : Method} {c : Code} {H : Heap} {locs : List Loc} {QQ : State → Prop} {pc : Nat} {lsC : Array Slot} {st0 rest : List Value} {av : Array Value} {v : Option Value}
    (hr : va_Run p l e R s mid args below meth c H locs 0 0 0 0 (F0 mid pc lsC st0) rest (QrM v av) (fun _ => False))
    (kk : W p l e R s mid args below meth c H locs 0 0 QQ (F0 mid (pc + 3) lsC (v.toList ++ rest))) :
    W p l e R s mid args below meth c H locs 0 0 QQ (F0 mid pc lsC st0) := by
  intro T hT X
  obtain ⟨v2, st₀, t, T', L, h0, X', hL, e1, e2, ⟨hv, hh⟩, st⟩ := hr T hT X
  have hv := Outcome.returned.inj hv
  subst hv
  have hL0 : L = [] := by
    cases L with
    | nil => rfl
    | cons q L => exact (hL q List.mem_cons_self).elim
  subst hL0
  rw [List.append_nil] at X'
  obtain ⟨t2, a1, b1⟩ := kk T' (by rw [e1, hh, h0]) X'
  exact ⟨t2, st t2 a1, b1⟩
def wsJ (y : MethodName) (b : ByteArray) (n : Nat) (r : Option FieldType) : List Cond := .code y b n r :: BIG
theorem wsJ_ok {y : MethodName} {b : ByteArray} {n : Nat} {r : Option FieldType} (h : Cond.code y b n r ∈ BIG) : GoodIn BIG (wsJ y b n r) := fun w hw => by
  rcases List.mem_cons.mp hw with rfl | hw
  · exact big_ok _ h
  · exact big_ok _ hw
section STRJ
variable {l : Launch} {ads : Nat → Nat}
set_option maxHeartbeats 4000000 in
theorem met_pci (i : Int) (h0 : 0 ≤ i) (h1 : i < 157) (fv : Value) (hf : fv = .null ∨ ∃ t, fv = .ref t) : Met l yJ_pci (wsJ yJ_pci cJ_pci 3 (some .int)) (rmJ 0) (PrM ads [.int (Int32.ofInt i), .int (Int32.ofInt 157), fv]) (QrM (some (.int (Int32.ofInt i)))) 0 0 (fun _ => False) := by
  refine Met.ofW (cc := cJ_pci) (maxL := 3) (ret := some .int) (by decide) rfl ?_
  intro p e s m args below meth c s₁ B hml hv
  obtain ⟨rfl, hX⟩ := hv
  have hx := B.exec
  have hb := B.bytes
  have hr := B.returns
  have hlocks := B.notSynchronized
  have hl := lv_entry ([.int (Int32.ofInt i), .int (Int32.ofInt 157), fv]) (n := 3) (by rcases hf with rfl | ⟨t, rfl⟩ <;> exact Nat.le_of_ble_eq_true rfl)
  rw [lg_entry_eq]
  generalize (lg_sl ([.int (Int32.ofInt i), .int (Int32.ofInt 157), fv]) ++ List.replicate (3 - (lg_sl ([.int (Int32.ofInt i), .int (Int32.ofInt 157), fv])).length) Slot.unset).toArray = ls at hl ⊢
  have z0 : (0 : Int32) = Int32.ofInt 0 := rfl
  refine lv_iload_n hx hb dJ_pci_0 rfl (lv_at hl 0 rfl) ?_
  refine lv_if_lt (tgt := 9) hx hb dJ_pci_1 (by decide) (fun c1 => ?_) (fun _ => ?_)
  · rw [z0, i32lt (by omega) (by omega)] at c1
    omega
  refine lv_iload_n hx hb dJ_pci_4 rfl (lv_at hl 0 rfl) ?_
  refine lv_iload_n hx hb dJ_pci_5 rfl (lv_at hl 1 rfl) ?_
  refine lv_icmp_lt (tgt := 16) hx hb dJ_pci_6 (by decide) (fun _ => ?_) (fun c1 => ?_)
  · refine lv_iload_n hx hb dJ_pci_16 rfl (lv_at hl 0 rfl) ?_
    exact W.iret hx hb hr (fun t ht hW => ⟨rfl, ht⟩) (fun q hq => by cases hq) dJ_pci_17
  · rw [i32lt (by omega) (by omega)] at c1
    omega
set_option maxHeartbeats 4000000 in
theorem met_sci (i : Int) (h0 : 0 ≤ i) (h1 : i < 157) : Met l yJ_sci (wsJ yJ_sci cJ_sci 2 none) (rmJ 1) (PrM ads [.int (Int32.ofInt i), .int (Int32.ofInt 157)]) (QrM none) 0 0 (fun _ => False) := by
  refine Met.ofW (cc := cJ_sci) (maxL := 2) (ret := none) (by decide) rfl ?_
  intro p e s m args below meth c s₁ B hml hv
  obtain ⟨rfl, hX⟩ := hv
  have hx := B.exec
  have hb := B.bytes
  have hr := B.returns
  have hlocks := B.notSynchronized
  have hown : s.vm.findClass "java/lang/String" = some m.cls := findClass_of_methodNamed B.named
  have hts : ∀ w ∈ BIG, w.before _ s = true := fun w hw => atoms_spec (ws := wsJ yJ_sci cJ_sci 2 none) B.pre w (List.mem_cons_of_mem _ hw)
  have hl := lv_entry ([.int (Int32.ofInt i), .int (Int32.ofInt 157)]) (n := 2) (Nat.le_of_ble_eq_true rfl)
  rw [lg_entry_eq]
  generalize (lg_sl ([.int (Int32.ofInt i), .int (Int32.ofInt 157)]) ++ List.replicate (2 - (lg_sl ([.int (Int32.ofInt i), .int (Int32.ofInt 157)])).length) Slot.unset).toArray = ls at hl ⊢
  refine lv_iload_n hx hb dJ_sci_0 rfl (lv_at hl 0 rfl) ?_
  refine lv_iload_n hx hb dJ_sci_1 rfl (lv_at hl 1 rfl) ?_
  have fin : ∀ fv : Value, (fv = .null ∨ ∃ t, fv = .ref t) → W p l e (headSpec (wsJ yJ_sci cJ_sci 2 none) (rmJ 1)).room s m #[Value.int (Int32.ofInt i), Value.int (Int32.ofInt 157)] below meth c s.heap [] 0 0 (MQ below (QrM none) #[Value.int (Int32.ofInt i), Value.int (Int32.ofInt 157)] s 0 0 (fun _ => False)) (F0 m 5 ls (fv :: .int (Int32.ofInt 157) :: .int (Int32.ofInt i) :: [])) := by
    intro fv hf
    refine call_rd (v := some (.int (Int32.ofInt i))) (rest := []) (va_runS (As := [.int (Int32.ofInt i), .int (Int32.ofInt 157), fv]) ⟨hx, hb, hml, hown, hts⟩ (met_pci (ads := ads) i h0 h1 fv hf) ⟨callB_of 3 hts (wsJ_ok sw_code_pci) rfl rfl rfl (hts _ sw_ini_P) (hts _ sw_mpci) (by decide +kernel) ⟨Nat.le_of_ble_eq_true rfl, Nat.le_of_ble_eq_true rfl⟩, hts _ sw_st_pci⟩ ⟨PrM.blind, fun U hU hW => ⟨rfl, hX.kept va_S.rf hU hW⟩⟩ rfl rfl hl.1 rfl (lv_room (Nat.le_of_ble_eq_true rfl)) dJ_sci_5 ⟨Nat.le_refl _, Nat.le_refl _⟩) ?_
    refine lv_pop hx hb dJ_sci_8 rfl ?_
    exact W.vret hx hb hr (fun t ht hW => ⟨rfl, ht⟩) (fun q hq => by cases hq) dJ_sci_9
  rcases hX.2.2.2 with hz | ⟨t, hz⟩
  · exact va_gets (C := "jdk/internal/util/Preconditions") (own := "java/lang/String") hx hb hz va_S.rf hown (hts _ sw_fsio) (fun _ h9 => h9) dJ_sci_2 (fin .null (Or.inl rfl))
  · exact va_gets (C := "jdk/internal/util/Preconditions") (own := "java/lang/String") hx hb hz va_S.rf hown (hts _ sw_fsio) (fun _ h9 => h9) dJ_sci_2 (fin (.ref t) (Or.inr ⟨t, rfl⟩))
/-- the bytes of the text -/
theorem strB_at : ∀ k, k < 157 → ([strB.map Int32.ofInt].getD 0 []).getD k 0 = Int32.ofInt (nth 0 strB k) := by decide +kernel
theorem strB_ch : ∀ k, k < 157 → ((Int32.ofInt (nth 0 strB k) &&& 255).toUInt32 % 65536).toInt32 = Int32.ofInt (nth 0 strB k) := by decide +kernel
theorem strB_nar : ∀ k, k < 157 → narrow .char (.int (Int32.ofInt (nth 0 strB k))) = .int (Int32.ofInt (nth 0 strB k)) := by decide +kernel
set_option maxHeartbeats 4000000 in
theorem met_l1c (adV : Nat) (i : Int) (h0 : 0 ≤ i) (h1 : i < 157) : Met l yJ_l1c (wsJ yJ_l1c cJ_l1c 2 (some .char)) (rmJ 2) (va_Pc [.ref adV, .int (Int32.ofInt i)] (fun U => SX ads U ∧ vk_S 1 [157] [strB.map Int32.ofInt] (fun _ => ads 96) (fun _ => adV) (inA ads) U U.heap)) (QrM (some (.int (Int32.ofInt (nth 0 strB i.toNat))))) 0 0 (fun _ => False) := by
  refine Met.ofW (cc := cJ_l1c) (maxL := 2) (ret := some .char) (by decide) rfl ?_
  intro p e s m args below meth c s₁ B hml hv
  obtain ⟨rfl, hX, hV⟩ := hv
  have hx := B.exec
  have hb := B.bytes
  have hr := B.returns
  have hlocks := B.notSynchronized
  have hown : s.vm.findClass "java/lang/StringLatin1" = some m.cls := findClass_of_methodNamed B.named
  have hts : ∀ w ∈ BIG, w.before _ s = true := fun w hw => atoms_spec (ws := wsJ yJ_l1c cJ_l1c 2 (some .char)) B.pre w (List.mem_cons_of_mem _ hw)
  have hl := lv_entry ([.ref adV, .int (Int32.ofInt i)]) (n := 2) (Nat.le_of_ble_eq_true rfl)
  rw [lg_entry_eq]
  generalize (lg_sl ([.ref adV, .int (Int32.ofInt i)]) ++ List.replicate (2 - (lg_sl ([.ref adV, .int (Int32.ofInt i)])).length) Slot.unset).toArray = ls at hl ⊢
  have hT := (hV.1 0 (by decide)).2.2.2
  refine lv_iload_n hx hb dJ_l1c_0 rfl (lv_at hl 1 rfl) ?_
  refine lv_aload_n hx hb dJ_l1c_1 rfl (lv_at hl 0 rfl) ?_
  refine va_tlen hx hb hT va_S.rf (v := Int32.ofInt 157) rfl dJ_l1c_2 ?_
  refine call_rd (v := none) (rest := []) (va_runS (As := [.int (Int32.ofInt i), .int (Int32.ofInt 157)]) ⟨hx, hb, hml, hown, hts⟩ (met_sci (ads := ads) i h0 h1) ⟨callB_of 2 hts (wsJ_ok sw_code_sci) rfl rfl rfl (hts _ sw_ini_S) (hts _ sw_msci) (by decide +kernel) ⟨Nat.le_of_ble_eq_true rfl, Nat.le_of_ble_eq_true rfl⟩, hts _ sw_st_sci⟩ ⟨PrM.blind, fun U hU hW => ⟨rfl, hX.kept va_S.rf hU hW⟩⟩ rfl rfl hl.1 rfl (lv_room (Nat.le_of_ble_eq_true rfl)) dJ_l1c_3 ⟨Nat.le_refl _, Nat.le_refl _⟩) ?_
  refine lv_aload_n hx hb dJ_l1c_6 rfl (lv_at hl 0 rfl) ?_
  refine lv_iload_n hx hb dJ_l1c_7 rfl (lv_at hl 1 rfl) ?_
  refine va_tb hx hb hT va_S.rf (i32in (n := 157) h0 h1 (by omega)) (v := .int (Int32.ofInt (nth 0 strB i.toNat))) ?_ dJ_l1c_8 ?_
  · rw [i32clamp h0 (by omega)]
    exact congrArg Value.int (strB_at _ (by omega))
  refine lv_sipush hx hb dJ_l1c_9 (v := 255) (by decide) ?_
  refine lv_iand hx hb dJ_l1c_12 ?_
  refine lv_i2c hx hb dJ_l1c_13 (strB_ch _ (by omega)) ?_
  exact W.zret hx hb hr (strB_nar _ (by omega)) (fun t ht hW => ⟨rfl, ht⟩) (fun q hq => by cases hq) dJ_l1c_14
set_option maxHeartbeats 4000000 in
theorem met_cod : Met l yJ_cod (wsJ yJ_cod cJ_cod 1 (some .byte)) (rmJ 0) (PrM ads [.ref (ads 96)]) (QrM (some (.int 0))) 0 0 (fun _ => False) := by
  refine Met.ofW (cc := cJ_cod) (maxL := 1) (ret := some .byte) (by decide) rfl ?_
  intro p e s m args below meth c s₁ B hml hv
  obtain ⟨rfl, hX⟩ := hv
  have hx := B.exec
  have hb := B.bytes
  have hr := B.returns
  have hlocks := B.notSynchronized
  have hown : s.vm.findClass "java/lang/String" = some m.cls := findClass_of_methodNamed B.named
  have hts : ∀ w ∈ BIG, w.before _ s = true := fun w hw => atoms_spec (ws := wsJ yJ_cod cJ_cod 1 (some .byte)) B.pre w (List.mem_cons_of_mem _ hw)
  have hl := lv_entry ([.ref (ads 96)]) (n := 1) (Nat.le_of_ble_eq_true rfl)
  rw [lg_entry_eq]
  generalize (lg_sl ([.ref (ads 96)]) ++ List.replicate (1 - (lg_sl ([.ref (ads 96)])).length) Slot.unset).toArray = ls at hl ⊢
  obtain ⟨hR, ⟨adV, hV⟩, hZ, hZq⟩ := hX
  refine va_gets (C := "java/lang/String") (own := "java/lang/String") hx hb hZ va_S.rf hown (hts _ sw_fcmp) (fun _ h9 => h9) dJ_cod_0 ?_
  refine lv_if_eq (tgt := 13) hx hb dJ_cod_3 (by decide) (fun c1 => absurd c1 (by decide)) (fun _ => ?_)
  refine lv_aload_n hx hb dJ_cod_6 rfl (lv_at hl 0 rfl) ?_
  refine vk_getf (own := "java/lang/String") hx hb (hV.1 0 (by decide)).2.1 va_S.rf hown (hts _ sw_fcod) (fun _ h9 => h9) dJ_cod_7 ?_
  refine lv_goto (tgt := 14) hx hb dJ_cod_10 (by decide) ?_
  exact W.zret hx hb hr rfl (fun t ht hW => ⟨rfl, ht⟩) (fun q hq => by cases hq) dJ_cod_14
set_option maxHeartbeats 4000000 in
theorem met_isl : Met l yJ_isl (wsJ yJ_isl cJ_isl 1 (some .boolean)) (rmJ 0) (PrM ads [.ref (ads 96)]) (QrM (some (.int 1))) 0 0 (fun _ => False) := by
  refine Met.ofW (cc := cJ_isl) (maxL := 1) (ret := some .boolean) (by decide) rfl ?_
  intro p e s m args below meth c s₁ B hml hv
  obtain ⟨rfl, hX⟩ := hv
  have hx := B.exec
  have hb := B.bytes
  have hr := B.returns
  have hlocks := B.notSynchronized
  have hown : s.vm.findClass "java/lang/String" = some m.cls := findClass_of_methodNamed B.named
  have hts : ∀ w ∈ BIG, w.before _ s = true := fun w hw => atoms_spec (ws := wsJ yJ_isl cJ_isl 1 (some .boolean)) B.pre w (List.mem_cons_of_mem _ hw)
  have hl := lv_entry ([.ref (ads 96)]) (n := 1) (Nat.le_of_ble_eq_true rfl)
  rw [lg_entry_eq]
  generalize (lg_sl ([.ref (ads 96)]) ++ List.replicate (1 - (lg_sl ([.ref (ads 96)])).length) Slot.unset).toArray = ls at hl ⊢
  obtain ⟨hR, ⟨adV, hV⟩, hZ, hZq⟩ := hX
  refine va_gets (C := "java/lang/String") (own := "java/lang/String") hx hb hZ va_S.rf hown (hts _ sw_fcmp) (fun _ h9 => h9) dJ_isl_0 ?_
  refine lv_if_eq (tgt := 17) hx hb dJ_isl_3 (by decide) (fun c1 => absurd c1 (by decide)) (fun _ => ?_)
  refine lv_aload_n hx hb dJ_isl_6 rfl (lv_at hl 0 rfl) ?_
  refine vk_getf (own := "java/lang/String") hx hb (hV.1 0 (by decide)).2.1 va_S.rf hown (hts _ sw_fcod) (fun _ h9 => h9) dJ_isl_7 ?_
  refine lv_if_ne (tgt := 17) hx hb dJ_isl_10 (by decide) (fun c1 => absurd rfl c1) (fun _ => ?_)
  refine lv_iconst (v := 1) hx hb dJ_isl_13 (by decide) ?_
  refine lv_goto (tgt := 18) hx hb dJ_isl_14 (by decide) ?_
  exact W.zret hx hb hr rfl (fun t ht hW => ⟨rfl, ht⟩) (fun q hq => by cases hq) dJ_isl_18
set_option maxHeartbeats 4000000 in
theorem met_len : Met l yJ_len (wsJ yJ_len cJ_len 1 (some .int)) (rmJ 1) (PrM ads [.ref (ads 96)]) (QrM (some (.int (Int32.ofInt 157)))) 0 0 (fun _ => False) := by
  refine Met.ofW (cc := cJ_len) (maxL := 1) (ret := some .int) (by decide) rfl ?_
  intro p e s m args below meth c s₁ B hml hv
  obtain ⟨rfl, hX⟩ := hv
  have hx := B.exec
  have hb := B.bytes
  have hr := B.returns
  have hlocks := B.notSynchronized
  have hown : s.vm.findClass "java/lang/String" = some m.cls := findClass_of_methodNamed B.named
  have hts : ∀ w ∈ BIG, w.before _ s = true := fun w hw => atoms_spec (ws := wsJ yJ_len cJ_len 1 (some .int)) B.pre w (List.mem_cons_of_mem _ hw)
  have hl := lv_entry ([.ref (ads 96)]) (n := 1) (Nat.le_of_ble_eq_true rfl)
  rw [lg_entry_eq]
  generalize (lg_sl ([.ref (ads 96)]) ++ List.replicate (1 - (lg_sl ([.ref (ads 96)])).length) Slot.unset).toArray = ls at hl ⊢
  obtain ⟨hR, ⟨adV, hV⟩, hZ, hZq⟩ := id hX
  refine lv_aload_n hx hb dJ_len_0 rfl (lv_at hl 0 rfl) ?_
  refine vk_getf (own := "java/lang/String") hx hb (hV.1 0 (by decide)).2.2.1 va_S.rf hown (hts _ sw_fval) (fun _ h9 => h9) dJ_len_1 ?_
  refine va_tlen hx hb (hV.1 0 (by decide)).2.2.2 va_S.rf (v := Int32.ofInt 157) rfl dJ_len_4 ?_
  refine lv_aload_n hx hb dJ_len_5 rfl (lv_at hl 0 rfl) ?_
  refine call_rd (v := some (.int 0)) (rest := [.int (Int32.ofInt 157)]) (va_runV (C := "java/lang/String") (As := []) ⟨hx, hb, hml, hown, hts⟩ (met_cod (ads := ads)) ⟨callB_of 0 hts (wsJ_ok sw_code_cod) rfl rfl rfl (hts _ sw_ini_S) (hts _ sw_mcod) (by decide +kernel) ⟨Nat.le_of_ble_eq_true rfl, Nat.le_of_ble_eq_true rfl⟩, hts _ sw_in_cod, hts _ sw_sel_cod⟩ ⟨PrM.blind, vk_recv hV (i := 0) (by decide) va_S.rf, fun U hU hW => ⟨rfl, hX.kept va_S.rf hU hW⟩⟩ rfl rfl hl.1 rfl (lv_room (Nat.le_of_ble_eq_true rfl)) dJ_len_6 ⟨Nat.le_refl _, Nat.le_refl _⟩) ?_
  refine lv_ishr hx hb dJ_len_9 ?_
  exact W.iret (v := Int32.ofInt 157) hx hb hr (fun t ht hW => ⟨rfl, ht⟩) (fun q hq => by cases hq) dJ_len_10
set_option maxHeartbeats 4000000 in
theorem met_chr (i : Int) (h0 : 0 ≤ i) (h1 : i < 157) : Met l yJ_chr (wsJ yJ_chr cJ_chr 2 (some .char)) (rmJ 3) (PrM ads [.ref (ads 96), .int (Int32.ofInt i)]) (QrM (some (.int (Int32.ofInt (nth 0 strB i.toNat))))) 0 0 (fun _ => False) := by
  refine Met.ofW (cc := cJ_chr) (maxL := 2) (ret := some .char) (by decide) rfl ?_
  intro p e s m args below meth c s₁ B hml hv
  obtain ⟨rfl, hX⟩ := hv
  have hx := B.exec
  have hb := B.bytes
  have hr := B.returns
  have hlocks := B.notSynchronized
  have hown : s.vm.findClass "java/lang/String" = some m.cls := findClass_of_methodNamed B.named
  have hts : ∀ w ∈ BIG, w.before _ s = true := fun w hw => atoms_spec (ws := wsJ yJ_chr cJ_chr 2 (some .char)) B.pre w (List.mem_cons_of_mem _ hw)
  have hl := lv_entry ([.ref (ads 96), .int (Int32.ofInt i)]) (n := 2) (Nat.le_of_ble_eq_true rfl)
  rw [lg_entry_eq]
  generalize (lg_sl ([.ref (ads 96), .int (Int32.ofInt i)]) ++ List.replicate (2 - (lg_sl ([.ref (ads 96), .int (Int32.ofInt i)])).length) Slot.unset).toArray = ls at hl ⊢
  obtain ⟨hR, ⟨adV, hV⟩, hZ, hZq⟩ := id hX
  refine lv_aload_n hx hb dJ_chr_0 rfl (lv_at hl 0 rfl) ?_
  refine call_rd (v := some (.int 1)) (rest := []) (va_runV (C := "java/lang/String") (As := []) ⟨hx, hb, hml, hown, hts⟩ (met_isl (ads := ads)) ⟨callB_of 0 hts (wsJ_ok sw_code_isl) rfl rfl rfl (hts _ sw_ini_S) (hts _ sw_misl) (by decide +kernel) ⟨Nat.le_of_ble_eq_true rfl, Nat.le_of_ble_eq_true rfl⟩, hts _ sw_in_isl, hts _ sw_sel_isl⟩ ⟨PrM.blind, vk_recv hV (i := 0) (by decide) va_S.rf, fun U hU hW => ⟨rfl, hX.kept va_S.rf hU hW⟩⟩ rfl rfl hl.1 rfl (lv_room (Nat.le_of_ble_eq_true rfl)) dJ_chr_1 ⟨Nat.le_refl _, Nat.le_refl _⟩) ?_
  refine lv_if_eq (tgt := 16) hx hb dJ_chr_4 (by decide) (fun c1 => absurd c1 (by decide)) (fun _ => ?_)
  refine lv_aload_n hx hb dJ_chr_7 rfl (lv_at hl 0 rfl) ?_
  refine vk_getf (own := "java/lang/String") hx hb (hV.1 0 (by decide)).2.2.1 va_S.rf hown (hts _ sw_fval) (fun _ h9 => h9) dJ_chr_8 ?_
  refine lv_iload_n hx hb dJ_chr_11 rfl (lv_at hl 1 rfl) ?_
  refine call_rd (v := some (.int (Int32.ofInt (nth 0 strB i.toNat)))) (rest := []) (va_runS (As := [.ref adV, .int (Int32.ofInt i)]) ⟨hx, hb, hml, hown, hts⟩ (met_l1c (ads := ads) adV i h0 h1) ⟨callB_of 2 hts (wsJ_ok sw_code_l1c) rfl rfl rfl (hts _ sw_ini_L) (hts _ sw_ml1c) (by decide +kernel) ⟨Nat.le_of_ble_eq_true rfl, Nat.le_of_ble_eq_true rfl⟩, hts _ sw_st_l1c⟩ ⟨fun a U g mk q => ⟨q.1, q.2.1.same rfl rfl, vk_S.moved (Vm.Alike.refl U.vm) q.2.2⟩, fun U hU hW => ⟨rfl, hX.kept va_S.rf hU hW, by rw [hU]; exact vk_S.moved hW.alike hV⟩⟩ rfl rfl hl.1 rfl (lv_room (Nat.le_of_ble_eq_true rfl)) dJ_chr_12 ⟨Nat.le_refl _, Nat.le_refl _⟩) ?_
  exact W.zret hx hb hr (strB_nar _ (by omega)) (fun t ht hW => ⟨rfl, ht⟩) (fun q hq => by cases hq) dJ_chr_15
end STRJ
section STEP0
variable {p : Program} {l : Launch} {e : Env} {R : Room} {s : State} {mid : MethodId} {args : Array Value} {below : List Frame} {meth : Method} {c : Code} {H : Heap} {locs : List Loc} {lsC : Array Slot} {ads : Nat → Nat} {QQ : State → Prop}
theorem str_len (hx : p.tables.exec = Jvm.exec) {cc : ByteArray} (hb : c.code = cc) {nL : Nat} (hml : c.maxLocals = nL) (hlc : lsC.size = nL) (hown : s.vm.findClass "ThimbleLaw$Reader" = some mid.cls) (hts : ∀ w ∈ BIG, w.before args s = true) (hS : va_S (inA ads) s.heap H locs) (hX : SX ads s) (hR : 4 ≤ R.frames ∧ 200 ≤ R.locals) {pc : Nat} {rest : List Value} (hW : (rest.map fun v => v.category).sum ≤ 8) (hdg : decode cc pc = .ok (.invokevirtual 90, 3))
    (kk : ∀ locs1, va_S (inA ads) s.heap H locs1 → W p l e R s mid args below meth c H locs1 0 0 QQ (F0 mid (pc + 3) lsC (.int (Int32.ofInt 157) :: rest))) : W p l e R s mid args below meth c H locs 0 0 QQ (F0 mid pc lsC (.ref (ads 96) :: rest)) := by
  obtain ⟨hR1, ⟨adV, hV⟩, hZ, hZq⟩ := id hX
  refine call_rd (v := some (.int (Int32.ofInt 157))) (rest := rest) (va_runV (C := "java/lang/String") (As := []) ⟨hx, hb, hml, hown, hts⟩ (met_len (ads := ads)) ⟨callB_of 0 hts (wsJ_ok sw_code_len) rfl rfl rfl (hts _ sw_ini_S) (hts _ sw_mlen) (by decide +kernel) ⟨?_, ?_⟩, hts _ sw_in_len, hts _ sw_sel_len⟩ ⟨PrM.blind, vk_recv hV (i := 0) (by decide) hS, fun U hU hW => ⟨rfl, hX.kept hS hU hW⟩⟩ rfl rfl hlc rfl (lv_room hW) hdg ⟨Nat.zero_le _, Nat.zero_le _⟩) (kk locs hS)
  · have := hR.1
    show 1 + 1 ≤ R.frames
    omega
  · have := hR.2
    show 8 + (1 + 11) + 40 * 1 ≤ R.locals
    omega
theorem str_chr (hx : p.tables.exec = Jvm.exec) {cc : ByteArray} (hb : c.code = cc) {nL : Nat} (hml : c.maxLocals = nL) (hlc : lsC.size = nL) (hown : s.vm.findClass "ThimbleLaw$Reader" = some mid.cls) (hts : ∀ w ∈ BIG, w.before args s = true) (hS : va_S (inA ads) s.heap H locs) (hX : SX ads s) (hR : 4 ≤ R.frames ∧ 200 ≤ R.locals) {pc : Nat} {rest : List Value} (hW : (rest.map fun v => v.category).sum ≤ 8) (hdg : decode cc pc = .ok (.invokevirtual 95, 3)) {i : Int} (h0 : 0 ≤ i) (h1 : i < 157)
    (kk : ∀ locs1, va_S (inA ads) s.heap H locs1 → W p l e R s mid args below meth c H locs1 0 0 QQ (F0 mid (pc + 3) lsC (.int (Int32.ofInt (nth 0 strB i.toNat)) :: rest))) : W p l e R s mid args below meth c H locs 0 0 QQ (F0 mid pc lsC (.int (Int32.ofInt i) :: .ref (ads 96) :: rest)) := by
  obtain ⟨hR1, ⟨adV, hV⟩, hZ, hZq⟩ := id hX
  refine call_rd (v := some (.int (Int32.ofInt (nth 0 strB i.toNat)))) (rest := rest) (va_runV (C := "java/lang/String") (As := [.int (Int32.ofInt i)]) ⟨hx, hb, hml, hown, hts⟩ (met_chr (ads := ads) i h0 h1) ⟨callB_of 1 hts (wsJ_ok sw_code_chr) rfl rfl rfl (hts _ sw_ini_S) (hts _ sw_mchr) (by decide +kernel) ⟨?_, ?_⟩, hts _ sw_in_chr, hts _ sw_sel_chr⟩ ⟨PrM.blind, vk_recv hV (i := 0) (by decide) hS, fun U hU hW => ⟨rfl, hX.kept hS hU hW⟩⟩ rfl rfl hlc rfl (lv_room hW) hdg ⟨Nat.zero_le _, Nat.zero_le _⟩) (kk locs hS)
  · have := hR.1
    show 3 + 1 ≤ R.frames
    omega
  · have := hR.2
    show 8 + (2 + 11) + 40 * 3 ≤ R.locals
    omega
end STEP0
