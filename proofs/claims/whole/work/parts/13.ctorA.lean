def yI_City : MethodName := ⟨"ThimbleLaw$City", "<init>", "()V"⟩
abbrev cI_City : ByteArray := prog_3_method_1_code
theorem sw_code_iCity : Cond.code yI_City cI_City 2 none ∈ BIG := big_of (tpA_in (q := (1, 38)) rfl) rfl
theorem sw_in_iCity : Cond.instanceMethod yI_City ∈ BIG := big_of (tpA_in (q := (1, 37)) rfl) rfl
theorem sw_ini_0 : Cond.initialized "ThimbleLaw$City" ∈ BIG := big_of (tpA_in (q := (1, 3)) rfl) rfl
theorem sw_is_0 : Cond.instantiable "ThimbleLaw$City" 19 ∈ BIG := big_of (tpA_in (q := (1, 35)) rfl) rfl
theorem sw_oi_City : Cond.methodLink "ThimbleLaw$City" 3 objectInit ∈ BIG := big_of (tpA_in (q := (1, 39)) rfl) rfl
theorem sw_cl_City_58 : Cond.classLink "ThimbleLaw$City" 58 "ThimbleLaw$Told" ∈ BIG := big_of (tpA_in (q := (1, 40)) rfl) rfl
theorem sw_cl_City_71 : Cond.classLink "ThimbleLaw$City" 71 "ThimbleLaw$Steps" ∈ BIG := big_of (tpA_in (q := (1, 68)) rfl) rfl
def yI_Hand : MethodName := ⟨"ThimbleLaw$Hand", "<init>", "()V"⟩
abbrev cI_Hand : ByteArray := prog_5_method_1_code
theorem sw_code_iHand : Cond.code yI_Hand cI_Hand 2 none ∈ BIG := big_of (tpA_in (q := (1, 32)) rfl) rfl
theorem sw_in_iHand : Cond.instanceMethod yI_Hand ∈ BIG := big_of (tpA_in (q := (1, 31)) rfl) rfl
theorem sw_ini_1 : Cond.initialized "ThimbleLaw$Hand" ∈ BIG := big_of (tpA_in (q := (1, 2)) rfl) rfl
theorem sw_is_1 : Cond.instantiable "ThimbleLaw$Hand" 4 ∈ BIG := big_of (tpA_in (q := (1, 29)) rfl) rfl
theorem sw_oi_Hand : Cond.methodLink "ThimbleLaw$Hand" 3 objectInit ∈ BIG := big_of (tpA_in (q := (1, 33)) rfl) rfl
theorem sw_ml_Hand_11 : Cond.methodLink "ThimbleLaw$Hand" 11 yI_City ∈ BIG := big_of (tpA_in (q := (1, 36)) rfl) rfl
theorem sw_cl_Hand_9 : Cond.classLink "ThimbleLaw$Hand" 9 "ThimbleLaw$City" ∈ BIG := big_of (tpA_in (q := (1, 34)) rfl) rfl
theorem sw_cl_Hand_18 : Cond.classLink "ThimbleLaw$Hand" 18 "ThimbleLaw$Judge" ∈ BIG := big_of (tpA_in (q := (1, 189)) rfl) rfl
theorem sw_cl_Hand_25 : Cond.classLink "ThimbleLaw$Hand" 25 "ThimbleLaw$Text" ∈ BIG := big_of (tpA_in (q := (1, 203)) rfl) rfl
def yI_Judge : MethodName := ⟨"ThimbleLaw$Judge", "<init>", "()V"⟩
abbrev cI_Judge : ByteArray := prog_6_method_1_code
theorem sw_code_iJudge : Cond.code yI_Judge cI_Judge 1 none ∈ BIG := big_of (tpA_in (q := (1, 193)) rfl) rfl
theorem sw_in_iJudge : Cond.instanceMethod yI_Judge ∈ BIG := big_of (tpA_in (q := (1, 192)) rfl) rfl
theorem sw_ini_2 : Cond.initialized "ThimbleLaw$Judge" ∈ BIG := big_of (tpA_in (q := (1, 6)) rfl) rfl
theorem sw_is_2 : Cond.instantiable "ThimbleLaw$Judge" 2 ∈ BIG := big_of (tpA_in (q := (1, 190)) rfl) rfl
theorem sw_oi_Judge : Cond.methodLink "ThimbleLaw$Judge" 3 objectInit ∈ BIG := big_of (tpA_in (q := (1, 194)) rfl) rfl
def yI_Reader : MethodName := ⟨"ThimbleLaw$Reader", "<init>", "()V"⟩
abbrev cI_Reader : ByteArray := prog_7_method_1_code
theorem sw_code_iReader : Cond.code yI_Reader cI_Reader 1 none ∈ BIG := big_of (tpA_in (q := (2, 42)) rfl) rfl
theorem sw_in_iReader : Cond.instanceMethod yI_Reader ∈ BIG := big_of (tpA_in (q := (2, 41)) rfl) rfl
theorem sw_ini_3 : Cond.initialized "ThimbleLaw$Reader" ∈ BIG := big_of (tpA_in (q := (1, 9)) rfl) rfl
theorem sw_is_3 : Cond.instantiable "ThimbleLaw$Reader" 8 ∈ BIG := big_of (tpA_in (q := (2, 39)) rfl) rfl
theorem sw_oi_Reader : Cond.methodLink "ThimbleLaw$Reader" 3 objectInit ∈ BIG := big_of (tpA_in (q := (2, 43)) rfl) rfl
def yI_Road : MethodName := ⟨"ThimbleLaw$Road", "<init>", "()V"⟩
abbrev cI_Road : ByteArray := prog_8_method_1_code
theorem sw_code_iRoad : Cond.code yI_Road cI_Road 1 none ∈ BIG := big_of (tpA_in (q := (2, 24)) rfl) rfl
theorem sw_in_iRoad : Cond.instanceMethod yI_Road ∈ BIG := big_of (tpA_in (q := (2, 23)) rfl) rfl
theorem sw_ini_4 : Cond.initialized "ThimbleLaw$Road" ∈ BIG := big_of (tpA_in (q := (1, 8)) rfl) rfl
theorem sw_is_4 : Cond.instantiable "ThimbleLaw$Road" 3 ∈ BIG := big_of (tpA_in (q := (2, 21)) rfl) rfl
theorem sw_oi_Road : Cond.methodLink "ThimbleLaw$Road" 3 objectInit ∈ BIG := big_of (tpA_in (q := (2, 25)) rfl) rfl
def yI_Steps : MethodName := ⟨"ThimbleLaw$Steps", "<init>", "()V"⟩
abbrev cI_Steps : ByteArray := prog_9_method_1_code
theorem sw_code_iSteps : Cond.code yI_Steps cI_Steps 1 none ∈ BIG := big_of (tpA_in (q := (1, 72)) rfl) rfl
theorem sw_in_iSteps : Cond.instanceMethod yI_Steps ∈ BIG := big_of (tpA_in (q := (1, 71)) rfl) rfl
theorem sw_ini_5 : Cond.initialized "ThimbleLaw$Steps" ∈ BIG := big_of (tpA_in (q := (1, 5)) rfl) rfl
theorem sw_is_5 : Cond.instantiable "ThimbleLaw$Steps" 3 ∈ BIG := big_of (tpA_in (q := (1, 69)) rfl) rfl
theorem sw_oi_Steps : Cond.methodLink "ThimbleLaw$Steps" 7 objectInit ∈ BIG := big_of (tpA_in (q := (1, 73)) rfl) rfl
def yI_Text : MethodName := ⟨"ThimbleLaw$Text", "<init>", "()V"⟩
abbrev cI_Text : ByteArray := prog_10_method_1_code
theorem sw_code_iText : Cond.code yI_Text cI_Text 1 none ∈ BIG := big_of (tpA_in (q := (1, 208)) rfl) rfl
theorem sw_in_iText : Cond.instanceMethod yI_Text ∈ BIG := big_of (tpA_in (q := (1, 207)) rfl) rfl
theorem sw_ini_6 : Cond.initialized "ThimbleLaw$Text" ∈ BIG := big_of (tpA_in (q := (1, 7)) rfl) rfl
theorem sw_is_6 : Cond.instantiable "ThimbleLaw$Text" 7 ∈ BIG := big_of (tpA_in (q := (1, 205)) rfl) rfl
theorem sw_oi_Text : Cond.methodLink "ThimbleLaw$Text" 3 objectInit ∈ BIG := big_of (tpA_in (q := (1, 209)) rfl) rfl
def yI_Told : MethodName := ⟨"ThimbleLaw$Told", "<init>", "()V"⟩
abbrev cI_Told : ByteArray := prog_12_method_1_code
theorem sw_code_iTold : Cond.code yI_Told cI_Told 1 none ∈ BIG := big_of (tpA_in (q := (1, 44)) rfl) rfl
theorem sw_in_iTold : Cond.instanceMethod yI_Told ∈ BIG := big_of (tpA_in (q := (1, 43)) rfl) rfl
theorem sw_ini_7 : Cond.initialized "ThimbleLaw$Told" ∈ BIG := big_of (tpA_in (q := (1, 4)) rfl) rfl
theorem sw_is_7 : Cond.instantiable "ThimbleLaw$Told" 4 ∈ BIG := big_of (tpA_in (q := (1, 41)) rfl) rfl
theorem sw_oi_Told : Cond.methodLink "ThimbleLaw$Told" 3 objectInit ∈ BIG := big_of (tpA_in (q := (1, 45)) rfl) rfl
def yI_Law : MethodName := ⟨"ThimbleLaw", "<init>", "()V"⟩
abbrev cI_Law : ByteArray := prog_1_method_1_code
theorem sw_code_iLaw : Cond.code yI_Law cI_Law 1 none ∈ BIG := big_of (tpA_in (q := (1, 24)) rfl) rfl
theorem sw_in_iLaw : Cond.instanceMethod yI_Law ∈ BIG := big_of (tpA_in (q := (1, 23)) rfl) rfl
theorem sw_ini_8 : Cond.initialized "ThimbleLaw" ∈ BIG := big_of (tpA_in (q := (1, 1)) rfl) rfl
theorem sw_is_8 : Cond.instantiable "ThimbleLaw" 9 ∈ BIG := big_of (tpA_in (q := (1, 21)) rfl) rfl
theorem sw_oi_Law : Cond.methodLink "ThimbleLaw" 1 objectInit ∈ BIG := big_of (tpA_in (q := (1, 25)) rfl) rfl
theorem sw_ml_Law_9 : Cond.methodLink "ThimbleLaw" 9 yI_Hand ∈ BIG := big_of (tpA_in (q := (1, 30)) rfl) rfl
theorem sw_ml_Law_23 : Cond.methodLink "ThimbleLaw" 23 yI_City ∈ BIG := big_of (tpA_in (q := (2, 19)) rfl) rfl
theorem sw_cl_Law_7 : Cond.classLink "ThimbleLaw" 7 "ThimbleLaw$Hand" ∈ BIG := big_of (tpA_in (q := (1, 28)) rfl) rfl
theorem sw_cl_Law_21 : Cond.classLink "ThimbleLaw" 21 "ThimbleLaw$City" ∈ BIG := big_of (tpA_in (q := (2, 18)) rfl) rfl
theorem sw_cl_Law_27 : Cond.classLink "ThimbleLaw" 27 "ThimbleLaw$Road" ∈ BIG := big_of (tpA_in (q := (2, 20)) rfl) rfl
theorem sw_cl_Law_34 : Cond.classLink "ThimbleLaw" 34 "ThimbleLaw$Reader" ∈ BIG := big_of (tpA_in (q := (2, 38)) rfl) rfl
def yI_Model : MethodName := ⟨"ThimbleLawModel", "<init>", "()V"⟩
abbrev cI_Model : ByteArray := prog_14_method_1_code
theorem sw_code_iModel : Cond.code yI_Model cI_Model 2 none ∈ BIG := big_of (tpA_in (q := (5, 124)) rfl) rfl
theorem sw_in_iModel : Cond.instanceMethod yI_Model ∈ BIG := big_of (tpA_in (q := (5, 123)) rfl) rfl
theorem sw_ini_9 : Cond.initialized "ThimbleLawModel" ∈ BIG := big_of (tpA_in (q := (1, 10)) rfl) rfl
theorem sw_is_9 : Cond.instantiable "ThimbleLawModel" 26 ∈ BIG := big_of (tpA_in (q := (5, 121)) rfl) rfl
theorem sw_oi_Model : Cond.methodLink "ThimbleLawModel" 1 objectInit ∈ BIG := big_of (tpA_in (q := (5, 125)) rfl) rfl
theorem sw_oinst : Cond.instanceMethod objectInit ∈ BIG := big_of (tpA_in (q := (1, 26)) rfl) rfl
theorem sw_ocode : Cond.code objectInit ⟨#[0xb1]⟩ 1 none ∈ BIG := big_of (tpA_in (q := (1, 27)) rfl) rfl
theorem sw_arr_int : Cond.arrayClass .int ∈ BIG := big_of (tpA_in (q := (1, 67)) rfl) rfl
theorem sw_arr_byte : Cond.arrayClass .byte ∈ BIG := big_of (tpA_in (q := (2, 99)) rfl) rfl
theorem sw_arr_boolean : Cond.arrayClass .boolean ∈ BIG := big_of (tpA_in (q := (5, 209)) rfl) rfl
theorem sw_arr_long : Cond.arrayClass .long ∈ BIG := big_of (tpA_in (q := (5, 208)) rfl) rfl
def nestI : List (String × Nat × MethodName) := [("ThimbleLaw$City", 60, yI_Told), ("ThimbleLaw$City", 73, yI_Steps), ("ThimbleLaw$Hand", 20, yI_Judge), ("ThimbleLaw$Hand", 35, yI_Text), ("ThimbleLaw", 29, yI_Road), ("ThimbleLaw", 36, yI_Reader)]
def NXI (U : State) : Prop := va_AO "ThimbleLaw$Text" U ∧ ∀ q ∈ nestI, va_Nw (.methodLinkNest q.1 q.2.1 q.2.2 "ThimbleLaw") U
theorem NXI.kept {s U : State} (h : NXI s) (hW : s.WarmedH U.vm) : NXI U := ⟨va_AO.moved hW.alike h.1, fun q hq => (h.2 q hq).warmM hW⟩
def PcI (D : va_G) (cA : Nat → ClassId) (ws : va_W) (av : List Value) (sz : Nat) : Array Value → State → Prop := va_Pc av (fun U => U.heap.size = sz ∧ va_P D fcs ws U.heap ∧ (va_K D fcs (tysL cA) U ∧ NXI U) ∧ va_D (fun _ => True) ws)
theorem PcI.blind {D : va_G} {cA : Nat → ClassId} {ws : va_W} {av : List Value} {sz : Nat} : FrameBlind (PcI D cA ws av sz) := by
  intro a U g mk q
  obtain ⟨q0, q1, qP, ⟨qK, qN⟩, qD⟩ := q
  exact ⟨q0, q1, qP, ⟨va_K.moved (u := U) (U := U.calling g mk a) (Vm.Alike.refl U.vm) qK, va_AO.moved (Vm.Alike.refl U.vm) qN.1, fun q hq => va_Nw.same rfl rfl (qN.2 q hq)⟩, qD⟩
theorem arr_same {D : va_G} {cl : List vw_C} {cA : Nat → ClassId} {s : State} {i : Nat} {c : ClassId} {ty : FieldType} (hK : va_K D cl (tysL cA ++ [(c, ty)]) s) (hi : (tysL cA)[i]? = some (cA i, ty)) : c = cA i := by
  have h1 := (hK.2 5 (c, ty) rfl).2
  have hi2 : (tysL cA ++ [(c, ty)])[i]? = some (cA i, ty) := by
    rw [List.getElem?_append_left (List.getElem?_eq_some_iff.mp hi).1]; exact hi
  have h2 := (hK.2 i _ hi2).2
  cases ty with
  | object C =>
    obtain ⟨_, _, _, _, _, a⟩ := h1
    obtain ⟨_, _, _, _, _, b⟩ := h2
    exact Option.some.inj (a.symm.trans b)
  | _ => exact Option.some.inj (Eq.trans (Eq.symm h1) h2)
theorem dI_Told_0 : decode cI_Told 0 = .ok (.aload_n 0, 1) := by decide +kernel
theorem dI_Told_1 : decode cI_Told 1 = .ok (.invokespecial 3, 3) := by decide +kernel
theorem dI_Told_4 : decode cI_Told 4 = .ok (.aload_n 0, 1) := by decide +kernel
theorem dI_Told_5 : decode cI_Told 5 = .ok (.bipush 8, 2) := by decide +kernel
theorem dI_Told_7 : decode cI_Told 7 = .ok (.newarray .int, 2) := by decide +kernel
theorem dI_Told_9 : decode cI_Told 9 = .ok (.putfield 11, 3) := by decide +kernel
theorem dI_Told_12 : decode cI_Told 12 = .ok (.aload_n 0, 1) := by decide +kernel
theorem dI_Told_13 : decode cI_Told 13 = .ok (.bipush 8, 2) := by decide +kernel
theorem dI_Told_15 : decode cI_Told 15 = .ok (.newarray .int, 2) := by decide +kernel
theorem dI_Told_17 : decode cI_Told 17 = .ok (.putfield 15, 3) := by decide +kernel
theorem dI_Told_20 : decode cI_Told 20 = .ok (.aload_n 0, 1) := by decide +kernel
theorem dI_Told_21 : decode cI_Told 21 = .ok (.bipush 8, 2) := by decide +kernel
theorem dI_Told_23 : decode cI_Told 23 = .ok (.newarray .int, 2) := by decide +kernel
theorem dI_Told_25 : decode cI_Told 25 = .ok (.putfield 18, 3) := by decide +kernel
theorem dI_Told_28 : decode cI_Told 28 = .ok (.aload_n 0, 1) := by decide +kernel
theorem dI_Told_29 : decode cI_Told 29 = .ok (.iconst 0, 1) := by decide +kernel
theorem dI_Told_30 : decode cI_Told 30 = .ok (.putfield 21, 3) := by decide +kernel
theorem dI_Told_33 : decode cI_Told 33 = .ok (.return_, 1) := by decide +kernel
def W_Told (cA : Nat → ClassId) (ad : Nat → Nat) : va_W := [((ad 0), .inr (7, [.ref (ad 1), .ref (ad 2), .ref (ad 3), .int (Int32.ofInt 0)])), ((ad 1), .inl (cA 0, 8, .inl (fun _ => Int32.ofInt 0))), ((ad 2), .inl (cA 0, 8, .inl (fun _ => Int32.ofInt 0))), ((ad 3), .inl (cA 0, 8, .inl (fun _ => Int32.ofInt 0)))]
set_option maxHeartbeats 16000000 in
set_option maxRecDepth 100000 in
theorem k_Told (l : Launch) (D : va_G) (cA : Nat → ClassId) (h0 sz : Nat) : Met l yI_Told (wsJ yI_Told cI_Told 1 none) ({ frames := 1, cells := 3, slots := 24, locals := 40 }) (PcI D cA [(h0, .inr (7, [.null, .null, .null, .int (Int32.ofInt 0)]))] [.ref h0] sz) (va_Qv (fun ad : Nat → Nat => ad 0 = h0) (fun ad t => va_P D fcs (W_Told cA ad) t.heap ∧ va_D (va_A [(h0, .inr (7, [.null, .null, .null, .int (Int32.ofInt 0)]))] sz) (W_Told cA ad)) (va_A [(h0, .inr (7, [.null, .null, .null, .int (Int32.ofInt 0)]))] sz)) 3 24 (va_A [(h0, .inr (7, [.null, .null, .null, .int (Int32.ofInt 0)]))] sz) := by
  refine Met.ofW (cc := cI_Told) (maxL := 1) (ret := none) (by decide) rfl ?_
  intro p e s m args below meth c s₁ B hml hv
  obtain ⟨rfl, hsz, hP, ⟨hK, hN⟩, hD0⟩ := hv
  have hx := B.exec
  have hb := B.bytes
  have hr := B.returns
  have hts : ∀ w ∈ BIG, w.before _ s = true := fun w hw => atoms_spec (ws := wsJ yI_Told cI_Told 1 none) B.pre w (List.mem_cons_of_mem _ hw)
  have hown : s.vm.findClass "ThimbleLaw$Told" = some m.cls := findClass_of_methodNamed B.named
  have hlocks := B.notSynchronized
  have hin : meth.name = "<init>" := (name_of_methodNamed B.named B.method).1
  have hO := hN.1
  subst hsz
  have hD := hD0.self (sz := s.heap.size)
  generalize hAe : va_A [(h0, .inr (7, [.null, .null, .null, .int (Int32.ofInt 0)]))] s.heap.size = A at hD ⊢
  have hA : ∀ q : Nat, s.heap.size ≤ q → A q := fun q h => by rw [← hAe]; exact Or.inr h
  have hS : va_S A s.heap s.heap [] := va_S.rf
  have hP : va_P D fcs [(h0, .inr (7, [.null, .null, .null, .int (Int32.ofInt 0)]))] s.heap := hP
  have hl := lv_entry ([.ref h0]) (n := 1) (Nat.le_of_ble_eq_true rfl)
  rw [lg_entry_eq]
  generalize (lg_sl ([.ref h0]) ++ List.replicate (1 - (lg_sl ([.ref h0])).length) Slot.unset).toArray = ls at hl ⊢
  have hl : lv_has ls 1 [(0, .ref h0)] := hl
  refine lv_aload_n hx hb dI_Told_0 rfl (lv_at hl 0 rfl) ?_
  refine W.objInit hx hb hown (hts _ sw_oi_Told) (hts _ sw_oinst) (hts _ sw_ocode) rfl (by rw [hml]; exact hl.1) rfl dI_Told_1 (Nat.le_of_ble_eq_true rfl) (Nat.le_of_ble_eq_true rfl) ?_
  refine W.eq (g2 := F0 m 4 ls []) rfl ?_
  refine lv_aload_n hx hb dI_Told_4 rfl (lv_at hl 0 rfl) ?_
  refine lv_bipush (v := Int32.ofInt 8) hx hb dI_Told_5 (by decide) ?_
  refine va_newa (atype := .int) (ty := .int) (N' := 8) (a0 := (8, .inl (fun _ => Int32.ofInt 0))) hx hb (hts _ sw_arr_int) rfl hK hP hD hS hA (fun _ => rfl) (by decide) (by decide) (by decide) (Nat.le_of_ble_eq_true rfl) (Nat.le_of_ble_eq_true rfl) dI_Told_7 (fun q1 cx H hKx hP hD hS => ?_)
  obtain rfl := arr_same (i := 0) hKx rfl
  have hP : va_P D fcs [(h0, .inr (7, [.null, .null, .null, .int (Int32.ofInt 0)])), (q1, .inl (cA 0, 8, .inl (fun _ => Int32.ofInt 0)))] H := hP
  have hD : va_D A [(h0, .inr (7, [.null, .null, .null, .int (Int32.ofInt 0)])), (q1, .inl (cA 0, 8, .inl (fun _ => Int32.ofInt 0)))] := hD
  refine va_putF (D := D) (ci := 7) (v := .ref q1) (ty := .array .int) (C := clN 7) (T := clT 7) (N := clM 7) (ref := clN 7) hx hb hts (uw_in (c := 7) (by decide)) (clY 7) (ckY 7 (by decide)) (ckX 7 (by decide)) hown hK hP hD hS 0 rfl rfl 0 (by decide) (hts _ (fl_in (w := 9) (i := 11) (c := 7) (k := 0) (by decide) rfl).1) (fun _ h9 => h9) rfl hin rfl (ckY 7 (by decide) 0 (by decide)) rfl rfl (Nat.le_of_ble_eq_true rfl) dI_Told_9 (fun H locs hP hD hS => ?_)
  have hP : va_P D fcs [(h0, .inr (7, [.ref q1, .null, .null, .int (Int32.ofInt 0)])), (q1, .inl (cA 0, 8, .inl (fun _ => Int32.ofInt 0)))] H := hP
  have hD : va_D A [(h0, .inr (7, [.ref q1, .null, .null, .int (Int32.ofInt 0)])), (q1, .inl (cA 0, 8, .inl (fun _ => Int32.ofInt 0)))] := hD
  refine lv_aload_n hx hb dI_Told_12 rfl (lv_at hl 0 rfl) ?_
  refine lv_bipush (v := Int32.ofInt 8) hx hb dI_Told_13 (by decide) ?_
  refine va_newa (atype := .int) (ty := .int) (N' := 8) (a0 := (8, .inl (fun _ => Int32.ofInt 0))) hx hb (hts _ sw_arr_int) rfl hK hP hD hS hA (fun _ => rfl) (by decide) (by decide) (by decide) (Nat.le_of_ble_eq_true rfl) (Nat.le_of_ble_eq_true rfl) dI_Told_15 (fun q2 cx H hKx hP hD hS => ?_)
  obtain rfl := arr_same (i := 0) hKx rfl
  have hP : va_P D fcs [(h0, .inr (7, [.ref q1, .null, .null, .int (Int32.ofInt 0)])), (q1, .inl (cA 0, 8, .inl (fun _ => Int32.ofInt 0))), (q2, .inl (cA 0, 8, .inl (fun _ => Int32.ofInt 0)))] H := hP
  have hD : va_D A [(h0, .inr (7, [.ref q1, .null, .null, .int (Int32.ofInt 0)])), (q1, .inl (cA 0, 8, .inl (fun _ => Int32.ofInt 0))), (q2, .inl (cA 0, 8, .inl (fun _ => Int32.ofInt 0)))] := hD
  refine va_putF (D := D) (ci := 7) (v := .ref q2) (ty := .array .int) (C := clN 7) (T := clT 7) (N := clM 7) (ref := clN 7) hx hb hts (uw_in (c := 7) (by decide)) (clY 7) (ckY 7 (by decide)) (ckX 7 (by decide)) hown hK hP hD hS 0 rfl rfl 1 (by decide) (hts _ (fl_in (w := 9) (i := 15) (c := 7) (k := 1) (by decide) rfl).1) (fun _ h9 => h9) rfl hin rfl (ckY 7 (by decide) 1 (by decide)) rfl rfl (Nat.le_of_ble_eq_true rfl) dI_Told_17 (fun H locs hP hD hS => ?_)
  have hP : va_P D fcs [(h0, .inr (7, [.ref q1, .ref q2, .null, .int (Int32.ofInt 0)])), (q1, .inl (cA 0, 8, .inl (fun _ => Int32.ofInt 0))), (q2, .inl (cA 0, 8, .inl (fun _ => Int32.ofInt 0)))] H := hP
  have hD : va_D A [(h0, .inr (7, [.ref q1, .ref q2, .null, .int (Int32.ofInt 0)])), (q1, .inl (cA 0, 8, .inl (fun _ => Int32.ofInt 0))), (q2, .inl (cA 0, 8, .inl (fun _ => Int32.ofInt 0)))] := hD
  refine lv_aload_n hx hb dI_Told_20 rfl (lv_at hl 0 rfl) ?_
  refine lv_bipush (v := Int32.ofInt 8) hx hb dI_Told_21 (by decide) ?_
  refine va_newa (atype := .int) (ty := .int) (N' := 8) (a0 := (8, .inl (fun _ => Int32.ofInt 0))) hx hb (hts _ sw_arr_int) rfl hK hP hD hS hA (fun _ => rfl) (by decide) (by decide) (by decide) (Nat.le_of_ble_eq_true rfl) (Nat.le_of_ble_eq_true rfl) dI_Told_23 (fun q3 cx H hKx hP hD hS => ?_)
  obtain rfl := arr_same (i := 0) hKx rfl
  have hP : va_P D fcs [(h0, .inr (7, [.ref q1, .ref q2, .null, .int (Int32.ofInt 0)])), (q1, .inl (cA 0, 8, .inl (fun _ => Int32.ofInt 0))), (q2, .inl (cA 0, 8, .inl (fun _ => Int32.ofInt 0))), (q3, .inl (cA 0, 8, .inl (fun _ => Int32.ofInt 0)))] H := hP
  have hD : va_D A [(h0, .inr (7, [.ref q1, .ref q2, .null, .int (Int32.ofInt 0)])), (q1, .inl (cA 0, 8, .inl (fun _ => Int32.ofInt 0))), (q2, .inl (cA 0, 8, .inl (fun _ => Int32.ofInt 0))), (q3, .inl (cA 0, 8, .inl (fun _ => Int32.ofInt 0)))] := hD
  refine va_putF (D := D) (ci := 7) (v := .ref q3) (ty := .array .int) (C := clN 7) (T := clT 7) (N := clM 7) (ref := clN 7) hx hb hts (uw_in (c := 7) (by decide)) (clY 7) (ckY 7 (by decide)) (ckX 7 (by decide)) hown hK hP hD hS 0 rfl rfl 2 (by decide) (hts _ (fl_in (w := 9) (i := 18) (c := 7) (k := 2) (by decide) rfl).1) (fun _ h9 => h9) rfl hin rfl (ckY 7 (by decide) 2 (by decide)) rfl rfl (Nat.le_of_ble_eq_true rfl) dI_Told_25 (fun H locs hP hD hS => ?_)
  have hP : va_P D fcs [(h0, .inr (7, [.ref q1, .ref q2, .ref q3, .int (Int32.ofInt 0)])), (q1, .inl (cA 0, 8, .inl (fun _ => Int32.ofInt 0))), (q2, .inl (cA 0, 8, .inl (fun _ => Int32.ofInt 0))), (q3, .inl (cA 0, 8, .inl (fun _ => Int32.ofInt 0)))] H := hP
  have hD : va_D A [(h0, .inr (7, [.ref q1, .ref q2, .ref q3, .int (Int32.ofInt 0)])), (q1, .inl (cA 0, 8, .inl (fun _ => Int32.ofInt 0))), (q2, .inl (cA 0, 8, .inl (fun _ => Int32.ofInt 0))), (q3, .inl (cA 0, 8, .inl (fun _ => Int32.ofInt 0)))] := hD
  refine lv_aload_n hx hb dI_Told_28 rfl (lv_at hl 0 rfl) ?_
  refine lv_iconst (v := Int32.ofInt 0) hx hb dI_Told_29 rfl ?_
  refine va_put (D := D) (ci := 7) (v := .int (Int32.ofInt 0)) (ty := .int) (C := clN 7) (T := clT 7) (N := clM 7) (ref := clN 7) hx hb hts (uw_in (c := 7) (by decide)) (clY 7) (ckY 7 (by decide)) (ckX 7 (by decide)) hown hK hP hD hS 0 rfl rfl 3 (by decide) (hts _ (fl_in (w := 9) (i := 21) (c := 7) (k := 3) (by decide) rfl).1) (fun _ h9 => h9) rfl (ckY 7 (by decide) 3 (by decide)) rfl rfl (Nat.le_of_ble_eq_true rfl) dI_Told_30 (fun H locs hP hD hS => ?_)
  have hP : va_P D fcs [(h0, .inr (7, [.ref q1, .ref q2, .ref q3, .int (Int32.ofInt 0)])), (q1, .inl (cA 0, 8, .inl (fun _ => Int32.ofInt 0))), (q2, .inl (cA 0, 8, .inl (fun _ => Int32.ofInt 0))), (q3, .inl (cA 0, 8, .inl (fun _ => Int32.ofInt 0)))] H := hP
  have hD : va_D A [(h0, .inr (7, [.ref q1, .ref q2, .ref q3, .int (Int32.ofInt 0)])), (q1, .inl (cA 0, 8, .inl (fun _ => Int32.ofInt 0))), (q2, .inl (cA 0, 8, .inl (fun _ => Int32.ofInt 0))), (q3, .inl (cA 0, 8, .inl (fun _ => Int32.ofInt 0)))] := hD
  have hP9 := hP.sub (ws' := [(h0, .inr (7, [.ref q1, .ref q2, .ref q3, .int (Int32.ofInt 0)])), (q1, .inl (cA 0, 8, .inl (fun _ => Int32.ofInt 0))), (q2, .inl (cA 0, 8, .inl (fun _ => Int32.ofInt 0))), (q3, .inl (cA 0, 8, .inl (fun _ => Int32.ofInt 0)))]) [0, 1, 2, 3] rfl
  have hD9 := hD.sub (ws' := [(h0, .inr (7, [.ref q1, .ref q2, .ref q3, .int (Int32.ofInt 0)])), (q1, .inl (cA 0, 8, .inl (fun _ => Int32.ofInt 0))), (q2, .inl (cA 0, 8, .inl (fun _ => Int32.ofInt 0))), (q3, .inl (cA 0, 8, .inl (fun _ => Int32.ofInt 0)))]) [0, 1, 2, 3] (by decide) rfl
  exact W.vret hx hb hr (fun t ht hW => ⟨⟨nth 0 [h0, q1, q2, q3], rfl, rfl, by rw [ht]; exact hP9, hD9⟩, hS.F ht⟩) hS.2.2 dI_Told_33
theorem dI_Steps_0 : decode cI_Steps 0 = .ok (.aload_n 0, 1) := by decide +kernel
theorem dI_Steps_1 : decode cI_Steps 1 = .ok (.invokespecial 7, 3) := by decide +kernel
theorem dI_Steps_4 : decode cI_Steps 4 = .ok (.aload_n 0, 1) := by decide +kernel
theorem dI_Steps_5 : decode cI_Steps 5 = .ok (.sipush 2130, 3) := by decide +kernel
theorem dI_Steps_8 : decode cI_Steps 8 = .ok (.newarray .int, 2) := by decide +kernel
theorem dI_Steps_10 : decode cI_Steps 10 = .ok (.putfield 13, 3) := by decide +kernel
theorem dI_Steps_13 : decode cI_Steps 13 = .ok (.aload_n 0, 1) := by decide +kernel
theorem dI_Steps_14 : decode cI_Steps 14 = .ok (.iconst 0, 1) := by decide +kernel
theorem dI_Steps_15 : decode cI_Steps 15 = .ok (.putfield 17, 3) := by decide +kernel
theorem dI_Steps_18 : decode cI_Steps 18 = .ok (.aload_n 0, 1) := by decide +kernel
theorem dI_Steps_19 : decode cI_Steps 19 = .ok (.iconst 0, 1) := by decide +kernel
theorem dI_Steps_20 : decode cI_Steps 20 = .ok (.putfield 21, 3) := by decide +kernel
theorem dI_Steps_23 : decode cI_Steps 23 = .ok (.return_, 1) := by decide +kernel
def W_Steps (cA : Nat → ClassId) (ad : Nat → Nat) : va_W := [((ad 0), .inr (5, [.ref (ad 1), .int (Int32.ofInt 0), .int (Int32.ofInt 0)])), ((ad 1), .inl (cA 0, 2130, .inl (fun _ => Int32.ofInt 0)))]
set_option maxHeartbeats 16000000 in
set_option maxRecDepth 100000 in
theorem k_Steps (l : Launch) (D : va_G) (cA : Nat → ClassId) (h0 sz : Nat) : Met l yI_Steps (wsJ yI_Steps cI_Steps 1 none) ({ frames := 1, cells := 1, slots := 2130, locals := 40 }) (PcI D cA [(h0, .inr (5, [.null, .int (Int32.ofInt 0), .int (Int32.ofInt 0)]))] [.ref h0] sz) (va_Qv (fun ad : Nat → Nat => ad 0 = h0) (fun ad t => va_P D fcs (W_Steps cA ad) t.heap ∧ va_D (va_A [(h0, .inr (5, [.null, .int (Int32.ofInt 0), .int (Int32.ofInt 0)]))] sz) (W_Steps cA ad)) (va_A [(h0, .inr (5, [.null, .int (Int32.ofInt 0), .int (Int32.ofInt 0)]))] sz)) 1 2130 (va_A [(h0, .inr (5, [.null, .int (Int32.ofInt 0), .int (Int32.ofInt 0)]))] sz) := by
  refine Met.ofW (cc := cI_Steps) (maxL := 1) (ret := none) (by decide) rfl ?_
  intro p e s m args below meth c s₁ B hml hv
  obtain ⟨rfl, hsz, hP, ⟨hK, hN⟩, hD0⟩ := hv
  have hx := B.exec
  have hb := B.bytes
  have hr := B.returns
  have hts : ∀ w ∈ BIG, w.before _ s = true := fun w hw => atoms_spec (ws := wsJ yI_Steps cI_Steps 1 none) B.pre w (List.mem_cons_of_mem _ hw)
  have hown : s.vm.findClass "ThimbleLaw$Steps" = some m.cls := findClass_of_methodNamed B.named
  have hlocks := B.notSynchronized
  have hin : meth.name = "<init>" := (name_of_methodNamed B.named B.method).1
  have hO := hN.1
  subst hsz
  have hD := hD0.self (sz := s.heap.size)
  generalize hAe : va_A [(h0, .inr (5, [.null, .int (Int32.ofInt 0), .int (Int32.ofInt 0)]))] s.heap.size = A at hD ⊢
  have hA : ∀ q : Nat, s.heap.size ≤ q → A q := fun q h => by rw [← hAe]; exact Or.inr h
  have hS : va_S A s.heap s.heap [] := va_S.rf
  have hP : va_P D fcs [(h0, .inr (5, [.null, .int (Int32.ofInt 0), .int (Int32.ofInt 0)]))] s.heap := hP
  have hl := lv_entry ([.ref h0]) (n := 1) (Nat.le_of_ble_eq_true rfl)
  rw [lg_entry_eq]
  generalize (lg_sl ([.ref h0]) ++ List.replicate (1 - (lg_sl ([.ref h0])).length) Slot.unset).toArray = ls at hl ⊢
  have hl : lv_has ls 1 [(0, .ref h0)] := hl
  refine lv_aload_n hx hb dI_Steps_0 rfl (lv_at hl 0 rfl) ?_
  refine W.objInit hx hb hown (hts _ sw_oi_Steps) (hts _ sw_oinst) (hts _ sw_ocode) rfl (by rw [hml]; exact hl.1) rfl dI_Steps_1 (Nat.le_of_ble_eq_true rfl) (Nat.le_of_ble_eq_true rfl) ?_
  refine W.eq (g2 := F0 m 4 ls []) rfl ?_
  refine lv_aload_n hx hb dI_Steps_4 rfl (lv_at hl 0 rfl) ?_
  refine lv_sipush (v := Int32.ofInt 2130) hx hb dI_Steps_5 (by decide) ?_
  refine va_newa (atype := .int) (ty := .int) (N' := 2130) (a0 := (2130, .inl (fun _ => Int32.ofInt 0))) hx hb (hts _ sw_arr_int) rfl hK hP hD hS hA (fun _ => rfl) (by decide) (by decide) (by decide) (Nat.le_of_ble_eq_true rfl) (Nat.le_of_ble_eq_true rfl) dI_Steps_8 (fun q1 cx H hKx hP hD hS => ?_)
  obtain rfl := arr_same (i := 0) hKx rfl
  have hP : va_P D fcs [(h0, .inr (5, [.null, .int (Int32.ofInt 0), .int (Int32.ofInt 0)])), (q1, .inl (cA 0, 2130, .inl (fun _ => Int32.ofInt 0)))] H := hP
  have hD : va_D A [(h0, .inr (5, [.null, .int (Int32.ofInt 0), .int (Int32.ofInt 0)])), (q1, .inl (cA 0, 2130, .inl (fun _ => Int32.ofInt 0)))] := hD
  refine va_putF (D := D) (ci := 5) (v := .ref q1) (ty := .array .int) (C := clN 5) (T := clT 5) (N := clM 5) (ref := clN 5) hx hb hts (uw_in (c := 5) (by decide)) (clY 5) (ckY 5 (by decide)) (ckX 5 (by decide)) hown hK hP hD hS 0 rfl rfl 0 (by decide) (hts _ (fl_in (w := 7) (i := 13) (c := 5) (k := 0) (by decide) rfl).1) (fun _ h9 => h9) rfl hin rfl (ckY 5 (by decide) 0 (by decide)) rfl rfl (Nat.le_of_ble_eq_true rfl) dI_Steps_10 (fun H locs hP hD hS => ?_)
  have hP : va_P D fcs [(h0, .inr (5, [.ref q1, .int (Int32.ofInt 0), .int (Int32.ofInt 0)])), (q1, .inl (cA 0, 2130, .inl (fun _ => Int32.ofInt 0)))] H := hP
  have hD : va_D A [(h0, .inr (5, [.ref q1, .int (Int32.ofInt 0), .int (Int32.ofInt 0)])), (q1, .inl (cA 0, 2130, .inl (fun _ => Int32.ofInt 0)))] := hD
  refine lv_aload_n hx hb dI_Steps_13 rfl (lv_at hl 0 rfl) ?_
  refine lv_iconst (v := Int32.ofInt 0) hx hb dI_Steps_14 rfl ?_
  refine va_put (D := D) (ci := 5) (v := .int (Int32.ofInt 0)) (ty := .int) (C := clN 5) (T := clT 5) (N := clM 5) (ref := clN 5) hx hb hts (uw_in (c := 5) (by decide)) (clY 5) (ckY 5 (by decide)) (ckX 5 (by decide)) hown hK hP hD hS 0 rfl rfl 1 (by decide) (hts _ (fl_in (w := 7) (i := 17) (c := 5) (k := 1) (by decide) rfl).1) (fun _ h9 => h9) rfl (ckY 5 (by decide) 1 (by decide)) rfl rfl (Nat.le_of_ble_eq_true rfl) dI_Steps_15 (fun H locs hP hD hS => ?_)
  have hP : va_P D fcs [(h0, .inr (5, [.ref q1, .int (Int32.ofInt 0), .int (Int32.ofInt 0)])), (q1, .inl (cA 0, 2130, .inl (fun _ => Int32.ofInt 0)))] H := hP
  have hD : va_D A [(h0, .inr (5, [.ref q1, .int (Int32.ofInt 0), .int (Int32.ofInt 0)])), (q1, .inl (cA 0, 2130, .inl (fun _ => Int32.ofInt 0)))] := hD
  refine lv_aload_n hx hb dI_Steps_18 rfl (lv_at hl 0 rfl) ?_
  refine lv_iconst (v := Int32.ofInt 0) hx hb dI_Steps_19 rfl ?_
  refine va_put (D := D) (ci := 5) (v := .int (Int32.ofInt 0)) (ty := .int) (C := clN 5) (T := clT 5) (N := clM 5) (ref := clN 5) hx hb hts (uw_in (c := 5) (by decide)) (clY 5) (ckY 5 (by decide)) (ckX 5 (by decide)) hown hK hP hD hS 0 rfl rfl 2 (by decide) (hts _ (fl_in (w := 7) (i := 21) (c := 5) (k := 2) (by decide) rfl).1) (fun _ h9 => h9) rfl (ckY 5 (by decide) 2 (by decide)) rfl rfl (Nat.le_of_ble_eq_true rfl) dI_Steps_20 (fun H locs hP hD hS => ?_)
  have hP : va_P D fcs [(h0, .inr (5, [.ref q1, .int (Int32.ofInt 0), .int (Int32.ofInt 0)])), (q1, .inl (cA 0, 2130, .inl (fun _ => Int32.ofInt 0)))] H := hP
  have hD : va_D A [(h0, .inr (5, [.ref q1, .int (Int32.ofInt 0), .int (Int32.ofInt 0)])), (q1, .inl (cA 0, 2130, .inl (fun _ => Int32.ofInt 0)))] := hD
  have hP9 := hP.sub (ws' := [(h0, .inr (5, [.ref q1, .int (Int32.ofInt 0), .int (Int32.ofInt 0)])), (q1, .inl (cA 0, 2130, .inl (fun _ => Int32.ofInt 0)))]) [0, 1] rfl
  have hD9 := hD.sub (ws' := [(h0, .inr (5, [.ref q1, .int (Int32.ofInt 0), .int (Int32.ofInt 0)])), (q1, .inl (cA 0, 2130, .inl (fun _ => Int32.ofInt 0)))]) [0, 1] (by decide) rfl
  exact W.vret hx hb hr (fun t ht hW => ⟨⟨nth 0 [h0, q1], rfl, rfl, by rw [ht]; exact hP9, hD9⟩, hS.F ht⟩) hS.2.2 dI_Steps_23
theorem dI_Judge_0 : decode cI_Judge 0 = .ok (.aload_n 0, 1) := by decide +kernel
theorem dI_Judge_1 : decode cI_Judge 1 = .ok (.invokespecial 3, 3) := by decide +kernel
theorem dI_Judge_4 : decode cI_Judge 4 = .ok (.aload_n 0, 1) := by decide +kernel
theorem dI_Judge_5 : decode cI_Judge 5 = .ok (.bipush 9, 2) := by decide +kernel
theorem dI_Judge_7 : decode cI_Judge 7 = .ok (.newarray .int, 2) := by decide +kernel
theorem dI_Judge_9 : decode cI_Judge 9 = .ok (.putfield 11, 3) := by decide +kernel
theorem dI_Judge_12 : decode cI_Judge 12 = .ok (.aload_n 0, 1) := by decide +kernel
theorem dI_Judge_13 : decode cI_Judge 13 = .ok (.bipush 64, 2) := by decide +kernel
theorem dI_Judge_15 : decode cI_Judge 15 = .ok (.newarray .int, 2) := by decide +kernel
theorem dI_Judge_17 : decode cI_Judge 17 = .ok (.putfield 15, 3) := by decide +kernel
theorem dI_Judge_20 : decode cI_Judge 20 = .ok (.return_, 1) := by decide +kernel
def W_Judge (cA : Nat → ClassId) (ad : Nat → Nat) : va_W := [((ad 0), .inr (2, [.ref (ad 1), .ref (ad 2)])), ((ad 1), .inl (cA 0, 9, .inl (fun _ => Int32.ofInt 0))), ((ad 2), .inl (cA 0, 64, .inl (fun _ => Int32.ofInt 0)))]
set_option maxHeartbeats 16000000 in
set_option maxRecDepth 100000 in
theorem k_Judge (l : Launch) (D : va_G) (cA : Nat → ClassId) (h0 sz : Nat) : Met l yI_Judge (wsJ yI_Judge cI_Judge 1 none) ({ frames := 1, cells := 2, slots := 73, locals := 40 }) (PcI D cA [(h0, .inr (2, [.null, .null]))] [.ref h0] sz) (va_Qv (fun ad : Nat → Nat => ad 0 = h0) (fun ad t => va_P D fcs (W_Judge cA ad) t.heap ∧ va_D (va_A [(h0, .inr (2, [.null, .null]))] sz) (W_Judge cA ad)) (va_A [(h0, .inr (2, [.null, .null]))] sz)) 2 73 (va_A [(h0, .inr (2, [.null, .null]))] sz) := by
  refine Met.ofW (cc := cI_Judge) (maxL := 1) (ret := none) (by decide) rfl ?_
  intro p e s m args below meth c s₁ B hml hv
  obtain ⟨rfl, hsz, hP, ⟨hK, hN⟩, hD0⟩ := hv
  have hx := B.exec
  have hb := B.bytes
  have hr := B.returns
  have hts : ∀ w ∈ BIG, w.before _ s = true := fun w hw => atoms_spec (ws := wsJ yI_Judge cI_Judge 1 none) B.pre w (List.mem_cons_of_mem _ hw)
  have hown : s.vm.findClass "ThimbleLaw$Judge" = some m.cls := findClass_of_methodNamed B.named
  have hlocks := B.notSynchronized
  have hin : meth.name = "<init>" := (name_of_methodNamed B.named B.method).1
  have hO := hN.1
  subst hsz
  have hD := hD0.self (sz := s.heap.size)
  generalize hAe : va_A [(h0, .inr (2, [.null, .null]))] s.heap.size = A at hD ⊢
  have hA : ∀ q : Nat, s.heap.size ≤ q → A q := fun q h => by rw [← hAe]; exact Or.inr h
  have hS : va_S A s.heap s.heap [] := va_S.rf
  have hP : va_P D fcs [(h0, .inr (2, [.null, .null]))] s.heap := hP
  have hl := lv_entry ([.ref h0]) (n := 1) (Nat.le_of_ble_eq_true rfl)
  rw [lg_entry_eq]
  generalize (lg_sl ([.ref h0]) ++ List.replicate (1 - (lg_sl ([.ref h0])).length) Slot.unset).toArray = ls at hl ⊢
  have hl : lv_has ls 1 [(0, .ref h0)] := hl
  refine lv_aload_n hx hb dI_Judge_0 rfl (lv_at hl 0 rfl) ?_
  refine W.objInit hx hb hown (hts _ sw_oi_Judge) (hts _ sw_oinst) (hts _ sw_ocode) rfl (by rw [hml]; exact hl.1) rfl dI_Judge_1 (Nat.le_of_ble_eq_true rfl) (Nat.le_of_ble_eq_true rfl) ?_
  refine W.eq (g2 := F0 m 4 ls []) rfl ?_
  refine lv_aload_n hx hb dI_Judge_4 rfl (lv_at hl 0 rfl) ?_
  refine lv_bipush (v := Int32.ofInt 9) hx hb dI_Judge_5 (by decide) ?_
  refine va_newa (atype := .int) (ty := .int) (N' := 9) (a0 := (9, .inl (fun _ => Int32.ofInt 0))) hx hb (hts _ sw_arr_int) rfl hK hP hD hS hA (fun _ => rfl) (by decide) (by decide) (by decide) (Nat.le_of_ble_eq_true rfl) (Nat.le_of_ble_eq_true rfl) dI_Judge_7 (fun q1 cx H hKx hP hD hS => ?_)
  obtain rfl := arr_same (i := 0) hKx rfl
  have hP : va_P D fcs [(h0, .inr (2, [.null, .null])), (q1, .inl (cA 0, 9, .inl (fun _ => Int32.ofInt 0)))] H := hP
  have hD : va_D A [(h0, .inr (2, [.null, .null])), (q1, .inl (cA 0, 9, .inl (fun _ => Int32.ofInt 0)))] := hD
  refine va_putF (D := D) (ci := 2) (v := .ref q1) (ty := .array .int) (C := clN 2) (T := clT 2) (N := clM 2) (ref := clN 2) hx hb hts (uw_in (c := 2) (by decide)) (clY 2) (ckY 2 (by decide)) (ckX 2 (by decide)) hown hK hP hD hS 0 rfl rfl 0 (by decide) (hts _ (fl_in (w := 4) (i := 11) (c := 2) (k := 0) (by decide) rfl).1) (fun _ h9 => h9) rfl hin rfl (ckY 2 (by decide) 0 (by decide)) rfl rfl (Nat.le_of_ble_eq_true rfl) dI_Judge_9 (fun H locs hP hD hS => ?_)
  have hP : va_P D fcs [(h0, .inr (2, [.ref q1, .null])), (q1, .inl (cA 0, 9, .inl (fun _ => Int32.ofInt 0)))] H := hP
  have hD : va_D A [(h0, .inr (2, [.ref q1, .null])), (q1, .inl (cA 0, 9, .inl (fun _ => Int32.ofInt 0)))] := hD
  refine lv_aload_n hx hb dI_Judge_12 rfl (lv_at hl 0 rfl) ?_
  refine lv_bipush (v := Int32.ofInt 64) hx hb dI_Judge_13 (by decide) ?_
  refine va_newa (atype := .int) (ty := .int) (N' := 64) (a0 := (64, .inl (fun _ => Int32.ofInt 0))) hx hb (hts _ sw_arr_int) rfl hK hP hD hS hA (fun _ => rfl) (by decide) (by decide) (by decide) (Nat.le_of_ble_eq_true rfl) (Nat.le_of_ble_eq_true rfl) dI_Judge_15 (fun q2 cx H hKx hP hD hS => ?_)
  obtain rfl := arr_same (i := 0) hKx rfl
  have hP : va_P D fcs [(h0, .inr (2, [.ref q1, .null])), (q1, .inl (cA 0, 9, .inl (fun _ => Int32.ofInt 0))), (q2, .inl (cA 0, 64, .inl (fun _ => Int32.ofInt 0)))] H := hP
  have hD : va_D A [(h0, .inr (2, [.ref q1, .null])), (q1, .inl (cA 0, 9, .inl (fun _ => Int32.ofInt 0))), (q2, .inl (cA 0, 64, .inl (fun _ => Int32.ofInt 0)))] := hD
  refine va_putF (D := D) (ci := 2) (v := .ref q2) (ty := .array .int) (C := clN 2) (T := clT 2) (N := clM 2) (ref := clN 2) hx hb hts (uw_in (c := 2) (by decide)) (clY 2) (ckY 2 (by decide)) (ckX 2 (by decide)) hown hK hP hD hS 0 rfl rfl 1 (by decide) (hts _ (fl_in (w := 4) (i := 15) (c := 2) (k := 1) (by decide) rfl).1) (fun _ h9 => h9) rfl hin rfl (ckY 2 (by decide) 1 (by decide)) rfl rfl (Nat.le_of_ble_eq_true rfl) dI_Judge_17 (fun H locs hP hD hS => ?_)
  have hP : va_P D fcs [(h0, .inr (2, [.ref q1, .ref q2])), (q1, .inl (cA 0, 9, .inl (fun _ => Int32.ofInt 0))), (q2, .inl (cA 0, 64, .inl (fun _ => Int32.ofInt 0)))] H := hP
  have hD : va_D A [(h0, .inr (2, [.ref q1, .ref q2])), (q1, .inl (cA 0, 9, .inl (fun _ => Int32.ofInt 0))), (q2, .inl (cA 0, 64, .inl (fun _ => Int32.ofInt 0)))] := hD
  have hP9 := hP.sub (ws' := [(h0, .inr (2, [.ref q1, .ref q2])), (q1, .inl (cA 0, 9, .inl (fun _ => Int32.ofInt 0))), (q2, .inl (cA 0, 64, .inl (fun _ => Int32.ofInt 0)))]) [0, 1, 2] rfl
  have hD9 := hD.sub (ws' := [(h0, .inr (2, [.ref q1, .ref q2])), (q1, .inl (cA 0, 9, .inl (fun _ => Int32.ofInt 0))), (q2, .inl (cA 0, 64, .inl (fun _ => Int32.ofInt 0)))]) [0, 1, 2] (by decide) rfl
  exact W.vret hx hb hr (fun t ht hW => ⟨⟨nth 0 [h0, q1, q2], rfl, rfl, by rw [ht]; exact hP9, hD9⟩, hS.F ht⟩) hS.2.2 dI_Judge_20
theorem dI_Text_0 : decode cI_Text 0 = .ok (.aload_n 0, 1) := by decide +kernel
theorem dI_Text_1 : decode cI_Text 1 = .ok (.invokespecial 3, 3) := by decide +kernel
theorem dI_Text_4 : decode cI_Text 4 = .ok (.aload_n 0, 1) := by decide +kernel
theorem dI_Text_5 : decode cI_Text 5 = .ok (.bipush 96, 2) := by decide +kernel
theorem dI_Text_7 : decode cI_Text 7 = .ok (.newarray .int, 2) := by decide +kernel
theorem dI_Text_9 : decode cI_Text 9 = .ok (.putfield 11, 3) := by decide +kernel
theorem dI_Text_12 : decode cI_Text 12 = .ok (.aload_n 0, 1) := by decide +kernel
theorem dI_Text_13 : decode cI_Text 13 = .ok (.sipush 300, 3) := by decide +kernel
theorem dI_Text_16 : decode cI_Text 16 = .ok (.newarray .int, 2) := by decide +kernel
theorem dI_Text_18 : decode cI_Text 18 = .ok (.putfield 15, 3) := by decide +kernel
theorem dI_Text_21 : decode cI_Text 21 = .ok (.aload_n 0, 1) := by decide +kernel
theorem dI_Text_22 : decode cI_Text 22 = .ok (.sipush 300, 3) := by decide +kernel
theorem dI_Text_25 : decode cI_Text 25 = .ok (.newarray .int, 2) := by decide +kernel
theorem dI_Text_27 : decode cI_Text 27 = .ok (.putfield 18, 3) := by decide +kernel
theorem dI_Text_30 : decode cI_Text 30 = .ok (.aload_n 0, 1) := by decide +kernel
theorem dI_Text_31 : decode cI_Text 31 = .ok (.iconst 3, 1) := by decide +kernel
theorem dI_Text_32 : decode cI_Text 32 = .ok (.newarray .int, 2) := by decide +kernel
theorem dI_Text_34 : decode cI_Text 34 = .ok (.dup, 1) := by decide +kernel
theorem dI_Text_35 : decode cI_Text 35 = .ok (.iconst 0, 1) := by decide +kernel
theorem dI_Text_36 : decode cI_Text 36 = .ok (.iconst (-1), 1) := by decide +kernel
theorem dI_Text_37 : decode cI_Text 37 = .ok (.iastore, 1) := by decide +kernel
theorem dI_Text_38 : decode cI_Text 38 = .ok (.dup, 1) := by decide +kernel
theorem dI_Text_39 : decode cI_Text 39 = .ok (.iconst 1, 1) := by decide +kernel
theorem dI_Text_40 : decode cI_Text 40 = .ok (.iconst (-1), 1) := by decide +kernel
theorem dI_Text_41 : decode cI_Text 41 = .ok (.iastore, 1) := by decide +kernel
theorem dI_Text_42 : decode cI_Text 42 = .ok (.dup, 1) := by decide +kernel
theorem dI_Text_43 : decode cI_Text 43 = .ok (.iconst 2, 1) := by decide +kernel
theorem dI_Text_44 : decode cI_Text 44 = .ok (.iconst (-1), 1) := by decide +kernel
theorem dI_Text_45 : decode cI_Text 45 = .ok (.iastore, 1) := by decide +kernel
theorem dI_Text_46 : decode cI_Text 46 = .ok (.putfield 21, 3) := by decide +kernel
theorem dI_Text_49 : decode cI_Text 49 = .ok (.aload_n 0, 1) := by decide +kernel
theorem dI_Text_50 : decode cI_Text 50 = .ok (.iconst 3, 1) := by decide +kernel
theorem dI_Text_51 : decode cI_Text 51 = .ok (.newarray .int, 2) := by decide +kernel
theorem dI_Text_53 : decode cI_Text 53 = .ok (.dup, 1) := by decide +kernel
theorem dI_Text_54 : decode cI_Text 54 = .ok (.iconst 0, 1) := by decide +kernel
theorem dI_Text_55 : decode cI_Text 55 = .ok (.iconst (-1), 1) := by decide +kernel
theorem dI_Text_56 : decode cI_Text 56 = .ok (.iastore, 1) := by decide +kernel
theorem dI_Text_57 : decode cI_Text 57 = .ok (.dup, 1) := by decide +kernel
theorem dI_Text_58 : decode cI_Text 58 = .ok (.iconst 1, 1) := by decide +kernel
theorem dI_Text_59 : decode cI_Text 59 = .ok (.iconst (-1), 1) := by decide +kernel
theorem dI_Text_60 : decode cI_Text 60 = .ok (.iastore, 1) := by decide +kernel
theorem dI_Text_61 : decode cI_Text 61 = .ok (.dup, 1) := by decide +kernel
theorem dI_Text_62 : decode cI_Text 62 = .ok (.iconst 2, 1) := by decide +kernel
theorem dI_Text_63 : decode cI_Text 63 = .ok (.iconst (-1), 1) := by decide +kernel
theorem dI_Text_64 : decode cI_Text 64 = .ok (.iastore, 1) := by decide +kernel
theorem dI_Text_65 : decode cI_Text 65 = .ok (.putfield 24, 3) := by decide +kernel
theorem dI_Text_68 : decode cI_Text 68 = .ok (.aload_n 0, 1) := by decide +kernel
theorem dI_Text_69 : decode cI_Text 69 = .ok (.iconst 0, 1) := by decide +kernel
theorem dI_Text_70 : decode cI_Text 70 = .ok (.putfield 27, 3) := by decide +kernel
theorem dI_Text_73 : decode cI_Text 73 = .ok (.aload_n 0, 1) := by decide +kernel
theorem dI_Text_74 : decode cI_Text 74 = .ok (.iconst 0, 1) := by decide +kernel
theorem dI_Text_75 : decode cI_Text 75 = .ok (.putfield 31, 3) := by decide +kernel
theorem dI_Text_78 : decode cI_Text 78 = .ok (.return_, 1) := by decide +kernel
def W_Text (cA : Nat → ClassId) (ad : Nat → Nat) : va_W := [((ad 0), .inr (6, [.ref (ad 1), .ref (ad 2), .ref (ad 3), .ref (ad 4), .ref (ad 5), .int (Int32.ofInt 0), .int (Int32.ofInt 0)])), ((ad 1), .inl (cA 0, 96, .inl (fun _ => Int32.ofInt 0))), ((ad 2), .inl (cA 0, 300, .inl (fun _ => Int32.ofInt 0))), ((ad 3), .inl (cA 0, 300, .inl (fun _ => Int32.ofInt 0))), ((ad 4), .inl (cA 0, 3, .inl (upd (upd (upd (fun _ => Int32.ofInt 0) 0 (Int32.ofInt (-1))) 1 (Int32.ofInt (-1))) 2 (Int32.ofInt (-1))))), ((ad 5), .inl (cA 0, 3, .inl (upd (upd (upd (fun _ => Int32.ofInt 0) 0 (Int32.ofInt (-1))) 1 (Int32.ofInt (-1))) 2 (Int32.ofInt (-1)))))]
set_option maxHeartbeats 16000000 in
set_option maxRecDepth 100000 in
theorem k_Text (l : Launch) (D : va_G) (cA : Nat → ClassId) (h0 sz : Nat) : Met l yI_Text (wsJ yI_Text cI_Text 1 none) ({ frames := 1, cells := 5, slots := 702, locals := 40 }) (PcI D cA [(h0, .inr (6, [.null, .null, .null, .null, .null, .int (Int32.ofInt 0), .int (Int32.ofInt 0)]))] [.ref h0] sz) (va_Qv (fun ad : Nat → Nat => ad 0 = h0) (fun ad t => va_P D fcs (W_Text cA ad) t.heap ∧ va_D (va_A [(h0, .inr (6, [.null, .null, .null, .null, .null, .int (Int32.ofInt 0), .int (Int32.ofInt 0)]))] sz) (W_Text cA ad)) (va_A [(h0, .inr (6, [.null, .null, .null, .null, .null, .int (Int32.ofInt 0), .int (Int32.ofInt 0)]))] sz)) 5 702 (va_A [(h0, .inr (6, [.null, .null, .null, .null, .null, .int (Int32.ofInt 0), .int (Int32.ofInt 0)]))] sz) := by
  refine Met.ofW (cc := cI_Text) (maxL := 1) (ret := none) (by decide) rfl ?_
  intro p e s m args below meth c s₁ B hml hv
  obtain ⟨rfl, hsz, hP, ⟨hK, hN⟩, hD0⟩ := hv
  have hx := B.exec
  have hb := B.bytes
  have hr := B.returns
  have hts : ∀ w ∈ BIG, w.before _ s = true := fun w hw => atoms_spec (ws := wsJ yI_Text cI_Text 1 none) B.pre w (List.mem_cons_of_mem _ hw)
  have hown : s.vm.findClass "ThimbleLaw$Text" = some m.cls := findClass_of_methodNamed B.named
  have hlocks := B.notSynchronized
  have hin : meth.name = "<init>" := (name_of_methodNamed B.named B.method).1
  have hO := hN.1
  subst hsz
  have hD := hD0.self (sz := s.heap.size)
  generalize hAe : va_A [(h0, .inr (6, [.null, .null, .null, .null, .null, .int (Int32.ofInt 0), .int (Int32.ofInt 0)]))] s.heap.size = A at hD ⊢
  have hA : ∀ q : Nat, s.heap.size ≤ q → A q := fun q h => by rw [← hAe]; exact Or.inr h
  have hS : va_S A s.heap s.heap [] := va_S.rf
  have hP : va_P D fcs [(h0, .inr (6, [.null, .null, .null, .null, .null, .int (Int32.ofInt 0), .int (Int32.ofInt 0)]))] s.heap := hP
  have hl := lv_entry ([.ref h0]) (n := 1) (Nat.le_of_ble_eq_true rfl)
  rw [lg_entry_eq]
  generalize (lg_sl ([.ref h0]) ++ List.replicate (1 - (lg_sl ([.ref h0])).length) Slot.unset).toArray = ls at hl ⊢
  have hl : lv_has ls 1 [(0, .ref h0)] := hl
  refine lv_aload_n hx hb dI_Text_0 rfl (lv_at hl 0 rfl) ?_
  refine W.objInit hx hb hown (hts _ sw_oi_Text) (hts _ sw_oinst) (hts _ sw_ocode) rfl (by rw [hml]; exact hl.1) rfl dI_Text_1 (Nat.le_of_ble_eq_true rfl) (Nat.le_of_ble_eq_true rfl) ?_
  refine W.eq (g2 := F0 m 4 ls []) rfl ?_
  refine lv_aload_n hx hb dI_Text_4 rfl (lv_at hl 0 rfl) ?_
  refine lv_bipush (v := Int32.ofInt 96) hx hb dI_Text_5 (by decide) ?_
  refine va_newa (atype := .int) (ty := .int) (N' := 96) (a0 := (96, .inl (fun _ => Int32.ofInt 0))) hx hb (hts _ sw_arr_int) rfl hK hP hD hS hA (fun _ => rfl) (by decide) (by decide) (by decide) (Nat.le_of_ble_eq_true rfl) (Nat.le_of_ble_eq_true rfl) dI_Text_7 (fun q1 cx H hKx hP hD hS => ?_)
  obtain rfl := arr_same (i := 0) hKx rfl
  have hP : va_P D fcs [(h0, .inr (6, [.null, .null, .null, .null, .null, .int (Int32.ofInt 0), .int (Int32.ofInt 0)])), (q1, .inl (cA 0, 96, .inl (fun _ => Int32.ofInt 0)))] H := hP
  have hD : va_D A [(h0, .inr (6, [.null, .null, .null, .null, .null, .int (Int32.ofInt 0), .int (Int32.ofInt 0)])), (q1, .inl (cA 0, 96, .inl (fun _ => Int32.ofInt 0)))] := hD
  refine va_putF (D := D) (ci := 6) (v := .ref q1) (ty := .array .int) (C := clN 6) (T := clT 6) (N := clM 6) (ref := clN 6) hx hb hts (uw_in (c := 6) (by decide)) (clY 6) (ckY 6 (by decide)) (ckX 6 (by decide)) hown hK hP hD hS 0 rfl rfl 0 (by decide) (hts _ (fl_in (w := 8) (i := 11) (c := 6) (k := 0) (by decide) rfl).1) (fun _ h9 => h9) rfl hin rfl (ckY 6 (by decide) 0 (by decide)) rfl rfl (Nat.le_of_ble_eq_true rfl) dI_Text_9 (fun H locs hP hD hS => ?_)
  have hP : va_P D fcs [(h0, .inr (6, [.ref q1, .null, .null, .null, .null, .int (Int32.ofInt 0), .int (Int32.ofInt 0)])), (q1, .inl (cA 0, 96, .inl (fun _ => Int32.ofInt 0)))] H := hP
  have hD : va_D A [(h0, .inr (6, [.ref q1, .null, .null, .null, .null, .int (Int32.ofInt 0), .int (Int32.ofInt 0)])), (q1, .inl (cA 0, 96, .inl (fun _ => Int32.ofInt 0)))] := hD
  refine lv_aload_n hx hb dI_Text_12 rfl (lv_at hl 0 rfl) ?_
  refine lv_sipush (v := Int32.ofInt 300) hx hb dI_Text_13 (by decide) ?_
  refine va_newa (atype := .int) (ty := .int) (N' := 300) (a0 := (300, .inl (fun _ => Int32.ofInt 0))) hx hb (hts _ sw_arr_int) rfl hK hP hD hS hA (fun _ => rfl) (by decide) (by decide) (by decide) (Nat.le_of_ble_eq_true rfl) (Nat.le_of_ble_eq_true rfl) dI_Text_16 (fun q2 cx H hKx hP hD hS => ?_)
  obtain rfl := arr_same (i := 0) hKx rfl
  have hP : va_P D fcs [(h0, .inr (6, [.ref q1, .null, .null, .null, .null, .int (Int32.ofInt 0), .int (Int32.ofInt 0)])), (q1, .inl (cA 0, 96, .inl (fun _ => Int32.ofInt 0))), (q2, .inl (cA 0, 300, .inl (fun _ => Int32.ofInt 0)))] H := hP
  have hD : va_D A [(h0, .inr (6, [.ref q1, .null, .null, .null, .null, .int (Int32.ofInt 0), .int (Int32.ofInt 0)])), (q1, .inl (cA 0, 96, .inl (fun _ => Int32.ofInt 0))), (q2, .inl (cA 0, 300, .inl (fun _ => Int32.ofInt 0)))] := hD
  refine va_putF (D := D) (ci := 6) (v := .ref q2) (ty := .array .int) (C := clN 6) (T := clT 6) (N := clM 6) (ref := clN 6) hx hb hts (uw_in (c := 6) (by decide)) (clY 6) (ckY 6 (by decide)) (ckX 6 (by decide)) hown hK hP hD hS 0 rfl rfl 1 (by decide) (hts _ (fl_in (w := 8) (i := 15) (c := 6) (k := 1) (by decide) rfl).1) (fun _ h9 => h9) rfl hin rfl (ckY 6 (by decide) 1 (by decide)) rfl rfl (Nat.le_of_ble_eq_true rfl) dI_Text_18 (fun H locs hP hD hS => ?_)
  have hP : va_P D fcs [(h0, .inr (6, [.ref q1, .ref q2, .null, .null, .null, .int (Int32.ofInt 0), .int (Int32.ofInt 0)])), (q1, .inl (cA 0, 96, .inl (fun _ => Int32.ofInt 0))), (q2, .inl (cA 0, 300, .inl (fun _ => Int32.ofInt 0)))] H := hP
  have hD : va_D A [(h0, .inr (6, [.ref q1, .ref q2, .null, .null, .null, .int (Int32.ofInt 0), .int (Int32.ofInt 0)])), (q1, .inl (cA 0, 96, .inl (fun _ => Int32.ofInt 0))), (q2, .inl (cA 0, 300, .inl (fun _ => Int32.ofInt 0)))] := hD
  refine lv_aload_n hx hb dI_Text_21 rfl (lv_at hl 0 rfl) ?_
  refine lv_sipush (v := Int32.ofInt 300) hx hb dI_Text_22 (by decide) ?_
  refine va_newa (atype := .int) (ty := .int) (N' := 300) (a0 := (300, .inl (fun _ => Int32.ofInt 0))) hx hb (hts _ sw_arr_int) rfl hK hP hD hS hA (fun _ => rfl) (by decide) (by decide) (by decide) (Nat.le_of_ble_eq_true rfl) (Nat.le_of_ble_eq_true rfl) dI_Text_25 (fun q3 cx H hKx hP hD hS => ?_)
  obtain rfl := arr_same (i := 0) hKx rfl
  have hP : va_P D fcs [(h0, .inr (6, [.ref q1, .ref q2, .null, .null, .null, .int (Int32.ofInt 0), .int (Int32.ofInt 0)])), (q1, .inl (cA 0, 96, .inl (fun _ => Int32.ofInt 0))), (q2, .inl (cA 0, 300, .inl (fun _ => Int32.ofInt 0))), (q3, .inl (cA 0, 300, .inl (fun _ => Int32.ofInt 0)))] H := hP
  have hD : va_D A [(h0, .inr (6, [.ref q1, .ref q2, .null, .null, .null, .int (Int32.ofInt 0), .int (Int32.ofInt 0)])), (q1, .inl (cA 0, 96, .inl (fun _ => Int32.ofInt 0))), (q2, .inl (cA 0, 300, .inl (fun _ => Int32.ofInt 0))), (q3, .inl (cA 0, 300, .inl (fun _ => Int32.ofInt 0)))] := hD
  refine va_putF (D := D) (ci := 6) (v := .ref q3) (ty := .array .int) (C := clN 6) (T := clT 6) (N := clM 6) (ref := clN 6) hx hb hts (uw_in (c := 6) (by decide)) (clY 6) (ckY 6 (by decide)) (ckX 6 (by decide)) hown hK hP hD hS 0 rfl rfl 2 (by decide) (hts _ (fl_in (w := 8) (i := 18) (c := 6) (k := 2) (by decide) rfl).1) (fun _ h9 => h9) rfl hin rfl (ckY 6 (by decide) 2 (by decide)) rfl rfl (Nat.le_of_ble_eq_true rfl) dI_Text_27 (fun H locs hP hD hS => ?_)
  have hP : va_P D fcs [(h0, .inr (6, [.ref q1, .ref q2, .ref q3, .null, .null, .int (Int32.ofInt 0), .int (Int32.ofInt 0)])), (q1, .inl (cA 0, 96, .inl (fun _ => Int32.ofInt 0))), (q2, .inl (cA 0, 300, .inl (fun _ => Int32.ofInt 0))), (q3, .inl (cA 0, 300, .inl (fun _ => Int32.ofInt 0)))] H := hP
  have hD : va_D A [(h0, .inr (6, [.ref q1, .ref q2, .ref q3, .null, .null, .int (Int32.ofInt 0), .int (Int32.ofInt 0)])), (q1, .inl (cA 0, 96, .inl (fun _ => Int32.ofInt 0))), (q2, .inl (cA 0, 300, .inl (fun _ => Int32.ofInt 0))), (q3, .inl (cA 0, 300, .inl (fun _ => Int32.ofInt 0)))] := hD
  refine lv_aload_n hx hb dI_Text_30 rfl (lv_at hl 0 rfl) ?_
  refine lv_iconst (v := Int32.ofInt 3) hx hb dI_Text_31 rfl ?_
  refine va_newa (atype := .int) (ty := .int) (N' := 3) (a0 := (3, .inl (fun _ => Int32.ofInt 0))) hx hb (hts _ sw_arr_int) rfl hK hP hD hS hA (fun _ => rfl) (by decide) (by decide) (by decide) (Nat.le_of_ble_eq_true rfl) (Nat.le_of_ble_eq_true rfl) dI_Text_32 (fun q4 cx H hKx hP hD hS => ?_)
  obtain rfl := arr_same (i := 0) hKx rfl
  have hP : va_P D fcs [(h0, .inr (6, [.ref q1, .ref q2, .ref q3, .null, .null, .int (Int32.ofInt 0), .int (Int32.ofInt 0)])), (q1, .inl (cA 0, 96, .inl (fun _ => Int32.ofInt 0))), (q2, .inl (cA 0, 300, .inl (fun _ => Int32.ofInt 0))), (q3, .inl (cA 0, 300, .inl (fun _ => Int32.ofInt 0))), (q4, .inl (cA 0, 3, .inl (fun _ => Int32.ofInt 0)))] H := hP
  have hD : va_D A [(h0, .inr (6, [.ref q1, .ref q2, .ref q3, .null, .null, .int (Int32.ofInt 0), .int (Int32.ofInt 0)])), (q1, .inl (cA 0, 96, .inl (fun _ => Int32.ofInt 0))), (q2, .inl (cA 0, 300, .inl (fun _ => Int32.ofInt 0))), (q3, .inl (cA 0, 300, .inl (fun _ => Int32.ofInt 0))), (q4, .inl (cA 0, 3, .inl (fun _ => Int32.ofInt 0)))] := hD
  refine lv_dup hx hb dI_Text_34 rfl ?_
  refine lv_iconst (v := Int32.ofInt 0) hx hb dI_Text_35 rfl ?_
  refine lv_iconst (v := Int32.ofInt (-1)) hx hb dI_Text_36 rfl ?_
  refine va_iast hx hb hK hP hD hS 4 0 (cA := cA 0) (n := 3) (f := (fun _ => Int32.ofInt 0)) rfl rfl (i32in (n := 3) (by decide) (by decide) (by decide)) dI_Text_37 (fun H locs hP hD hS => ?_)
  have hP : va_P D fcs [(h0, .inr (6, [.ref q1, .ref q2, .ref q3, .null, .null, .int (Int32.ofInt 0), .int (Int32.ofInt 0)])), (q1, .inl (cA 0, 96, .inl (fun _ => Int32.ofInt 0))), (q2, .inl (cA 0, 300, .inl (fun _ => Int32.ofInt 0))), (q3, .inl (cA 0, 300, .inl (fun _ => Int32.ofInt 0))), (q4, .inl (cA 0, 3, .inl (upd (fun _ => Int32.ofInt 0) 0 (Int32.ofInt (-1)))))] H := hP
  have hD : va_D A [(h0, .inr (6, [.ref q1, .ref q2, .ref q3, .null, .null, .int (Int32.ofInt 0), .int (Int32.ofInt 0)])), (q1, .inl (cA 0, 96, .inl (fun _ => Int32.ofInt 0))), (q2, .inl (cA 0, 300, .inl (fun _ => Int32.ofInt 0))), (q3, .inl (cA 0, 300, .inl (fun _ => Int32.ofInt 0))), (q4, .inl (cA 0, 3, .inl (upd (fun _ => Int32.ofInt 0) 0 (Int32.ofInt (-1)))))] := hD
  refine lv_dup hx hb dI_Text_38 rfl ?_
  refine lv_iconst (v := Int32.ofInt 1) hx hb dI_Text_39 rfl ?_
  refine lv_iconst (v := Int32.ofInt (-1)) hx hb dI_Text_40 rfl ?_
  refine va_iast hx hb hK hP hD hS 4 0 (cA := cA 0) (n := 3) (f := (upd (fun _ => Int32.ofInt 0) 0 (Int32.ofInt (-1)))) rfl rfl (i32in (n := 3) (by decide) (by decide) (by decide)) dI_Text_41 (fun H locs hP hD hS => ?_)
  have hP : va_P D fcs [(h0, .inr (6, [.ref q1, .ref q2, .ref q3, .null, .null, .int (Int32.ofInt 0), .int (Int32.ofInt 0)])), (q1, .inl (cA 0, 96, .inl (fun _ => Int32.ofInt 0))), (q2, .inl (cA 0, 300, .inl (fun _ => Int32.ofInt 0))), (q3, .inl (cA 0, 300, .inl (fun _ => Int32.ofInt 0))), (q4, .inl (cA 0, 3, .inl (upd (upd (fun _ => Int32.ofInt 0) 0 (Int32.ofInt (-1))) 1 (Int32.ofInt (-1)))))] H := hP
  have hD : va_D A [(h0, .inr (6, [.ref q1, .ref q2, .ref q3, .null, .null, .int (Int32.ofInt 0), .int (Int32.ofInt 0)])), (q1, .inl (cA 0, 96, .inl (fun _ => Int32.ofInt 0))), (q2, .inl (cA 0, 300, .inl (fun _ => Int32.ofInt 0))), (q3, .inl (cA 0, 300, .inl (fun _ => Int32.ofInt 0))), (q4, .inl (cA 0, 3, .inl (upd (upd (fun _ => Int32.ofInt 0) 0 (Int32.ofInt (-1))) 1 (Int32.ofInt (-1)))))] := hD
  refine lv_dup hx hb dI_Text_42 rfl ?_
  refine lv_iconst (v := Int32.ofInt 2) hx hb dI_Text_43 rfl ?_
  refine lv_iconst (v := Int32.ofInt (-1)) hx hb dI_Text_44 rfl ?_
  refine va_iast hx hb hK hP hD hS 4 0 (cA := cA 0) (n := 3) (f := (upd (upd (fun _ => Int32.ofInt 0) 0 (Int32.ofInt (-1))) 1 (Int32.ofInt (-1)))) rfl rfl (i32in (n := 3) (by decide) (by decide) (by decide)) dI_Text_45 (fun H locs hP hD hS => ?_)
  have hP : va_P D fcs [(h0, .inr (6, [.ref q1, .ref q2, .ref q3, .null, .null, .int (Int32.ofInt 0), .int (Int32.ofInt 0)])), (q1, .inl (cA 0, 96, .inl (fun _ => Int32.ofInt 0))), (q2, .inl (cA 0, 300, .inl (fun _ => Int32.ofInt 0))), (q3, .inl (cA 0, 300, .inl (fun _ => Int32.ofInt 0))), (q4, .inl (cA 0, 3, .inl (upd (upd (upd (fun _ => Int32.ofInt 0) 0 (Int32.ofInt (-1))) 1 (Int32.ofInt (-1))) 2 (Int32.ofInt (-1)))))] H := hP
  have hD : va_D A [(h0, .inr (6, [.ref q1, .ref q2, .ref q3, .null, .null, .int (Int32.ofInt 0), .int (Int32.ofInt 0)])), (q1, .inl (cA 0, 96, .inl (fun _ => Int32.ofInt 0))), (q2, .inl (cA 0, 300, .inl (fun _ => Int32.ofInt 0))), (q3, .inl (cA 0, 300, .inl (fun _ => Int32.ofInt 0))), (q4, .inl (cA 0, 3, .inl (upd (upd (upd (fun _ => Int32.ofInt 0) 0 (Int32.ofInt (-1))) 1 (Int32.ofInt (-1))) 2 (Int32.ofInt (-1)))))] := hD
  refine va_putF (D := D) (ci := 6) (v := .ref q4) (ty := .array .int) (C := clN 6) (T := clT 6) (N := clM 6) (ref := clN 6) hx hb hts (uw_in (c := 6) (by decide)) (clY 6) (ckY 6 (by decide)) (ckX 6 (by decide)) hown hK hP hD hS 0 rfl rfl 3 (by decide) (hts _ (fl_in (w := 8) (i := 21) (c := 6) (k := 3) (by decide) rfl).1) (fun _ h9 => h9) rfl hin rfl (ckY 6 (by decide) 3 (by decide)) rfl rfl (Nat.le_of_ble_eq_true rfl) dI_Text_46 (fun H locs hP hD hS => ?_)
  have hP : va_P D fcs [(h0, .inr (6, [.ref q1, .ref q2, .ref q3, .ref q4, .null, .int (Int32.ofInt 0), .int (Int32.ofInt 0)])), (q1, .inl (cA 0, 96, .inl (fun _ => Int32.ofInt 0))), (q2, .inl (cA 0, 300, .inl (fun _ => Int32.ofInt 0))), (q3, .inl (cA 0, 300, .inl (fun _ => Int32.ofInt 0))), (q4, .inl (cA 0, 3, .inl (upd (upd (upd (fun _ => Int32.ofInt 0) 0 (Int32.ofInt (-1))) 1 (Int32.ofInt (-1))) 2 (Int32.ofInt (-1)))))] H := hP
  have hD : va_D A [(h0, .inr (6, [.ref q1, .ref q2, .ref q3, .ref q4, .null, .int (Int32.ofInt 0), .int (Int32.ofInt 0)])), (q1, .inl (cA 0, 96, .inl (fun _ => Int32.ofInt 0))), (q2, .inl (cA 0, 300, .inl (fun _ => Int32.ofInt 0))), (q3, .inl (cA 0, 300, .inl (fun _ => Int32.ofInt 0))), (q4, .inl (cA 0, 3, .inl (upd (upd (upd (fun _ => Int32.ofInt 0) 0 (Int32.ofInt (-1))) 1 (Int32.ofInt (-1))) 2 (Int32.ofInt (-1)))))] := hD
  refine lv_aload_n hx hb dI_Text_49 rfl (lv_at hl 0 rfl) ?_
  refine lv_iconst (v := Int32.ofInt 3) hx hb dI_Text_50 rfl ?_
  refine va_newa (atype := .int) (ty := .int) (N' := 3) (a0 := (3, .inl (fun _ => Int32.ofInt 0))) hx hb (hts _ sw_arr_int) rfl hK hP hD hS hA (fun _ => rfl) (by decide) (by decide) (by decide) (Nat.le_of_ble_eq_true rfl) (Nat.le_of_ble_eq_true rfl) dI_Text_51 (fun q5 cx H hKx hP hD hS => ?_)
  obtain rfl := arr_same (i := 0) hKx rfl
  have hP : va_P D fcs [(h0, .inr (6, [.ref q1, .ref q2, .ref q3, .ref q4, .null, .int (Int32.ofInt 0), .int (Int32.ofInt 0)])), (q1, .inl (cA 0, 96, .inl (fun _ => Int32.ofInt 0))), (q2, .inl (cA 0, 300, .inl (fun _ => Int32.ofInt 0))), (q3, .inl (cA 0, 300, .inl (fun _ => Int32.ofInt 0))), (q4, .inl (cA 0, 3, .inl (upd (upd (upd (fun _ => Int32.ofInt 0) 0 (Int32.ofInt (-1))) 1 (Int32.ofInt (-1))) 2 (Int32.ofInt (-1))))), (q5, .inl (cA 0, 3, .inl (fun _ => Int32.ofInt 0)))] H := hP
  have hD : va_D A [(h0, .inr (6, [.ref q1, .ref q2, .ref q3, .ref q4, .null, .int (Int32.ofInt 0), .int (Int32.ofInt 0)])), (q1, .inl (cA 0, 96, .inl (fun _ => Int32.ofInt 0))), (q2, .inl (cA 0, 300, .inl (fun _ => Int32.ofInt 0))), (q3, .inl (cA 0, 300, .inl (fun _ => Int32.ofInt 0))), (q4, .inl (cA 0, 3, .inl (upd (upd (upd (fun _ => Int32.ofInt 0) 0 (Int32.ofInt (-1))) 1 (Int32.ofInt (-1))) 2 (Int32.ofInt (-1))))), (q5, .inl (cA 0, 3, .inl (fun _ => Int32.ofInt 0)))] := hD
  refine lv_dup hx hb dI_Text_53 rfl ?_
  refine lv_iconst (v := Int32.ofInt 0) hx hb dI_Text_54 rfl ?_
  refine lv_iconst (v := Int32.ofInt (-1)) hx hb dI_Text_55 rfl ?_
  refine va_iast hx hb hK hP hD hS 5 0 (cA := cA 0) (n := 3) (f := (fun _ => Int32.ofInt 0)) rfl rfl (i32in (n := 3) (by decide) (by decide) (by decide)) dI_Text_56 (fun H locs hP hD hS => ?_)
  have hP : va_P D fcs [(h0, .inr (6, [.ref q1, .ref q2, .ref q3, .ref q4, .null, .int (Int32.ofInt 0), .int (Int32.ofInt 0)])), (q1, .inl (cA 0, 96, .inl (fun _ => Int32.ofInt 0))), (q2, .inl (cA 0, 300, .inl (fun _ => Int32.ofInt 0))), (q3, .inl (cA 0, 300, .inl (fun _ => Int32.ofInt 0))), (q4, .inl (cA 0, 3, .inl (upd (upd (upd (fun _ => Int32.ofInt 0) 0 (Int32.ofInt (-1))) 1 (Int32.ofInt (-1))) 2 (Int32.ofInt (-1))))), (q5, .inl (cA 0, 3, .inl (upd (fun _ => Int32.ofInt 0) 0 (Int32.ofInt (-1)))))] H := hP
  have hD : va_D A [(h0, .inr (6, [.ref q1, .ref q2, .ref q3, .ref q4, .null, .int (Int32.ofInt 0), .int (Int32.ofInt 0)])), (q1, .inl (cA 0, 96, .inl (fun _ => Int32.ofInt 0))), (q2, .inl (cA 0, 300, .inl (fun _ => Int32.ofInt 0))), (q3, .inl (cA 0, 300, .inl (fun _ => Int32.ofInt 0))), (q4, .inl (cA 0, 3, .inl (upd (upd (upd (fun _ => Int32.ofInt 0) 0 (Int32.ofInt (-1))) 1 (Int32.ofInt (-1))) 2 (Int32.ofInt (-1))))), (q5, .inl (cA 0, 3, .inl (upd (fun _ => Int32.ofInt 0) 0 (Int32.ofInt (-1)))))] := hD
  refine lv_dup hx hb dI_Text_57 rfl ?_
  refine lv_iconst (v := Int32.ofInt 1) hx hb dI_Text_58 rfl ?_
  refine lv_iconst (v := Int32.ofInt (-1)) hx hb dI_Text_59 rfl ?_
  refine va_iast hx hb hK hP hD hS 5 0 (cA := cA 0) (n := 3) (f := (upd (fun _ => Int32.ofInt 0) 0 (Int32.ofInt (-1)))) rfl rfl (i32in (n := 3) (by decide) (by decide) (by decide)) dI_Text_60 (fun H locs hP hD hS => ?_)
  have hP : va_P D fcs [(h0, .inr (6, [.ref q1, .ref q2, .ref q3, .ref q4, .null, .int (Int32.ofInt 0), .int (Int32.ofInt 0)])), (q1, .inl (cA 0, 96, .inl (fun _ => Int32.ofInt 0))), (q2, .inl (cA 0, 300, .inl (fun _ => Int32.ofInt 0))), (q3, .inl (cA 0, 300, .inl (fun _ => Int32.ofInt 0))), (q4, .inl (cA 0, 3, .inl (upd (upd (upd (fun _ => Int32.ofInt 0) 0 (Int32.ofInt (-1))) 1 (Int32.ofInt (-1))) 2 (Int32.ofInt (-1))))), (q5, .inl (cA 0, 3, .inl (upd (upd (fun _ => Int32.ofInt 0) 0 (Int32.ofInt (-1))) 1 (Int32.ofInt (-1)))))] H := hP
  have hD : va_D A [(h0, .inr (6, [.ref q1, .ref q2, .ref q3, .ref q4, .null, .int (Int32.ofInt 0), .int (Int32.ofInt 0)])), (q1, .inl (cA 0, 96, .inl (fun _ => Int32.ofInt 0))), (q2, .inl (cA 0, 300, .inl (fun _ => Int32.ofInt 0))), (q3, .inl (cA 0, 300, .inl (fun _ => Int32.ofInt 0))), (q4, .inl (cA 0, 3, .inl (upd (upd (upd (fun _ => Int32.ofInt 0) 0 (Int32.ofInt (-1))) 1 (Int32.ofInt (-1))) 2 (Int32.ofInt (-1))))), (q5, .inl (cA 0, 3, .inl (upd (upd (fun _ => Int32.ofInt 0) 0 (Int32.ofInt (-1))) 1 (Int32.ofInt (-1)))))] := hD
  refine lv_dup hx hb dI_Text_61 rfl ?_
  refine lv_iconst (v := Int32.ofInt 2) hx hb dI_Text_62 rfl ?_
  refine lv_iconst (v := Int32.ofInt (-1)) hx hb dI_Text_63 rfl ?_
  refine va_iast hx hb hK hP hD hS 5 0 (cA := cA 0) (n := 3) (f := (upd (upd (fun _ => Int32.ofInt 0) 0 (Int32.ofInt (-1))) 1 (Int32.ofInt (-1)))) rfl rfl (i32in (n := 3) (by decide) (by decide) (by decide)) dI_Text_64 (fun H locs hP hD hS => ?_)
  have hP : va_P D fcs [(h0, .inr (6, [.ref q1, .ref q2, .ref q3, .ref q4, .null, .int (Int32.ofInt 0), .int (Int32.ofInt 0)])), (q1, .inl (cA 0, 96, .inl (fun _ => Int32.ofInt 0))), (q2, .inl (cA 0, 300, .inl (fun _ => Int32.ofInt 0))), (q3, .inl (cA 0, 300, .inl (fun _ => Int32.ofInt 0))), (q4, .inl (cA 0, 3, .inl (upd (upd (upd (fun _ => Int32.ofInt 0) 0 (Int32.ofInt (-1))) 1 (Int32.ofInt (-1))) 2 (Int32.ofInt (-1))))), (q5, .inl (cA 0, 3, .inl (upd (upd (upd (fun _ => Int32.ofInt 0) 0 (Int32.ofInt (-1))) 1 (Int32.ofInt (-1))) 2 (Int32.ofInt (-1)))))] H := hP
  have hD : va_D A [(h0, .inr (6, [.ref q1, .ref q2, .ref q3, .ref q4, .null, .int (Int32.ofInt 0), .int (Int32.ofInt 0)])), (q1, .inl (cA 0, 96, .inl (fun _ => Int32.ofInt 0))), (q2, .inl (cA 0, 300, .inl (fun _ => Int32.ofInt 0))), (q3, .inl (cA 0, 300, .inl (fun _ => Int32.ofInt 0))), (q4, .inl (cA 0, 3, .inl (upd (upd (upd (fun _ => Int32.ofInt 0) 0 (Int32.ofInt (-1))) 1 (Int32.ofInt (-1))) 2 (Int32.ofInt (-1))))), (q5, .inl (cA 0, 3, .inl (upd (upd (upd (fun _ => Int32.ofInt 0) 0 (Int32.ofInt (-1))) 1 (Int32.ofInt (-1))) 2 (Int32.ofInt (-1)))))] := hD
  refine va_putF (D := D) (ci := 6) (v := .ref q5) (ty := .array .int) (C := clN 6) (T := clT 6) (N := clM 6) (ref := clN 6) hx hb hts (uw_in (c := 6) (by decide)) (clY 6) (ckY 6 (by decide)) (ckX 6 (by decide)) hown hK hP hD hS 0 rfl rfl 4 (by decide) (hts _ (fl_in (w := 8) (i := 24) (c := 6) (k := 4) (by decide) rfl).1) (fun _ h9 => h9) rfl hin rfl (ckY 6 (by decide) 4 (by decide)) rfl rfl (Nat.le_of_ble_eq_true rfl) dI_Text_65 (fun H locs hP hD hS => ?_)
  have hP : va_P D fcs [(h0, .inr (6, [.ref q1, .ref q2, .ref q3, .ref q4, .ref q5, .int (Int32.ofInt 0), .int (Int32.ofInt 0)])), (q1, .inl (cA 0, 96, .inl (fun _ => Int32.ofInt 0))), (q2, .inl (cA 0, 300, .inl (fun _ => Int32.ofInt 0))), (q3, .inl (cA 0, 300, .inl (fun _ => Int32.ofInt 0))), (q4, .inl (cA 0, 3, .inl (upd (upd (upd (fun _ => Int32.ofInt 0) 0 (Int32.ofInt (-1))) 1 (Int32.ofInt (-1))) 2 (Int32.ofInt (-1))))), (q5, .inl (cA 0, 3, .inl (upd (upd (upd (fun _ => Int32.ofInt 0) 0 (Int32.ofInt (-1))) 1 (Int32.ofInt (-1))) 2 (Int32.ofInt (-1)))))] H := hP
  have hD : va_D A [(h0, .inr (6, [.ref q1, .ref q2, .ref q3, .ref q4, .ref q5, .int (Int32.ofInt 0), .int (Int32.ofInt 0)])), (q1, .inl (cA 0, 96, .inl (fun _ => Int32.ofInt 0))), (q2, .inl (cA 0, 300, .inl (fun _ => Int32.ofInt 0))), (q3, .inl (cA 0, 300, .inl (fun _ => Int32.ofInt 0))), (q4, .inl (cA 0, 3, .inl (upd (upd (upd (fun _ => Int32.ofInt 0) 0 (Int32.ofInt (-1))) 1 (Int32.ofInt (-1))) 2 (Int32.ofInt (-1))))), (q5, .inl (cA 0, 3, .inl (upd (upd (upd (fun _ => Int32.ofInt 0) 0 (Int32.ofInt (-1))) 1 (Int32.ofInt (-1))) 2 (Int32.ofInt (-1)))))] := hD
  refine lv_aload_n hx hb dI_Text_68 rfl (lv_at hl 0 rfl) ?_
  refine lv_iconst (v := Int32.ofInt 0) hx hb dI_Text_69 rfl ?_
  refine va_put (D := D) (ci := 6) (v := .int (Int32.ofInt 0)) (ty := .int) (C := clN 6) (T := clT 6) (N := clM 6) (ref := clN 6) hx hb hts (uw_in (c := 6) (by decide)) (clY 6) (ckY 6 (by decide)) (ckX 6 (by decide)) hown hK hP hD hS 0 rfl rfl 5 (by decide) (hts _ (fl_in (w := 8) (i := 27) (c := 6) (k := 5) (by decide) rfl).1) (fun _ h9 => h9) rfl (ckY 6 (by decide) 5 (by decide)) rfl rfl (Nat.le_of_ble_eq_true rfl) dI_Text_70 (fun H locs hP hD hS => ?_)
  have hP : va_P D fcs [(h0, .inr (6, [.ref q1, .ref q2, .ref q3, .ref q4, .ref q5, .int (Int32.ofInt 0), .int (Int32.ofInt 0)])), (q1, .inl (cA 0, 96, .inl (fun _ => Int32.ofInt 0))), (q2, .inl (cA 0, 300, .inl (fun _ => Int32.ofInt 0))), (q3, .inl (cA 0, 300, .inl (fun _ => Int32.ofInt 0))), (q4, .inl (cA 0, 3, .inl (upd (upd (upd (fun _ => Int32.ofInt 0) 0 (Int32.ofInt (-1))) 1 (Int32.ofInt (-1))) 2 (Int32.ofInt (-1))))), (q5, .inl (cA 0, 3, .inl (upd (upd (upd (fun _ => Int32.ofInt 0) 0 (Int32.ofInt (-1))) 1 (Int32.ofInt (-1))) 2 (Int32.ofInt (-1)))))] H := hP
  have hD : va_D A [(h0, .inr (6, [.ref q1, .ref q2, .ref q3, .ref q4, .ref q5, .int (Int32.ofInt 0), .int (Int32.ofInt 0)])), (q1, .inl (cA 0, 96, .inl (fun _ => Int32.ofInt 0))), (q2, .inl (cA 0, 300, .inl (fun _ => Int32.ofInt 0))), (q3, .inl (cA 0, 300, .inl (fun _ => Int32.ofInt 0))), (q4, .inl (cA 0, 3, .inl (upd (upd (upd (fun _ => Int32.ofInt 0) 0 (Int32.ofInt (-1))) 1 (Int32.ofInt (-1))) 2 (Int32.ofInt (-1))))), (q5, .inl (cA 0, 3, .inl (upd (upd (upd (fun _ => Int32.ofInt 0) 0 (Int32.ofInt (-1))) 1 (Int32.ofInt (-1))) 2 (Int32.ofInt (-1)))))] := hD
  refine lv_aload_n hx hb dI_Text_73 rfl (lv_at hl 0 rfl) ?_
  refine lv_iconst (v := Int32.ofInt 0) hx hb dI_Text_74 rfl ?_
  refine va_put (D := D) (ci := 6) (v := .int (Int32.ofInt 0)) (ty := .int) (C := clN 6) (T := clT 6) (N := clM 6) (ref := clN 6) hx hb hts (uw_in (c := 6) (by decide)) (clY 6) (ckY 6 (by decide)) (ckX 6 (by decide)) hown hK hP hD hS 0 rfl rfl 6 (by decide) (hts _ (fl_in (w := 8) (i := 31) (c := 6) (k := 6) (by decide) rfl).1) (fun _ h9 => h9) rfl (ckY 6 (by decide) 6 (by decide)) rfl rfl (Nat.le_of_ble_eq_true rfl) dI_Text_75 (fun H locs hP hD hS => ?_)
  have hP : va_P D fcs [(h0, .inr (6, [.ref q1, .ref q2, .ref q3, .ref q4, .ref q5, .int (Int32.ofInt 0), .int (Int32.ofInt 0)])), (q1, .inl (cA 0, 96, .inl (fun _ => Int32.ofInt 0))), (q2, .inl (cA 0, 300, .inl (fun _ => Int32.ofInt 0))), (q3, .inl (cA 0, 300, .inl (fun _ => Int32.ofInt 0))), (q4, .inl (cA 0, 3, .inl (upd (upd (upd (fun _ => Int32.ofInt 0) 0 (Int32.ofInt (-1))) 1 (Int32.ofInt (-1))) 2 (Int32.ofInt (-1))))), (q5, .inl (cA 0, 3, .inl (upd (upd (upd (fun _ => Int32.ofInt 0) 0 (Int32.ofInt (-1))) 1 (Int32.ofInt (-1))) 2 (Int32.ofInt (-1)))))] H := hP
  have hD : va_D A [(h0, .inr (6, [.ref q1, .ref q2, .ref q3, .ref q4, .ref q5, .int (Int32.ofInt 0), .int (Int32.ofInt 0)])), (q1, .inl (cA 0, 96, .inl (fun _ => Int32.ofInt 0))), (q2, .inl (cA 0, 300, .inl (fun _ => Int32.ofInt 0))), (q3, .inl (cA 0, 300, .inl (fun _ => Int32.ofInt 0))), (q4, .inl (cA 0, 3, .inl (upd (upd (upd (fun _ => Int32.ofInt 0) 0 (Int32.ofInt (-1))) 1 (Int32.ofInt (-1))) 2 (Int32.ofInt (-1))))), (q5, .inl (cA 0, 3, .inl (upd (upd (upd (fun _ => Int32.ofInt 0) 0 (Int32.ofInt (-1))) 1 (Int32.ofInt (-1))) 2 (Int32.ofInt (-1)))))] := hD
  have hP9 := hP.sub (ws' := [(h0, .inr (6, [.ref q1, .ref q2, .ref q3, .ref q4, .ref q5, .int (Int32.ofInt 0), .int (Int32.ofInt 0)])), (q1, .inl (cA 0, 96, .inl (fun _ => Int32.ofInt 0))), (q2, .inl (cA 0, 300, .inl (fun _ => Int32.ofInt 0))), (q3, .inl (cA 0, 300, .inl (fun _ => Int32.ofInt 0))), (q4, .inl (cA 0, 3, .inl (upd (upd (upd (fun _ => Int32.ofInt 0) 0 (Int32.ofInt (-1))) 1 (Int32.ofInt (-1))) 2 (Int32.ofInt (-1))))), (q5, .inl (cA 0, 3, .inl (upd (upd (upd (fun _ => Int32.ofInt 0) 0 (Int32.ofInt (-1))) 1 (Int32.ofInt (-1))) 2 (Int32.ofInt (-1)))))]) [0, 1, 2, 3, 4, 5] rfl
  have hD9 := hD.sub (ws' := [(h0, .inr (6, [.ref q1, .ref q2, .ref q3, .ref q4, .ref q5, .int (Int32.ofInt 0), .int (Int32.ofInt 0)])), (q1, .inl (cA 0, 96, .inl (fun _ => Int32.ofInt 0))), (q2, .inl (cA 0, 300, .inl (fun _ => Int32.ofInt 0))), (q3, .inl (cA 0, 300, .inl (fun _ => Int32.ofInt 0))), (q4, .inl (cA 0, 3, .inl (upd (upd (upd (fun _ => Int32.ofInt 0) 0 (Int32.ofInt (-1))) 1 (Int32.ofInt (-1))) 2 (Int32.ofInt (-1))))), (q5, .inl (cA 0, 3, .inl (upd (upd (upd (fun _ => Int32.ofInt 0) 0 (Int32.ofInt (-1))) 1 (Int32.ofInt (-1))) 2 (Int32.ofInt (-1)))))]) [0, 1, 2, 3, 4, 5] (by decide) rfl
  exact W.vret hx hb hr (fun t ht hW => ⟨⟨nth 0 [h0, q1, q2, q3, q4, q5], rfl, rfl, by rw [ht]; exact hP9, hD9⟩, hS.F ht⟩) hS.2.2 dI_Text_78
theorem dI_Road_0 : decode cI_Road 0 = .ok (.aload_n 0, 1) := by decide +kernel
theorem dI_Road_1 : decode cI_Road 1 = .ok (.invokespecial 3, 3) := by decide +kernel
theorem dI_Road_4 : decode cI_Road 4 = .ok (.aload_n 0, 1) := by decide +kernel
theorem dI_Road_5 : decode cI_Road 5 = .ok (.bipush 6, 2) := by decide +kernel
theorem dI_Road_7 : decode cI_Road 7 = .ok (.newarray .int, 2) := by decide +kernel
theorem dI_Road_9 : decode cI_Road 9 = .ok (.putfield 9, 3) := by decide +kernel
theorem dI_Road_12 : decode cI_Road 12 = .ok (.aload_n 0, 1) := by decide +kernel
theorem dI_Road_13 : decode cI_Road 13 = .ok (.bipush 6, 2) := by decide +kernel
theorem dI_Road_15 : decode cI_Road 15 = .ok (.newarray .int, 2) := by decide +kernel
theorem dI_Road_17 : decode cI_Road 17 = .ok (.putfield 15, 3) := by decide +kernel
theorem dI_Road_20 : decode cI_Road 20 = .ok (.aload_n 0, 1) := by decide +kernel
theorem dI_Road_21 : decode cI_Road 21 = .ok (.iconst 0, 1) := by decide +kernel
theorem dI_Road_22 : decode cI_Road 22 = .ok (.putfield 18, 3) := by decide +kernel
theorem dI_Road_25 : decode cI_Road 25 = .ok (.return_, 1) := by decide +kernel
def W_Road (cA : Nat → ClassId) (ad : Nat → Nat) : va_W := [((ad 0), .inr (4, [.ref (ad 1), .ref (ad 2), .int (Int32.ofInt 0)])), ((ad 1), .inl (cA 0, 6, .inl (fun _ => Int32.ofInt 0))), ((ad 2), .inl (cA 0, 6, .inl (fun _ => Int32.ofInt 0)))]
set_option maxHeartbeats 16000000 in
set_option maxRecDepth 100000 in
theorem k_Road (l : Launch) (D : va_G) (cA : Nat → ClassId) (h0 sz : Nat) : Met l yI_Road (wsJ yI_Road cI_Road 1 none) ({ frames := 1, cells := 2, slots := 12, locals := 40 }) (PcI D cA [(h0, .inr (4, [.null, .null, .int (Int32.ofInt 0)]))] [.ref h0] sz) (va_Qv (fun ad : Nat → Nat => ad 0 = h0) (fun ad t => va_P D fcs (W_Road cA ad) t.heap ∧ va_D (va_A [(h0, .inr (4, [.null, .null, .int (Int32.ofInt 0)]))] sz) (W_Road cA ad)) (va_A [(h0, .inr (4, [.null, .null, .int (Int32.ofInt 0)]))] sz)) 2 12 (va_A [(h0, .inr (4, [.null, .null, .int (Int32.ofInt 0)]))] sz) := by
  refine Met.ofW (cc := cI_Road) (maxL := 1) (ret := none) (by decide) rfl ?_
  intro p e s m args below meth c s₁ B hml hv
  obtain ⟨rfl, hsz, hP, ⟨hK, hN⟩, hD0⟩ := hv
  have hx := B.exec
  have hb := B.bytes
  have hr := B.returns
  have hts : ∀ w ∈ BIG, w.before _ s = true := fun w hw => atoms_spec (ws := wsJ yI_Road cI_Road 1 none) B.pre w (List.mem_cons_of_mem _ hw)
  have hown : s.vm.findClass "ThimbleLaw$Road" = some m.cls := findClass_of_methodNamed B.named
  have hlocks := B.notSynchronized
  have hin : meth.name = "<init>" := (name_of_methodNamed B.named B.method).1
  have hO := hN.1
  subst hsz
  have hD := hD0.self (sz := s.heap.size)
  generalize hAe : va_A [(h0, .inr (4, [.null, .null, .int (Int32.ofInt 0)]))] s.heap.size = A at hD ⊢
  have hA : ∀ q : Nat, s.heap.size ≤ q → A q := fun q h => by rw [← hAe]; exact Or.inr h
  have hS : va_S A s.heap s.heap [] := va_S.rf
  have hP : va_P D fcs [(h0, .inr (4, [.null, .null, .int (Int32.ofInt 0)]))] s.heap := hP
  have hl := lv_entry ([.ref h0]) (n := 1) (Nat.le_of_ble_eq_true rfl)
  rw [lg_entry_eq]
  generalize (lg_sl ([.ref h0]) ++ List.replicate (1 - (lg_sl ([.ref h0])).length) Slot.unset).toArray = ls at hl ⊢
  have hl : lv_has ls 1 [(0, .ref h0)] := hl
  refine lv_aload_n hx hb dI_Road_0 rfl (lv_at hl 0 rfl) ?_
  refine W.objInit hx hb hown (hts _ sw_oi_Road) (hts _ sw_oinst) (hts _ sw_ocode) rfl (by rw [hml]; exact hl.1) rfl dI_Road_1 (Nat.le_of_ble_eq_true rfl) (Nat.le_of_ble_eq_true rfl) ?_
  refine W.eq (g2 := F0 m 4 ls []) rfl ?_
  refine lv_aload_n hx hb dI_Road_4 rfl (lv_at hl 0 rfl) ?_
  refine lv_bipush (v := Int32.ofInt 6) hx hb dI_Road_5 (by decide) ?_
  refine va_newa (atype := .int) (ty := .int) (N' := 6) (a0 := (6, .inl (fun _ => Int32.ofInt 0))) hx hb (hts _ sw_arr_int) rfl hK hP hD hS hA (fun _ => rfl) (by decide) (by decide) (by decide) (Nat.le_of_ble_eq_true rfl) (Nat.le_of_ble_eq_true rfl) dI_Road_7 (fun q1 cx H hKx hP hD hS => ?_)
  obtain rfl := arr_same (i := 0) hKx rfl
  have hP : va_P D fcs [(h0, .inr (4, [.null, .null, .int (Int32.ofInt 0)])), (q1, .inl (cA 0, 6, .inl (fun _ => Int32.ofInt 0)))] H := hP
  have hD : va_D A [(h0, .inr (4, [.null, .null, .int (Int32.ofInt 0)])), (q1, .inl (cA 0, 6, .inl (fun _ => Int32.ofInt 0)))] := hD
  refine va_putF (D := D) (ci := 4) (v := .ref q1) (ty := .array .int) (C := clN 4) (T := clT 4) (N := clM 4) (ref := clN 4) hx hb hts (uw_in (c := 4) (by decide)) (clY 4) (ckY 4 (by decide)) (ckX 4 (by decide)) hown hK hP hD hS 0 rfl rfl 0 (by decide) (hts _ (fl_in (w := 6) (i := 9) (c := 4) (k := 0) (by decide) rfl).1) (fun _ h9 => h9) rfl hin rfl (ckY 4 (by decide) 0 (by decide)) rfl rfl (Nat.le_of_ble_eq_true rfl) dI_Road_9 (fun H locs hP hD hS => ?_)
  have hP : va_P D fcs [(h0, .inr (4, [.ref q1, .null, .int (Int32.ofInt 0)])), (q1, .inl (cA 0, 6, .inl (fun _ => Int32.ofInt 0)))] H := hP
  have hD : va_D A [(h0, .inr (4, [.ref q1, .null, .int (Int32.ofInt 0)])), (q1, .inl (cA 0, 6, .inl (fun _ => Int32.ofInt 0)))] := hD
  refine lv_aload_n hx hb dI_Road_12 rfl (lv_at hl 0 rfl) ?_
  refine lv_bipush (v := Int32.ofInt 6) hx hb dI_Road_13 (by decide) ?_
  refine va_newa (atype := .int) (ty := .int) (N' := 6) (a0 := (6, .inl (fun _ => Int32.ofInt 0))) hx hb (hts _ sw_arr_int) rfl hK hP hD hS hA (fun _ => rfl) (by decide) (by decide) (by decide) (Nat.le_of_ble_eq_true rfl) (Nat.le_of_ble_eq_true rfl) dI_Road_15 (fun q2 cx H hKx hP hD hS => ?_)
  obtain rfl := arr_same (i := 0) hKx rfl
  have hP : va_P D fcs [(h0, .inr (4, [.ref q1, .null, .int (Int32.ofInt 0)])), (q1, .inl (cA 0, 6, .inl (fun _ => Int32.ofInt 0))), (q2, .inl (cA 0, 6, .inl (fun _ => Int32.ofInt 0)))] H := hP
  have hD : va_D A [(h0, .inr (4, [.ref q1, .null, .int (Int32.ofInt 0)])), (q1, .inl (cA 0, 6, .inl (fun _ => Int32.ofInt 0))), (q2, .inl (cA 0, 6, .inl (fun _ => Int32.ofInt 0)))] := hD
  refine va_putF (D := D) (ci := 4) (v := .ref q2) (ty := .array .int) (C := clN 4) (T := clT 4) (N := clM 4) (ref := clN 4) hx hb hts (uw_in (c := 4) (by decide)) (clY 4) (ckY 4 (by decide)) (ckX 4 (by decide)) hown hK hP hD hS 0 rfl rfl 1 (by decide) (hts _ (fl_in (w := 6) (i := 15) (c := 4) (k := 1) (by decide) rfl).1) (fun _ h9 => h9) rfl hin rfl (ckY 4 (by decide) 1 (by decide)) rfl rfl (Nat.le_of_ble_eq_true rfl) dI_Road_17 (fun H locs hP hD hS => ?_)
  have hP : va_P D fcs [(h0, .inr (4, [.ref q1, .ref q2, .int (Int32.ofInt 0)])), (q1, .inl (cA 0, 6, .inl (fun _ => Int32.ofInt 0))), (q2, .inl (cA 0, 6, .inl (fun _ => Int32.ofInt 0)))] H := hP
  have hD : va_D A [(h0, .inr (4, [.ref q1, .ref q2, .int (Int32.ofInt 0)])), (q1, .inl (cA 0, 6, .inl (fun _ => Int32.ofInt 0))), (q2, .inl (cA 0, 6, .inl (fun _ => Int32.ofInt 0)))] := hD
  refine lv_aload_n hx hb dI_Road_20 rfl (lv_at hl 0 rfl) ?_
  refine lv_iconst (v := Int32.ofInt 0) hx hb dI_Road_21 rfl ?_
  refine va_put (D := D) (ci := 4) (v := .int (Int32.ofInt 0)) (ty := .int) (C := clN 4) (T := clT 4) (N := clM 4) (ref := clN 4) hx hb hts (uw_in (c := 4) (by decide)) (clY 4) (ckY 4 (by decide)) (ckX 4 (by decide)) hown hK hP hD hS 0 rfl rfl 2 (by decide) (hts _ (fl_in (w := 6) (i := 18) (c := 4) (k := 2) (by decide) rfl).1) (fun _ h9 => h9) rfl (ckY 4 (by decide) 2 (by decide)) rfl rfl (Nat.le_of_ble_eq_true rfl) dI_Road_22 (fun H locs hP hD hS => ?_)
  have hP : va_P D fcs [(h0, .inr (4, [.ref q1, .ref q2, .int (Int32.ofInt 0)])), (q1, .inl (cA 0, 6, .inl (fun _ => Int32.ofInt 0))), (q2, .inl (cA 0, 6, .inl (fun _ => Int32.ofInt 0)))] H := hP
  have hD : va_D A [(h0, .inr (4, [.ref q1, .ref q2, .int (Int32.ofInt 0)])), (q1, .inl (cA 0, 6, .inl (fun _ => Int32.ofInt 0))), (q2, .inl (cA 0, 6, .inl (fun _ => Int32.ofInt 0)))] := hD
  have hP9 := hP.sub (ws' := [(h0, .inr (4, [.ref q1, .ref q2, .int (Int32.ofInt 0)])), (q1, .inl (cA 0, 6, .inl (fun _ => Int32.ofInt 0))), (q2, .inl (cA 0, 6, .inl (fun _ => Int32.ofInt 0)))]) [0, 1, 2] rfl
  have hD9 := hD.sub (ws' := [(h0, .inr (4, [.ref q1, .ref q2, .int (Int32.ofInt 0)])), (q1, .inl (cA 0, 6, .inl (fun _ => Int32.ofInt 0))), (q2, .inl (cA 0, 6, .inl (fun _ => Int32.ofInt 0)))]) [0, 1, 2] (by decide) rfl
  exact W.vret hx hb hr (fun t ht hW => ⟨⟨nth 0 [h0, q1, q2], rfl, rfl, by rw [ht]; exact hP9, hD9⟩, hS.F ht⟩) hS.2.2 dI_Road_25
theorem dI_Reader_0 : decode cI_Reader 0 = .ok (.aload_n 0, 1) := by decide +kernel
theorem dI_Reader_1 : decode cI_Reader 1 = .ok (.invokespecial 3, 3) := by decide +kernel
theorem dI_Reader_4 : decode cI_Reader 4 = .ok (.aload_n 0, 1) := by decide +kernel
theorem dI_Reader_5 : decode cI_Reader 5 = .ok (.sipush 301, 3) := by decide +kernel
theorem dI_Reader_8 : decode cI_Reader 8 = .ok (.newarray .int, 2) := by decide +kernel
theorem dI_Reader_10 : decode cI_Reader 10 = .ok (.putfield 9, 3) := by decide +kernel
theorem dI_Reader_13 : decode cI_Reader 13 = .ok (.aload_n 0, 1) := by decide +kernel
theorem dI_Reader_14 : decode cI_Reader 14 = .ok (.sipush 301, 3) := by decide +kernel
theorem dI_Reader_17 : decode cI_Reader 17 = .ok (.newarray .int, 2) := by decide +kernel
theorem dI_Reader_19 : decode cI_Reader 19 = .ok (.putfield 15, 3) := by decide +kernel
theorem dI_Reader_22 : decode cI_Reader 22 = .ok (.aload_n 0, 1) := by decide +kernel
theorem dI_Reader_23 : decode cI_Reader 23 = .ok (.sipush 301, 3) := by decide +kernel
theorem dI_Reader_26 : decode cI_Reader 26 = .ok (.newarray .int, 2) := by decide +kernel
theorem dI_Reader_28 : decode cI_Reader 28 = .ok (.putfield 18, 3) := by decide +kernel
theorem dI_Reader_31 : decode cI_Reader 31 = .ok (.aload_n 0, 1) := by decide +kernel
theorem dI_Reader_32 : decode cI_Reader 32 = .ok (.iconst 0, 1) := by decide +kernel
theorem dI_Reader_33 : decode cI_Reader 33 = .ok (.putfield 21, 3) := by decide +kernel
theorem dI_Reader_36 : decode cI_Reader 36 = .ok (.aload_n 0, 1) := by decide +kernel
theorem dI_Reader_37 : decode cI_Reader 37 = .ok (.iconst 0, 1) := by decide +kernel
theorem dI_Reader_38 : decode cI_Reader 38 = .ok (.putfield 25, 3) := by decide +kernel
theorem dI_Reader_41 : decode cI_Reader 41 = .ok (.aload_n 0, 1) := by decide +kernel
theorem dI_Reader_42 : decode cI_Reader 42 = .ok (.iconst (-1), 1) := by decide +kernel
theorem dI_Reader_43 : decode cI_Reader 43 = .ok (.putfield 28, 3) := by decide +kernel
theorem dI_Reader_46 : decode cI_Reader 46 = .ok (.aload_n 0, 1) := by decide +kernel
theorem dI_Reader_47 : decode cI_Reader 47 = .ok (.iconst 0, 1) := by decide +kernel
theorem dI_Reader_48 : decode cI_Reader 48 = .ok (.putfield 31, 3) := by decide +kernel
theorem dI_Reader_51 : decode cI_Reader 51 = .ok (.aload_n 0, 1) := by decide +kernel
theorem dI_Reader_52 : decode cI_Reader 52 = .ok (.iconst (-1), 1) := by decide +kernel
theorem dI_Reader_53 : decode cI_Reader 53 = .ok (.putfield 34, 3) := by decide +kernel
theorem dI_Reader_56 : decode cI_Reader 56 = .ok (.return_, 1) := by decide +kernel
def W_Reader (cA : Nat → ClassId) (ad : Nat → Nat) : va_W := [((ad 0), .inr (3, [.ref (ad 1), .ref (ad 2), .ref (ad 3), .int (Int32.ofInt 0), .int (Int32.ofInt 0), .int (Int32.ofInt (-1)), .int (Int32.ofInt 0), .int (Int32.ofInt (-1))])), ((ad 1), .inl (cA 0, 301, .inl (fun _ => Int32.ofInt 0))), ((ad 2), .inl (cA 0, 301, .inl (fun _ => Int32.ofInt 0))), ((ad 3), .inl (cA 0, 301, .inl (fun _ => Int32.ofInt 0)))]
set_option maxHeartbeats 16000000 in
set_option maxRecDepth 100000 in
theorem k_Reader (l : Launch) (D : va_G) (cA : Nat → ClassId) (h0 sz : Nat) : Met l yI_Reader (wsJ yI_Reader cI_Reader 1 none) ({ frames := 1, cells := 3, slots := 903, locals := 40 }) (PcI D cA [(h0, .inr (3, [.null, .null, .null, .int (Int32.ofInt 0), .int (Int32.ofInt 0), .int (Int32.ofInt 0), .int (Int32.ofInt 0), .int (Int32.ofInt 0)]))] [.ref h0] sz) (va_Qv (fun ad : Nat → Nat => ad 0 = h0) (fun ad t => va_P D fcs (W_Reader cA ad) t.heap ∧ va_D (va_A [(h0, .inr (3, [.null, .null, .null, .int (Int32.ofInt 0), .int (Int32.ofInt 0), .int (Int32.ofInt 0), .int (Int32.ofInt 0), .int (Int32.ofInt 0)]))] sz) (W_Reader cA ad)) (va_A [(h0, .inr (3, [.null, .null, .null, .int (Int32.ofInt 0), .int (Int32.ofInt 0), .int (Int32.ofInt 0), .int (Int32.ofInt 0), .int (Int32.ofInt 0)]))] sz)) 3 903 (va_A [(h0, .inr (3, [.null, .null, .null, .int (Int32.ofInt 0), .int (Int32.ofInt 0), .int (Int32.ofInt 0), .int (Int32.ofInt 0), .int (Int32.ofInt 0)]))] sz) := by
  refine Met.ofW (cc := cI_Reader) (maxL := 1) (ret := none) (by decide) rfl ?_
  intro p e s m args below meth c s₁ B hml hv
  obtain ⟨rfl, hsz, hP, ⟨hK, hN⟩, hD0⟩ := hv
  have hx := B.exec
  have hb := B.bytes
  have hr := B.returns
  have hts : ∀ w ∈ BIG, w.before _ s = true := fun w hw => atoms_spec (ws := wsJ yI_Reader cI_Reader 1 none) B.pre w (List.mem_cons_of_mem _ hw)
  have hown : s.vm.findClass "ThimbleLaw$Reader" = some m.cls := findClass_of_methodNamed B.named
  have hlocks := B.notSynchronized
  have hin : meth.name = "<init>" := (name_of_methodNamed B.named B.method).1
  have hO := hN.1
  subst hsz
  have hD := hD0.self (sz := s.heap.size)
  generalize hAe : va_A [(h0, .inr (3, [.null, .null, .null, .int (Int32.ofInt 0), .int (Int32.ofInt 0), .int (Int32.ofInt 0), .int (Int32.ofInt 0), .int (Int32.ofInt 0)]))] s.heap.size = A at hD ⊢
  have hA : ∀ q : Nat, s.heap.size ≤ q → A q := fun q h => by rw [← hAe]; exact Or.inr h
  have hS : va_S A s.heap s.heap [] := va_S.rf
  have hP : va_P D fcs [(h0, .inr (3, [.null, .null, .null, .int (Int32.ofInt 0), .int (Int32.ofInt 0), .int (Int32.ofInt 0), .int (Int32.ofInt 0), .int (Int32.ofInt 0)]))] s.heap := hP
  have hl := lv_entry ([.ref h0]) (n := 1) (Nat.le_of_ble_eq_true rfl)
  rw [lg_entry_eq]
  generalize (lg_sl ([.ref h0]) ++ List.replicate (1 - (lg_sl ([.ref h0])).length) Slot.unset).toArray = ls at hl ⊢
  have hl : lv_has ls 1 [(0, .ref h0)] := hl
  refine lv_aload_n hx hb dI_Reader_0 rfl (lv_at hl 0 rfl) ?_
  refine W.objInit hx hb hown (hts _ sw_oi_Reader) (hts _ sw_oinst) (hts _ sw_ocode) rfl (by rw [hml]; exact hl.1) rfl dI_Reader_1 (Nat.le_of_ble_eq_true rfl) (Nat.le_of_ble_eq_true rfl) ?_
  refine W.eq (g2 := F0 m 4 ls []) rfl ?_
  refine lv_aload_n hx hb dI_Reader_4 rfl (lv_at hl 0 rfl) ?_
  refine lv_sipush (v := Int32.ofInt 301) hx hb dI_Reader_5 (by decide) ?_
  refine va_newa (atype := .int) (ty := .int) (N' := 301) (a0 := (301, .inl (fun _ => Int32.ofInt 0))) hx hb (hts _ sw_arr_int) rfl hK hP hD hS hA (fun _ => rfl) (by decide) (by decide) (by decide) (Nat.le_of_ble_eq_true rfl) (Nat.le_of_ble_eq_true rfl) dI_Reader_8 (fun q1 cx H hKx hP hD hS => ?_)
  obtain rfl := arr_same (i := 0) hKx rfl
  have hP : va_P D fcs [(h0, .inr (3, [.null, .null, .null, .int (Int32.ofInt 0), .int (Int32.ofInt 0), .int (Int32.ofInt 0), .int (Int32.ofInt 0), .int (Int32.ofInt 0)])), (q1, .inl (cA 0, 301, .inl (fun _ => Int32.ofInt 0)))] H := hP
  have hD : va_D A [(h0, .inr (3, [.null, .null, .null, .int (Int32.ofInt 0), .int (Int32.ofInt 0), .int (Int32.ofInt 0), .int (Int32.ofInt 0), .int (Int32.ofInt 0)])), (q1, .inl (cA 0, 301, .inl (fun _ => Int32.ofInt 0)))] := hD
  refine va_putF (D := D) (ci := 3) (v := .ref q1) (ty := .array .int) (C := clN 3) (T := clT 3) (N := clM 3) (ref := clN 3) hx hb hts (uw_in (c := 3) (by decide)) (clY 3) (ckY 3 (by decide)) (ckX 3 (by decide)) hown hK hP hD hS 0 rfl rfl 0 (by decide) (hts _ (fl_in (w := 5) (i := 9) (c := 3) (k := 0) (by decide) rfl).1) (fun _ h9 => h9) rfl hin rfl (ckY 3 (by decide) 0 (by decide)) rfl rfl (Nat.le_of_ble_eq_true rfl) dI_Reader_10 (fun H locs hP hD hS => ?_)
  have hP : va_P D fcs [(h0, .inr (3, [.ref q1, .null, .null, .int (Int32.ofInt 0), .int (Int32.ofInt 0), .int (Int32.ofInt 0), .int (Int32.ofInt 0), .int (Int32.ofInt 0)])), (q1, .inl (cA 0, 301, .inl (fun _ => Int32.ofInt 0)))] H := hP
  have hD : va_D A [(h0, .inr (3, [.ref q1, .null, .null, .int (Int32.ofInt 0), .int (Int32.ofInt 0), .int (Int32.ofInt 0), .int (Int32.ofInt 0), .int (Int32.ofInt 0)])), (q1, .inl (cA 0, 301, .inl (fun _ => Int32.ofInt 0)))] := hD
  refine lv_aload_n hx hb dI_Reader_13 rfl (lv_at hl 0 rfl) ?_
  refine lv_sipush (v := Int32.ofInt 301) hx hb dI_Reader_14 (by decide) ?_
  refine va_newa (atype := .int) (ty := .int) (N' := 301) (a0 := (301, .inl (fun _ => Int32.ofInt 0))) hx hb (hts _ sw_arr_int) rfl hK hP hD hS hA (fun _ => rfl) (by decide) (by decide) (by decide) (Nat.le_of_ble_eq_true rfl) (Nat.le_of_ble_eq_true rfl) dI_Reader_17 (fun q2 cx H hKx hP hD hS => ?_)
  obtain rfl := arr_same (i := 0) hKx rfl
  have hP : va_P D fcs [(h0, .inr (3, [.ref q1, .null, .null, .int (Int32.ofInt 0), .int (Int32.ofInt 0), .int (Int32.ofInt 0), .int (Int32.ofInt 0), .int (Int32.ofInt 0)])), (q1, .inl (cA 0, 301, .inl (fun _ => Int32.ofInt 0))), (q2, .inl (cA 0, 301, .inl (fun _ => Int32.ofInt 0)))] H := hP
  have hD : va_D A [(h0, .inr (3, [.ref q1, .null, .null, .int (Int32.ofInt 0), .int (Int32.ofInt 0), .int (Int32.ofInt 0), .int (Int32.ofInt 0), .int (Int32.ofInt 0)])), (q1, .inl (cA 0, 301, .inl (fun _ => Int32.ofInt 0))), (q2, .inl (cA 0, 301, .inl (fun _ => Int32.ofInt 0)))] := hD
  refine va_putF (D := D) (ci := 3) (v := .ref q2) (ty := .array .int) (C := clN 3) (T := clT 3) (N := clM 3) (ref := clN 3) hx hb hts (uw_in (c := 3) (by decide)) (clY 3) (ckY 3 (by decide)) (ckX 3 (by decide)) hown hK hP hD hS 0 rfl rfl 1 (by decide) (hts _ (fl_in (w := 5) (i := 15) (c := 3) (k := 1) (by decide) rfl).1) (fun _ h9 => h9) rfl hin rfl (ckY 3 (by decide) 1 (by decide)) rfl rfl (Nat.le_of_ble_eq_true rfl) dI_Reader_19 (fun H locs hP hD hS => ?_)
  have hP : va_P D fcs [(h0, .inr (3, [.ref q1, .ref q2, .null, .int (Int32.ofInt 0), .int (Int32.ofInt 0), .int (Int32.ofInt 0), .int (Int32.ofInt 0), .int (Int32.ofInt 0)])), (q1, .inl (cA 0, 301, .inl (fun _ => Int32.ofInt 0))), (q2, .inl (cA 0, 301, .inl (fun _ => Int32.ofInt 0)))] H := hP
  have hD : va_D A [(h0, .inr (3, [.ref q1, .ref q2, .null, .int (Int32.ofInt 0), .int (Int32.ofInt 0), .int (Int32.ofInt 0), .int (Int32.ofInt 0), .int (Int32.ofInt 0)])), (q1, .inl (cA 0, 301, .inl (fun _ => Int32.ofInt 0))), (q2, .inl (cA 0, 301, .inl (fun _ => Int32.ofInt 0)))] := hD
  refine lv_aload_n hx hb dI_Reader_22 rfl (lv_at hl 0 rfl) ?_
  refine lv_sipush (v := Int32.ofInt 301) hx hb dI_Reader_23 (by decide) ?_
  refine va_newa (atype := .int) (ty := .int) (N' := 301) (a0 := (301, .inl (fun _ => Int32.ofInt 0))) hx hb (hts _ sw_arr_int) rfl hK hP hD hS hA (fun _ => rfl) (by decide) (by decide) (by decide) (Nat.le_of_ble_eq_true rfl) (Nat.le_of_ble_eq_true rfl) dI_Reader_26 (fun q3 cx H hKx hP hD hS => ?_)
  obtain rfl := arr_same (i := 0) hKx rfl
  have hP : va_P D fcs [(h0, .inr (3, [.ref q1, .ref q2, .null, .int (Int32.ofInt 0), .int (Int32.ofInt 0), .int (Int32.ofInt 0), .int (Int32.ofInt 0), .int (Int32.ofInt 0)])), (q1, .inl (cA 0, 301, .inl (fun _ => Int32.ofInt 0))), (q2, .inl (cA 0, 301, .inl (fun _ => Int32.ofInt 0))), (q3, .inl (cA 0, 301, .inl (fun _ => Int32.ofInt 0)))] H := hP
  have hD : va_D A [(h0, .inr (3, [.ref q1, .ref q2, .null, .int (Int32.ofInt 0), .int (Int32.ofInt 0), .int (Int32.ofInt 0), .int (Int32.ofInt 0), .int (Int32.ofInt 0)])), (q1, .inl (cA 0, 301, .inl (fun _ => Int32.ofInt 0))), (q2, .inl (cA 0, 301, .inl (fun _ => Int32.ofInt 0))), (q3, .inl (cA 0, 301, .inl (fun _ => Int32.ofInt 0)))] := hD
  refine va_putF (D := D) (ci := 3) (v := .ref q3) (ty := .array .int) (C := clN 3) (T := clT 3) (N := clM 3) (ref := clN 3) hx hb hts (uw_in (c := 3) (by decide)) (clY 3) (ckY 3 (by decide)) (ckX 3 (by decide)) hown hK hP hD hS 0 rfl rfl 2 (by decide) (hts _ (fl_in (w := 5) (i := 18) (c := 3) (k := 2) (by decide) rfl).1) (fun _ h9 => h9) rfl hin rfl (ckY 3 (by decide) 2 (by decide)) rfl rfl (Nat.le_of_ble_eq_true rfl) dI_Reader_28 (fun H locs hP hD hS => ?_)
  have hP : va_P D fcs [(h0, .inr (3, [.ref q1, .ref q2, .ref q3, .int (Int32.ofInt 0), .int (Int32.ofInt 0), .int (Int32.ofInt 0), .int (Int32.ofInt 0), .int (Int32.ofInt 0)])), (q1, .inl (cA 0, 301, .inl (fun _ => Int32.ofInt 0))), (q2, .inl (cA 0, 301, .inl (fun _ => Int32.ofInt 0))), (q3, .inl (cA 0, 301, .inl (fun _ => Int32.ofInt 0)))] H := hP
  have hD : va_D A [(h0, .inr (3, [.ref q1, .ref q2, .ref q3, .int (Int32.ofInt 0), .int (Int32.ofInt 0), .int (Int32.ofInt 0), .int (Int32.ofInt 0), .int (Int32.ofInt 0)])), (q1, .inl (cA 0, 301, .inl (fun _ => Int32.ofInt 0))), (q2, .inl (cA 0, 301, .inl (fun _ => Int32.ofInt 0))), (q3, .inl (cA 0, 301, .inl (fun _ => Int32.ofInt 0)))] := hD
  refine lv_aload_n hx hb dI_Reader_31 rfl (lv_at hl 0 rfl) ?_
  refine lv_iconst (v := Int32.ofInt 0) hx hb dI_Reader_32 rfl ?_
  refine va_put (D := D) (ci := 3) (v := .int (Int32.ofInt 0)) (ty := .int) (C := clN 3) (T := clT 3) (N := clM 3) (ref := clN 3) hx hb hts (uw_in (c := 3) (by decide)) (clY 3) (ckY 3 (by decide)) (ckX 3 (by decide)) hown hK hP hD hS 0 rfl rfl 3 (by decide) (hts _ (fl_in (w := 5) (i := 21) (c := 3) (k := 3) (by decide) rfl).1) (fun _ h9 => h9) rfl (ckY 3 (by decide) 3 (by decide)) rfl rfl (Nat.le_of_ble_eq_true rfl) dI_Reader_33 (fun H locs hP hD hS => ?_)
  have hP : va_P D fcs [(h0, .inr (3, [.ref q1, .ref q2, .ref q3, .int (Int32.ofInt 0), .int (Int32.ofInt 0), .int (Int32.ofInt 0), .int (Int32.ofInt 0), .int (Int32.ofInt 0)])), (q1, .inl (cA 0, 301, .inl (fun _ => Int32.ofInt 0))), (q2, .inl (cA 0, 301, .inl (fun _ => Int32.ofInt 0))), (q3, .inl (cA 0, 301, .inl (fun _ => Int32.ofInt 0)))] H := hP
  have hD : va_D A [(h0, .inr (3, [.ref q1, .ref q2, .ref q3, .int (Int32.ofInt 0), .int (Int32.ofInt 0), .int (Int32.ofInt 0), .int (Int32.ofInt 0), .int (Int32.ofInt 0)])), (q1, .inl (cA 0, 301, .inl (fun _ => Int32.ofInt 0))), (q2, .inl (cA 0, 301, .inl (fun _ => Int32.ofInt 0))), (q3, .inl (cA 0, 301, .inl (fun _ => Int32.ofInt 0)))] := hD
  refine lv_aload_n hx hb dI_Reader_36 rfl (lv_at hl 0 rfl) ?_
  refine lv_iconst (v := Int32.ofInt 0) hx hb dI_Reader_37 rfl ?_
  refine va_put (D := D) (ci := 3) (v := .int (Int32.ofInt 0)) (ty := .int) (C := clN 3) (T := clT 3) (N := clM 3) (ref := clN 3) hx hb hts (uw_in (c := 3) (by decide)) (clY 3) (ckY 3 (by decide)) (ckX 3 (by decide)) hown hK hP hD hS 0 rfl rfl 4 (by decide) (hts _ (fl_in (w := 5) (i := 25) (c := 3) (k := 4) (by decide) rfl).1) (fun _ h9 => h9) rfl (ckY 3 (by decide) 4 (by decide)) rfl rfl (Nat.le_of_ble_eq_true rfl) dI_Reader_38 (fun H locs hP hD hS => ?_)
  have hP : va_P D fcs [(h0, .inr (3, [.ref q1, .ref q2, .ref q3, .int (Int32.ofInt 0), .int (Int32.ofInt 0), .int (Int32.ofInt 0), .int (Int32.ofInt 0), .int (Int32.ofInt 0)])), (q1, .inl (cA 0, 301, .inl (fun _ => Int32.ofInt 0))), (q2, .inl (cA 0, 301, .inl (fun _ => Int32.ofInt 0))), (q3, .inl (cA 0, 301, .inl (fun _ => Int32.ofInt 0)))] H := hP
  have hD : va_D A [(h0, .inr (3, [.ref q1, .ref q2, .ref q3, .int (Int32.ofInt 0), .int (Int32.ofInt 0), .int (Int32.ofInt 0), .int (Int32.ofInt 0), .int (Int32.ofInt 0)])), (q1, .inl (cA 0, 301, .inl (fun _ => Int32.ofInt 0))), (q2, .inl (cA 0, 301, .inl (fun _ => Int32.ofInt 0))), (q3, .inl (cA 0, 301, .inl (fun _ => Int32.ofInt 0)))] := hD
  refine lv_aload_n hx hb dI_Reader_41 rfl (lv_at hl 0 rfl) ?_
  refine lv_iconst (v := Int32.ofInt (-1)) hx hb dI_Reader_42 rfl ?_
  refine va_put (D := D) (ci := 3) (v := .int (Int32.ofInt (-1))) (ty := .int) (C := clN 3) (T := clT 3) (N := clM 3) (ref := clN 3) hx hb hts (uw_in (c := 3) (by decide)) (clY 3) (ckY 3 (by decide)) (ckX 3 (by decide)) hown hK hP hD hS 0 rfl rfl 5 (by decide) (hts _ (fl_in (w := 5) (i := 28) (c := 3) (k := 5) (by decide) rfl).1) (fun _ h9 => h9) rfl (ckY 3 (by decide) 5 (by decide)) rfl rfl (Nat.le_of_ble_eq_true rfl) dI_Reader_43 (fun H locs hP hD hS => ?_)
  have hP : va_P D fcs [(h0, .inr (3, [.ref q1, .ref q2, .ref q3, .int (Int32.ofInt 0), .int (Int32.ofInt 0), .int (Int32.ofInt (-1)), .int (Int32.ofInt 0), .int (Int32.ofInt 0)])), (q1, .inl (cA 0, 301, .inl (fun _ => Int32.ofInt 0))), (q2, .inl (cA 0, 301, .inl (fun _ => Int32.ofInt 0))), (q3, .inl (cA 0, 301, .inl (fun _ => Int32.ofInt 0)))] H := hP
  have hD : va_D A [(h0, .inr (3, [.ref q1, .ref q2, .ref q3, .int (Int32.ofInt 0), .int (Int32.ofInt 0), .int (Int32.ofInt (-1)), .int (Int32.ofInt 0), .int (Int32.ofInt 0)])), (q1, .inl (cA 0, 301, .inl (fun _ => Int32.ofInt 0))), (q2, .inl (cA 0, 301, .inl (fun _ => Int32.ofInt 0))), (q3, .inl (cA 0, 301, .inl (fun _ => Int32.ofInt 0)))] := hD
  refine lv_aload_n hx hb dI_Reader_46 rfl (lv_at hl 0 rfl) ?_
  refine lv_iconst (v := Int32.ofInt 0) hx hb dI_Reader_47 rfl ?_
  refine va_put (D := D) (ci := 3) (v := .int (Int32.ofInt 0)) (ty := .int) (C := clN 3) (T := clT 3) (N := clM 3) (ref := clN 3) hx hb hts (uw_in (c := 3) (by decide)) (clY 3) (ckY 3 (by decide)) (ckX 3 (by decide)) hown hK hP hD hS 0 rfl rfl 6 (by decide) (hts _ (fl_in (w := 5) (i := 31) (c := 3) (k := 6) (by decide) rfl).1) (fun _ h9 => h9) rfl (ckY 3 (by decide) 6 (by decide)) rfl rfl (Nat.le_of_ble_eq_true rfl) dI_Reader_48 (fun H locs hP hD hS => ?_)
  have hP : va_P D fcs [(h0, .inr (3, [.ref q1, .ref q2, .ref q3, .int (Int32.ofInt 0), .int (Int32.ofInt 0), .int (Int32.ofInt (-1)), .int (Int32.ofInt 0), .int (Int32.ofInt 0)])), (q1, .inl (cA 0, 301, .inl (fun _ => Int32.ofInt 0))), (q2, .inl (cA 0, 301, .inl (fun _ => Int32.ofInt 0))), (q3, .inl (cA 0, 301, .inl (fun _ => Int32.ofInt 0)))] H := hP
  have hD : va_D A [(h0, .inr (3, [.ref q1, .ref q2, .ref q3, .int (Int32.ofInt 0), .int (Int32.ofInt 0), .int (Int32.ofInt (-1)), .int (Int32.ofInt 0), .int (Int32.ofInt 0)])), (q1, .inl (cA 0, 301, .inl (fun _ => Int32.ofInt 0))), (q2, .inl (cA 0, 301, .inl (fun _ => Int32.ofInt 0))), (q3, .inl (cA 0, 301, .inl (fun _ => Int32.ofInt 0)))] := hD
  refine lv_aload_n hx hb dI_Reader_51 rfl (lv_at hl 0 rfl) ?_
  refine lv_iconst (v := Int32.ofInt (-1)) hx hb dI_Reader_52 rfl ?_
  refine va_put (D := D) (ci := 3) (v := .int (Int32.ofInt (-1))) (ty := .int) (C := clN 3) (T := clT 3) (N := clM 3) (ref := clN 3) hx hb hts (uw_in (c := 3) (by decide)) (clY 3) (ckY 3 (by decide)) (ckX 3 (by decide)) hown hK hP hD hS 0 rfl rfl 7 (by decide) (hts _ (fl_in (w := 5) (i := 34) (c := 3) (k := 7) (by decide) rfl).1) (fun _ h9 => h9) rfl (ckY 3 (by decide) 7 (by decide)) rfl rfl (Nat.le_of_ble_eq_true rfl) dI_Reader_53 (fun H locs hP hD hS => ?_)
  have hP : va_P D fcs [(h0, .inr (3, [.ref q1, .ref q2, .ref q3, .int (Int32.ofInt 0), .int (Int32.ofInt 0), .int (Int32.ofInt (-1)), .int (Int32.ofInt 0), .int (Int32.ofInt (-1))])), (q1, .inl (cA 0, 301, .inl (fun _ => Int32.ofInt 0))), (q2, .inl (cA 0, 301, .inl (fun _ => Int32.ofInt 0))), (q3, .inl (cA 0, 301, .inl (fun _ => Int32.ofInt 0)))] H := hP
  have hD : va_D A [(h0, .inr (3, [.ref q1, .ref q2, .ref q3, .int (Int32.ofInt 0), .int (Int32.ofInt 0), .int (Int32.ofInt (-1)), .int (Int32.ofInt 0), .int (Int32.ofInt (-1))])), (q1, .inl (cA 0, 301, .inl (fun _ => Int32.ofInt 0))), (q2, .inl (cA 0, 301, .inl (fun _ => Int32.ofInt 0))), (q3, .inl (cA 0, 301, .inl (fun _ => Int32.ofInt 0)))] := hD
  have hP9 := hP.sub (ws' := [(h0, .inr (3, [.ref q1, .ref q2, .ref q3, .int (Int32.ofInt 0), .int (Int32.ofInt 0), .int (Int32.ofInt (-1)), .int (Int32.ofInt 0), .int (Int32.ofInt (-1))])), (q1, .inl (cA 0, 301, .inl (fun _ => Int32.ofInt 0))), (q2, .inl (cA 0, 301, .inl (fun _ => Int32.ofInt 0))), (q3, .inl (cA 0, 301, .inl (fun _ => Int32.ofInt 0)))]) [0, 1, 2, 3] rfl
  have hD9 := hD.sub (ws' := [(h0, .inr (3, [.ref q1, .ref q2, .ref q3, .int (Int32.ofInt 0), .int (Int32.ofInt 0), .int (Int32.ofInt (-1)), .int (Int32.ofInt 0), .int (Int32.ofInt (-1))])), (q1, .inl (cA 0, 301, .inl (fun _ => Int32.ofInt 0))), (q2, .inl (cA 0, 301, .inl (fun _ => Int32.ofInt 0))), (q3, .inl (cA 0, 301, .inl (fun _ => Int32.ofInt 0)))]) [0, 1, 2, 3] (by decide) rfl
  exact W.vret hx hb hr (fun t ht hW => ⟨⟨nth 0 [h0, q1, q2, q3], rfl, rfl, by rw [ht]; exact hP9, hD9⟩, hS.F ht⟩) hS.2.2 dI_Reader_56
