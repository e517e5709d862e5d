theorem sw_law_120 : Cond.methodLink "ThimbleLawLaw" 120 (mNm 136) ∈ BIG := big_of (tpA_in (q := (4, 146)) rfl) rfl
theorem sw_law_123 : Cond.methodLink "ThimbleLawLaw" 123 (mNm 278) ∈ BIG := big_of (tpA_in (q := (7, 176)) rfl) rfl
set_option maxHeartbeats 4000000 in
theorem law_case_25 {p : Program} {l : Launch} {e : Env} {s : State} {m : MethodId} {below : List Frame} {meth : Method} {c : Code} {b L : Nat} {xs : Nat → Int32} {ads : Nat → Nat} {cA : Nat → ClassId} {D : va_G} {Inv : Nat → Hp → Prop} {QQ : State → Prop} {kc ks : Nat} (hkc : kc ≤ 600000) (hks : ks ≤ 7302250) (hH : LawH p s m meth c b L xs ads cA D) (hop : op_within Inv) {H : Heap} {ls : Array Slot} {h : Hp} {i : Nat} (hi : i + 6 ≤ L) (hl : lv_has ls 4 [(0, .ref b), (1, .ref (ads 0)), (2, .ref (ads 84)), (3, .int (Int32.ofInt (i : Int)))]) (hP : va_P D fcs (wld ads cA h) H) (hh : okh h) (hI : Inv (i / 6) h) (hS : va_S (inA ads) s.heap H [])
    (next : ∀ (h2 : Hp) (H2 : Heap) (locs2 : List Loc), va_P D fcs (wld ads cA h2) H2 → okh h2 → Inv (i / 6 + 1) h2 → va_S (inA ads) s.heap H2 locs2 → W p l e room_1 s m #[Value.ref b] below meth c H2 locs2 kc ks QQ (F0 m 1736 ls [])) :
    W p l e room_1 s m #[Value.ref b] below meth c H [] kc ks QQ (F0 m 1029 ls []) := by
  obtain ⟨hx, hb, hml, hown, hts, hX, hbl, hL, hap, hK, hN, hSX, hge⟩ := hH
  have hbA : ¬ inA ads b := fun ⟨o, ho, e⟩ => by have := hge o ho; omega
  have hxr : inX (fun j => (xs (i + j)).toInt) := fun j => i32r _
  have hrun := hop (fun j => (xs (i + j)).toInt) hxr (i / 6) (by omega) h hI hh
  refine lv_aload_n hx hb dL_1029 rfl (lv_at hl 1 rfl) ?_
  refine ld_arg (pc := 1030) (j := 1) (n := 1) (q0 := 0) (q1 := 0) (q2 := 0) hx hb hX hbl hbA hS rfl (lv_at hl 0 rfl) (lv_at hl 3 rfl) (by omega) hL dL_1030 dL_1031 dL_1032 dL_1033 dL_1034 ?_
  refine law_inv (o := 0) (a := 136) (idx := 120) (av := [vI (xs (i + 1)).toInt]) (rest := []) hx hb hml hown hts hap hK hN hSX (by decide) rfl sw_law_120 rfl (Nat.le_of_ble_eq_true rfl) rfl (okl.cons (i32r _) (fun _ h9 => absurd h9 List.not_mem_nil)) hh hl.1 hP hS hkc hks (Nat.zero_le _) hrun dL_1035 (fun r h1 H1 locs1 hq hP1 hh1 hor1 hS1 => ?_)
  obtain ⟨z, rfl, hrun2⟩ := hq
  have hS := hS1
  refine lv_aload_n hx hb dL_1038 rfl (lv_at hl 2 rfl) ?_
  refine ld_arg (pc := 1039) (j := 1) (n := 1) (q0 := 0) (q1 := 0) (q2 := 0) hx hb hX hbl hbA hS rfl (lv_at hl 0 rfl) (lv_at hl 3 rfl) (by omega) hL dL_1039 dL_1040 dL_1041 dL_1042 dL_1043 ?_
  refine law_inv (o := 84) (a := 278) (idx := 123) (av := [vI (xs (i + 1)).toInt]) (rest := [cv ads (vI z)]) hx hb hml hown hts hap hK hN hSX (by decide) rfl sw_law_123 rfl (Nat.le_of_ble_eq_true rfl) rfl (okl.cons (i32r _) (fun _ h9 => absurd h9 List.not_mem_nil)) hh1 hl.1 hP1 hS hkc hks (Nat.le_of_ble_eq_true rfl) hrun2 dL_1044 (fun r2 h2 H2 locs2 hq2 hP2 hh2 hor2 hS2 => ?_)
  obtain ⟨rfl, hI2⟩ := hq2
  refine lv_icmp_eq (tgt := 1736) hx hb dL_1047 (by decide) (fun _ => next h2 H2 locs2 hP2 hh2 hI2 hS2) (fun c9 => absurd rfl c9)
theorem sw_law_124 : Cond.methodLink "ThimbleLawLaw" 124 (mNm 137) ∈ BIG := big_of (tpA_in (q := (4, 166)) rfl) rfl
theorem sw_law_128 : Cond.methodLink "ThimbleLawLaw" 128 (mNm 283) ∈ BIG := big_of (tpA_in (q := (7, 187)) rfl) rfl
set_option maxHeartbeats 4000000 in
theorem law_case_26 {p : Program} {l : Launch} {e : Env} {s : State} {m : MethodId} {below : List Frame} {meth : Method} {c : Code} {b L : Nat} {xs : Nat → Int32} {ads : Nat → Nat} {cA : Nat → ClassId} {D : va_G} {Inv : Nat → Hp → Prop} {QQ : State → Prop} {kc ks : Nat} (hkc : kc ≤ 600000) (hks : ks ≤ 7302250) (hH : LawH p s m meth c b L xs ads cA D) (hop : op_wrongly Inv) {H : Heap} {ls : Array Slot} {h : Hp} {i : Nat} (hi : i + 6 ≤ L) (hl : lv_has ls 4 [(0, .ref b), (1, .ref (ads 0)), (2, .ref (ads 84)), (3, .int (Int32.ofInt (i : Int)))]) (hP : va_P D fcs (wld ads cA h) H) (hh : okh h) (hI : Inv (i / 6) h) (hS : va_S (inA ads) s.heap H [])
    (next : ∀ (h2 : Hp) (H2 : Heap) (locs2 : List Loc), va_P D fcs (wld ads cA h2) H2 → okh h2 → Inv (i / 6 + 1) h2 → va_S (inA ads) s.heap H2 locs2 → W p l e room_1 s m #[Value.ref b] below meth c H2 locs2 kc ks QQ (F0 m 1736 ls [])) :
    W p l e room_1 s m #[Value.ref b] below meth c H [] kc ks QQ (F0 m 1052 ls []) := by
  obtain ⟨hx, hb, hml, hown, hts, hX, hbl, hL, hap, hK, hN, hSX, hge⟩ := hH
  have hbA : ¬ inA ads b := fun ⟨o, ho, e⟩ => by have := hge o ho; omega
  have hxr : inX (fun j => (xs (i + j)).toInt) := fun j => i32r _
  have hrun := hop (fun j => (xs (i + j)).toInt) hxr (i / 6) (by omega) h hI hh
  refine lv_aload_n hx hb dL_1052 rfl (lv_at hl 1 rfl) ?_
  refine ld_arg (pc := 1053) (j := 1) (n := 1) (q0 := 0) (q1 := 0) (q2 := 0) hx hb hX hbl hbA hS rfl (lv_at hl 0 rfl) (lv_at hl 3 rfl) (by omega) hL dL_1053 dL_1054 dL_1055 dL_1056 dL_1057 ?_
  refine ld_arg (pc := 1058) (j := 2) (n := 2) (q0 := 0) (q1 := 0) (q2 := 0) hx hb hX hbl hbA hS rfl (lv_at hl 0 rfl) (lv_at hl 3 rfl) (by omega) hL dL_1058 dL_1059 dL_1060 dL_1061 dL_1062 ?_
  refine ld_arg (pc := 1063) (j := 3) (n := 3) (q0 := 0) (q1 := 0) (q2 := 0) hx hb hX hbl hbA hS rfl (lv_at hl 0 rfl) (lv_at hl 3 rfl) (by omega) hL dL_1063 dL_1064 dL_1065 dL_1066 dL_1067 ?_
  refine ld_bool (pc := 1068) (j := 4) (n := 4) hx hb hX hbl hbA hS rfl (lv_at hl 0 rfl) (lv_at hl 3 rfl) (by omega) hL dL_1068 dL_1069 dL_1070 dL_1071 dL_1072 dL_1073 dL_1076 dL_1077 dL_1080 ?_
  refine law_inv (o := 0) (a := 137) (idx := 124) (av := [vI (xs (i + 1)).toInt, vI (xs (i + 2)).toInt, vI (xs (i + 3)).toInt, vI (nzI (xs (i + 4)).toInt)]) (rest := []) hx hb hml hown hts hap hK hN hSX (by decide) rfl sw_law_124 rfl (Nat.le_of_ble_eq_true rfl) rfl (okl.cons (i32r _) (okl.cons (i32r _) (okl.cons (i32r _) (okl.cons (nzI_r _) (fun _ h9 => absurd h9 List.not_mem_nil))))) hh hl.1 hP hS hkc hks (Nat.zero_le _) hrun dL_1081 (fun r h1 H1 locs1 hq hP1 hh1 hor1 hS1 => ?_)
  obtain ⟨z, rfl, hrun2⟩ := hq
  have hS := hS1
  refine lv_aload_n hx hb dL_1084 rfl (lv_at hl 2 rfl) ?_
  refine ld_arg (pc := 1085) (j := 1) (n := 1) (q0 := 0) (q1 := 0) (q2 := 0) hx hb hX hbl hbA hS rfl (lv_at hl 0 rfl) (lv_at hl 3 rfl) (by omega) hL dL_1085 dL_1086 dL_1087 dL_1088 dL_1089 ?_
  refine ld_arg (pc := 1090) (j := 2) (n := 2) (q0 := 0) (q1 := 0) (q2 := 0) hx hb hX hbl hbA hS rfl (lv_at hl 0 rfl) (lv_at hl 3 rfl) (by omega) hL dL_1090 dL_1091 dL_1092 dL_1093 dL_1094 ?_
  refine ld_arg (pc := 1095) (j := 3) (n := 3) (q0 := 0) (q1 := 0) (q2 := 0) hx hb hX hbl hbA hS rfl (lv_at hl 0 rfl) (lv_at hl 3 rfl) (by omega) hL dL_1095 dL_1096 dL_1097 dL_1098 dL_1099 ?_
  refine ld_bool (pc := 1100) (j := 4) (n := 4) hx hb hX hbl hbA hS rfl (lv_at hl 0 rfl) (lv_at hl 3 rfl) (by omega) hL dL_1100 dL_1101 dL_1102 dL_1103 dL_1104 dL_1105 dL_1108 dL_1109 dL_1112 ?_
  refine law_inv (o := 84) (a := 283) (idx := 128) (av := [vI (xs (i + 1)).toInt, vI (xs (i + 2)).toInt, vI (xs (i + 3)).toInt, vI (nzI (xs (i + 4)).toInt)]) (rest := [cv ads (vL z)]) hx hb hml hown hts hap hK hN hSX (by decide) rfl sw_law_128 rfl (Nat.le_of_ble_eq_true rfl) rfl (okl.cons (i32r _) (okl.cons (i32r _) (okl.cons (i32r _) (okl.cons (nzI_r _) (fun _ h9 => absurd h9 List.not_mem_nil))))) hh1 hl.1 hP1 hS hkc hks (Nat.le_of_ble_eq_true rfl) hrun2 dL_1113 (fun r2 h2 H2 locs2 hq2 hP2 hh2 hor2 hS2 => ?_)
  obtain ⟨rfl, hI2⟩ := hq2
  refine W.lcmp hx hb dL_1116 ?_
  rw [i64cmp hor2 hor2, show lcI z z = 0 from by unfold lcI; rw [if_neg (by omega), if_pos rfl]]
  refine lv_if_eq (tgt := 1736) hx hb dL_1117 (by decide) (fun _ => next h2 H2 locs2 hP2 hh2 hI2 hS2) (fun c9 => absurd rfl c9)
theorem sw_law_129 : Cond.methodLink "ThimbleLawLaw" 129 (mNm 138) ∈ BIG := big_of (tpA_in (q := (4, 185)) rfl) rfl
theorem sw_law_132 : Cond.methodLink "ThimbleLawLaw" 132 (mNm 284) ∈ BIG := big_of (tpA_in (q := (7, 204)) rfl) rfl
set_option maxHeartbeats 4000000 in
theorem law_case_27 {p : Program} {l : Launch} {e : Env} {s : State} {m : MethodId} {below : List Frame} {meth : Method} {c : Code} {b L : Nat} {xs : Nat → Int32} {ads : Nat → Nat} {cA : Nat → ClassId} {D : va_G} {Inv : Nat → Hp → Prop} {QQ : State → Prop} {kc ks : Nat} (hkc : kc ≤ 600000) (hks : ks ≤ 7302250) (hH : LawH p s m meth c b L xs ads cA D) (hop : op_howOften Inv) {H : Heap} {ls : Array Slot} {h : Hp} {i : Nat} (hi : i + 6 ≤ L) (hl : lv_has ls 4 [(0, .ref b), (1, .ref (ads 0)), (2, .ref (ads 84)), (3, .int (Int32.ofInt (i : Int)))]) (hP : va_P D fcs (wld ads cA h) H) (hh : okh h) (hI : Inv (i / 6) h) (hS : va_S (inA ads) s.heap H [])
    (next : ∀ (h2 : Hp) (H2 : Heap) (locs2 : List Loc), va_P D fcs (wld ads cA h2) H2 → okh h2 → Inv (i / 6 + 1) h2 → va_S (inA ads) s.heap H2 locs2 → W p l e room_1 s m #[Value.ref b] below meth c H2 locs2 kc ks QQ (F0 m 1736 ls [])) :
    W p l e room_1 s m #[Value.ref b] below meth c H [] kc ks QQ (F0 m 1122 ls []) := by
  obtain ⟨hx, hb, hml, hown, hts, hX, hbl, hL, hap, hK, hN, hSX, hge⟩ := hH
  have hbA : ¬ inA ads b := fun ⟨o, ho, e⟩ => by have := hge o ho; omega
  have hxr : inX (fun j => (xs (i + j)).toInt) := fun j => i32r _
  have hrun := hop (fun j => (xs (i + j)).toInt) hxr (i / 6) (by omega) h hI hh
  refine lv_aload_n hx hb dL_1122 rfl (lv_at hl 1 rfl) ?_
  refine ld_arg (pc := 1123) (j := 1) (n := 1) (q0 := 0) (q1 := 0) (q2 := 0) hx hb hX hbl hbA hS rfl (lv_at hl 0 rfl) (lv_at hl 3 rfl) (by omega) hL dL_1123 dL_1124 dL_1125 dL_1126 dL_1127 ?_
  refine ld_arg (pc := 1128) (j := 2) (n := 2) (q0 := 0) (q1 := 0) (q2 := 0) hx hb hX hbl hbA hS rfl (lv_at hl 0 rfl) (lv_at hl 3 rfl) (by omega) hL dL_1128 dL_1129 dL_1130 dL_1131 dL_1132 ?_
  refine ld_arg (pc := 1133) (j := 3) (n := 3) (q0 := 0) (q1 := 0) (q2 := 0) hx hb hX hbl hbA hS rfl (lv_at hl 0 rfl) (lv_at hl 3 rfl) (by omega) hL dL_1133 dL_1134 dL_1135 dL_1136 dL_1137 ?_
  refine law_inv (o := 0) (a := 138) (idx := 129) (av := [vI (xs (i + 1)).toInt, vI (xs (i + 2)).toInt, vI (xs (i + 3)).toInt]) (rest := []) hx hb hml hown hts hap hK hN hSX (by decide) rfl sw_law_129 rfl (Nat.le_of_ble_eq_true rfl) rfl (okl.cons (i32r _) (okl.cons (i32r _) (okl.cons (i32r _) (fun _ h9 => absurd h9 List.not_mem_nil)))) hh hl.1 hP hS hkc hks (Nat.zero_le _) hrun dL_1138 (fun r h1 H1 locs1 hq hP1 hh1 hor1 hS1 => ?_)
  obtain ⟨z, rfl, hrun2⟩ := hq
  have hS := hS1
  refine lv_aload_n hx hb dL_1141 rfl (lv_at hl 2 rfl) ?_
  refine ld_arg (pc := 1142) (j := 1) (n := 1) (q0 := 0) (q1 := 0) (q2 := 0) hx hb hX hbl hbA hS rfl (lv_at hl 0 rfl) (lv_at hl 3 rfl) (by omega) hL dL_1142 dL_1143 dL_1144 dL_1145 dL_1146 ?_
  refine ld_arg (pc := 1147) (j := 2) (n := 2) (q0 := 0) (q1 := 0) (q2 := 0) hx hb hX hbl hbA hS rfl (lv_at hl 0 rfl) (lv_at hl 3 rfl) (by omega) hL dL_1147 dL_1148 dL_1149 dL_1150 dL_1151 ?_
  refine ld_arg (pc := 1152) (j := 3) (n := 3) (q0 := 0) (q1 := 0) (q2 := 0) hx hb hX hbl hbA hS rfl (lv_at hl 0 rfl) (lv_at hl 3 rfl) (by omega) hL dL_1152 dL_1153 dL_1154 dL_1155 dL_1156 ?_
  refine law_inv (o := 84) (a := 284) (idx := 132) (av := [vI (xs (i + 1)).toInt, vI (xs (i + 2)).toInt, vI (xs (i + 3)).toInt]) (rest := [cv ads (vI z)]) hx hb hml hown hts hap hK hN hSX (by decide) rfl sw_law_132 rfl (Nat.le_of_ble_eq_true rfl) rfl (okl.cons (i32r _) (okl.cons (i32r _) (okl.cons (i32r _) (fun _ h9 => absurd h9 List.not_mem_nil)))) hh1 hl.1 hP1 hS hkc hks (Nat.le_of_ble_eq_true rfl) hrun2 dL_1157 (fun r2 h2 H2 locs2 hq2 hP2 hh2 hor2 hS2 => ?_)
  obtain ⟨rfl, hI2⟩ := hq2
  refine lv_icmp_eq (tgt := 1736) hx hb dL_1160 (by decide) (fun _ => next h2 H2 locs2 hP2 hh2 hI2 hS2) (fun c9 => absurd rfl c9)
theorem sw_law_133 : Cond.methodLink "ThimbleLawLaw" 133 (mNm 139) ∈ BIG := big_of (tpA_in (q := (4, 190)) rfl) rfl
theorem sw_law_137 : Cond.methodLink "ThimbleLawLaw" 137 (mNm 285) ∈ BIG := big_of (tpA_in (q := (7, 209)) rfl) rfl
set_option maxHeartbeats 4000000 in
theorem law_case_28 {p : Program} {l : Launch} {e : Env} {s : State} {m : MethodId} {below : List Frame} {meth : Method} {c : Code} {b L : Nat} {xs : Nat → Int32} {ads : Nat → Nat} {cA : Nat → ClassId} {D : va_G} {Inv : Nat → Hp → Prop} {QQ : State → Prop} {kc ks : Nat} (hkc : kc ≤ 600000) (hks : ks ≤ 7302250) (hH : LawH p s m meth c b L xs ads cA D) (hop : op_way Inv) {H : Heap} {ls : Array Slot} {h : Hp} {i : Nat} (hi : i + 6 ≤ L) (hl : lv_has ls 4 [(0, .ref b), (1, .ref (ads 0)), (2, .ref (ads 84)), (3, .int (Int32.ofInt (i : Int)))]) (hP : va_P D fcs (wld ads cA h) H) (hh : okh h) (hI : Inv (i / 6) h) (hS : va_S (inA ads) s.heap H [])
    (next : ∀ (h2 : Hp) (H2 : Heap) (locs2 : List Loc), va_P D fcs (wld ads cA h2) H2 → okh h2 → Inv (i / 6 + 1) h2 → va_S (inA ads) s.heap H2 locs2 → W p l e room_1 s m #[Value.ref b] below meth c H2 locs2 kc ks QQ (F0 m 1736 ls [])) :
    W p l e room_1 s m #[Value.ref b] below meth c H [] kc ks QQ (F0 m 1165 ls []) := by
  obtain ⟨hx, hb, hml, hown, hts, hX, hbl, hL, hap, hK, hN, hSX, hge⟩ := hH
  have hbA : ¬ inA ads b := fun ⟨o, ho, e⟩ => by have := hge o ho; omega
  have hxr : inX (fun j => (xs (i + j)).toInt) := fun j => i32r _
  have hrun := hop (fun j => (xs (i + j)).toInt) hxr (i / 6) (by omega) h hI hh
  refine lv_aload_n hx hb dL_1165 rfl (lv_at hl 1 rfl) ?_
  refine ld_arg (pc := 1166) (j := 1) (n := 1) (q0 := 0) (q1 := 0) (q2 := 0) hx hb hX hbl hbA hS rfl (lv_at hl 0 rfl) (lv_at hl 3 rfl) (by omega) hL dL_1166 dL_1167 dL_1168 dL_1169 dL_1170 ?_
  refine ld_arg (pc := 1171) (j := 2) (n := 2) (q0 := 0) (q1 := 0) (q2 := 0) hx hb hX hbl hbA hS rfl (lv_at hl 0 rfl) (lv_at hl 3 rfl) (by omega) hL dL_1171 dL_1172 dL_1173 dL_1174 dL_1175 ?_
  refine ld_arg (pc := 1176) (j := 3) (n := 3) (q0 := 0) (q1 := 0) (q2 := 0) hx hb hX hbl hbA hS rfl (lv_at hl 0 rfl) (lv_at hl 3 rfl) (by omega) hL dL_1176 dL_1177 dL_1178 dL_1179 dL_1180 ?_
  refine law_inv (o := 0) (a := 139) (idx := 133) (av := [vI (xs (i + 1)).toInt, vI (xs (i + 2)).toInt, vI (xs (i + 3)).toInt]) (rest := []) hx hb hml hown hts hap hK hN hSX (by decide) rfl sw_law_133 rfl (Nat.le_of_ble_eq_true rfl) rfl (okl.cons (i32r _) (okl.cons (i32r _) (okl.cons (i32r _) (fun _ h9 => absurd h9 List.not_mem_nil)))) hh hl.1 hP hS hkc hks (Nat.zero_le _) hrun dL_1181 (fun r h1 H1 locs1 hq hP1 hh1 hor1 hS1 => ?_)
  obtain ⟨z, rfl, hrun2⟩ := hq
  have hS := hS1
  refine lv_aload_n hx hb dL_1184 rfl (lv_at hl 2 rfl) ?_
  refine ld_arg (pc := 1185) (j := 1) (n := 1) (q0 := 0) (q1 := 0) (q2 := 0) hx hb hX hbl hbA hS rfl (lv_at hl 0 rfl) (lv_at hl 3 rfl) (by omega) hL dL_1185 dL_1186 dL_1187 dL_1188 dL_1189 ?_
  refine ld_arg (pc := 1190) (j := 2) (n := 2) (q0 := 0) (q1 := 0) (q2 := 0) hx hb hX hbl hbA hS rfl (lv_at hl 0 rfl) (lv_at hl 3 rfl) (by omega) hL dL_1190 dL_1191 dL_1192 dL_1193 dL_1194 ?_
  refine ld_arg (pc := 1195) (j := 3) (n := 3) (q0 := 0) (q1 := 0) (q2 := 0) hx hb hX hbl hbA hS rfl (lv_at hl 0 rfl) (lv_at hl 3 rfl) (by omega) hL dL_1195 dL_1196 dL_1197 dL_1198 dL_1199 ?_
  refine law_inv (o := 84) (a := 285) (idx := 137) (av := [vI (xs (i + 1)).toInt, vI (xs (i + 2)).toInt, vI (xs (i + 3)).toInt]) (rest := [cv ads (vI z)]) hx hb hml hown hts hap hK hN hSX (by decide) rfl sw_law_137 rfl (Nat.le_of_ble_eq_true rfl) rfl (okl.cons (i32r _) (okl.cons (i32r _) (okl.cons (i32r _) (fun _ h9 => absurd h9 List.not_mem_nil)))) hh1 hl.1 hP1 hS hkc hks (Nat.le_of_ble_eq_true rfl) hrun2 dL_1200 (fun r2 h2 H2 locs2 hq2 hP2 hh2 hor2 hS2 => ?_)
  obtain ⟨rfl, hI2⟩ := hq2
  refine lv_icmp_eq (tgt := 1736) hx hb dL_1203 (by decide) (fun _ => next h2 H2 locs2 hP2 hh2 hI2 hS2) (fun c9 => absurd rfl c9)
theorem sw_law_138 : Cond.methodLink "ThimbleLawLaw" 138 (mNm 140) ∈ BIG := big_of (tpA_in (q := (4, 194)) rfl) rfl
theorem sw_law_141 : Cond.methodLink "ThimbleLawLaw" 141 (mNm 289) ∈ BIG := big_of (tpA_in (q := (7, 213)) rfl) rfl
set_option maxHeartbeats 4000000 in
theorem law_case_29 {p : Program} {l : Launch} {e : Env} {s : State} {m : MethodId} {below : List Frame} {meth : Method} {c : Code} {b L : Nat} {xs : Nat → Int32} {ads : Nat → Nat} {cA : Nat → ClassId} {D : va_G} {Inv : Nat → Hp → Prop} {QQ : State → Prop} {kc ks : Nat} (hkc : kc ≤ 600000) (hks : ks ≤ 7302250) (hH : LawH p s m meth c b L xs ads cA D) (hop : op_round Inv) {H : Heap} {ls : Array Slot} {h : Hp} {i : Nat} (hi : i + 6 ≤ L) (hl : lv_has ls 4 [(0, .ref b), (1, .ref (ads 0)), (2, .ref (ads 84)), (3, .int (Int32.ofInt (i : Int)))]) (hP : va_P D fcs (wld ads cA h) H) (hh : okh h) (hI : Inv (i / 6) h) (hS : va_S (inA ads) s.heap H [])
    (next : ∀ (h2 : Hp) (H2 : Heap) (locs2 : List Loc), va_P D fcs (wld ads cA h2) H2 → okh h2 → Inv (i / 6 + 1) h2 → va_S (inA ads) s.heap H2 locs2 → W p l e room_1 s m #[Value.ref b] below meth c H2 locs2 kc ks QQ (F0 m 1736 ls [])) :
    W p l e room_1 s m #[Value.ref b] below meth c H [] kc ks QQ (F0 m 1208 ls []) := by
  obtain ⟨hx, hb, hml, hown, hts, hX, hbl, hL, hap, hK, hN, hSX, hge⟩ := hH
  have hbA : ¬ inA ads b := fun ⟨o, ho, e⟩ => by have := hge o ho; omega
  have hxr : inX (fun j => (xs (i + j)).toInt) := fun j => i32r _
  have hrun := hop (fun j => (xs (i + j)).toInt) hxr (i / 6) (by omega) h hI hh
  refine lv_aload_n hx hb dL_1208 rfl (lv_at hl 1 rfl) ?_
  refine ld_arg (pc := 1209) (j := 1) (n := 1) (q0 := 0) (q1 := 0) (q2 := 0) hx hb hX hbl hbA hS rfl (lv_at hl 0 rfl) (lv_at hl 3 rfl) (by omega) hL dL_1209 dL_1210 dL_1211 dL_1212 dL_1213 ?_
  refine law_inv (o := 0) (a := 140) (idx := 138) (av := [vI (xs (i + 1)).toInt]) (rest := []) hx hb hml hown hts hap hK hN hSX (by decide) rfl sw_law_138 rfl (Nat.le_of_ble_eq_true rfl) rfl (okl.cons (i32r _) (fun _ h9 => absurd h9 List.not_mem_nil)) hh hl.1 hP hS hkc hks (Nat.zero_le _) hrun dL_1214 (fun r h1 H1 locs1 hq hP1 hh1 hor1 hS1 => ?_)
  obtain ⟨z, rfl, hrun2⟩ := hq
  have hS := hS1
  refine lv_aload_n hx hb dL_1217 rfl (lv_at hl 2 rfl) ?_
  refine ld_arg (pc := 1218) (j := 1) (n := 1) (q0 := 0) (q1 := 0) (q2 := 0) hx hb hX hbl hbA hS rfl (lv_at hl 0 rfl) (lv_at hl 3 rfl) (by omega) hL dL_1218 dL_1219 dL_1220 dL_1221 dL_1222 ?_
  refine law_inv (o := 84) (a := 289) (idx := 141) (av := [vI (xs (i + 1)).toInt]) (rest := [cv ads (vI z)]) hx hb hml hown hts hap hK hN hSX (by decide) rfl sw_law_141 rfl (Nat.le_of_ble_eq_true rfl) rfl (okl.cons (i32r _) (fun _ h9 => absurd h9 List.not_mem_nil)) hh1 hl.1 hP1 hS hkc hks (Nat.le_of_ble_eq_true rfl) hrun2 dL_1223 (fun r2 h2 H2 locs2 hq2 hP2 hh2 hor2 hS2 => ?_)
  obtain ⟨rfl, hI2⟩ := hq2
  refine lv_icmp_eq (tgt := 1736) hx hb dL_1226 (by decide) (fun _ => next h2 H2 locs2 hP2 hh2 hI2 hS2) (fun c9 => absurd rfl c9)
theorem sw_law_142 : Cond.methodLink "ThimbleLawLaw" 142 (mNm 141) ∈ BIG := big_of (tpA_in (q := (4, 209)) rfl) rfl
theorem sw_law_145 : Cond.methodLink "ThimbleLawLaw" 145 (mNm 290) ∈ BIG := big_of (tpA_in (q := (7, 230)) rfl) rfl
set_option maxHeartbeats 4000000 in
theorem law_case_30 {p : Program} {l : Launch} {e : Env} {s : State} {m : MethodId} {below : List Frame} {meth : Method} {c : Code} {b L : Nat} {xs : Nat → Int32} {ads : Nat → Nat} {cA : Nat → ClassId} {D : va_G} {Inv : Nat → Hp → Prop} {QQ : State → Prop} {kc ks : Nat} (hkc : kc ≤ 600000) (hks : ks ≤ 7302250) (hH : LawH p s m meth c b L xs ads cA D) (hop : op_year Inv) {H : Heap} {ls : Array Slot} {h : Hp} {i : Nat} (hi : i + 6 ≤ L) (hl : lv_has ls 4 [(0, .ref b), (1, .ref (ads 0)), (2, .ref (ads 84)), (3, .int (Int32.ofInt (i : Int)))]) (hP : va_P D fcs (wld ads cA h) H) (hh : okh h) (hI : Inv (i / 6) h) (hS : va_S (inA ads) s.heap H [])
    (next : ∀ (h2 : Hp) (H2 : Heap) (locs2 : List Loc), va_P D fcs (wld ads cA h2) H2 → okh h2 → Inv (i / 6 + 1) h2 → va_S (inA ads) s.heap H2 locs2 → W p l e room_1 s m #[Value.ref b] below meth c H2 locs2 kc ks QQ (F0 m 1736 ls [])) :
    W p l e room_1 s m #[Value.ref b] below meth c H [] kc ks QQ (F0 m 1231 ls []) := by
  obtain ⟨hx, hb, hml, hown, hts, hX, hbl, hL, hap, hK, hN, hSX, hge⟩ := hH
  have hbA : ¬ inA ads b := fun ⟨o, ho, e⟩ => by have := hge o ho; omega
  have hxr : inX (fun j => (xs (i + j)).toInt) := fun j => i32r _
  have hrun := hop (fun j => (xs (i + j)).toInt) hxr (i / 6) (by omega) h hI hh
  refine lv_aload_n hx hb dL_1231 rfl (lv_at hl 1 rfl) ?_
  refine ld_arg (pc := 1232) (j := 1) (n := 1) (q0 := 0) (q1 := 0) (q2 := 0) hx hb hX hbl hbA hS rfl (lv_at hl 0 rfl) (lv_at hl 3 rfl) (by omega) hL dL_1232 dL_1233 dL_1234 dL_1235 dL_1236 ?_
  refine ld_arg (pc := 1237) (j := 2) (n := 2) (q0 := 0) (q1 := 0) (q2 := 0) hx hb hX hbl hbA hS rfl (lv_at hl 0 rfl) (lv_at hl 3 rfl) (by omega) hL dL_1237 dL_1238 dL_1239 dL_1240 dL_1241 ?_
  refine law_inv (o := 0) (a := 141) (idx := 142) (av := [vI (xs (i + 1)).toInt, vI (xs (i + 2)).toInt]) (rest := []) hx hb hml hown hts hap hK hN hSX (by decide) rfl sw_law_142 rfl (Nat.le_of_ble_eq_true rfl) rfl (okl.cons (i32r _) (okl.cons (i32r _) (fun _ h9 => absurd h9 List.not_mem_nil))) hh hl.1 hP hS hkc hks (Nat.zero_le _) hrun dL_1242 (fun r h1 H1 locs1 hq hP1 hh1 hor1 hS1 => ?_)
  obtain ⟨z, rfl, hrun2⟩ := hq
  have hS := hS1
  refine lv_aload_n hx hb dL_1245 rfl (lv_at hl 2 rfl) ?_
  refine ld_arg (pc := 1246) (j := 1) (n := 1) (q0 := 0) (q1 := 0) (q2 := 0) hx hb hX hbl hbA hS rfl (lv_at hl 0 rfl) (lv_at hl 3 rfl) (by omega) hL dL_1246 dL_1247 dL_1248 dL_1249 dL_1250 ?_
  refine ld_arg (pc := 1251) (j := 2) (n := 2) (q0 := 0) (q1 := 0) (q2 := 0) hx hb hX hbl hbA hS rfl (lv_at hl 0 rfl) (lv_at hl 3 rfl) (by omega) hL dL_1251 dL_1252 dL_1253 dL_1254 dL_1255 ?_
  refine law_inv (o := 84) (a := 290) (idx := 145) (av := [vI (xs (i + 1)).toInt, vI (xs (i + 2)).toInt]) (rest := [cv ads (vI z)]) hx hb hml hown hts hap hK hN hSX (by decide) rfl sw_law_145 rfl (Nat.le_of_ble_eq_true rfl) rfl (okl.cons (i32r _) (okl.cons (i32r _) (fun _ h9 => absurd h9 List.not_mem_nil))) hh1 hl.1 hP1 hS hkc hks (Nat.le_of_ble_eq_true rfl) hrun2 dL_1256 (fun r2 h2 H2 locs2 hq2 hP2 hh2 hor2 hS2 => ?_)
  obtain ⟨rfl, hI2⟩ := hq2
  refine lv_icmp_eq (tgt := 1736) hx hb dL_1259 (by decide) (fun _ => next h2 H2 locs2 hP2 hh2 hI2 hS2) (fun c9 => absurd rfl c9)
theorem sw_law_146 : Cond.methodLink "ThimbleLawLaw" 146 (mNm 142) ∈ BIG := big_of (tpA_in (q := (4, 213)) rfl) rfl
theorem sw_law_149 : Cond.methodLink "ThimbleLawLaw" 149 (mNm 292) ∈ BIG := big_of (tpA_in (q := (7, 234)) rfl) rfl
set_option maxHeartbeats 4000000 in
theorem law_case_31 {p : Program} {l : Launch} {e : Env} {s : State} {m : MethodId} {below : List Frame} {meth : Method} {c : Code} {b L : Nat} {xs : Nat → Int32} {ads : Nat → Nat} {cA : Nat → ClassId} {D : va_G} {Inv : Nat → Hp → Prop} {QQ : State → Prop} {kc ks : Nat} (hkc : kc ≤ 600000) (hks : ks ≤ 7302250) (hH : LawH p s m meth c b L xs ads cA D) (hop : op_shrunk Inv) {H : Heap} {ls : Array Slot} {h : Hp} {i : Nat} (hi : i + 6 ≤ L) (hl : lv_has ls 4 [(0, .ref b), (1, .ref (ads 0)), (2, .ref (ads 84)), (3, .int (Int32.ofInt (i : Int)))]) (hP : va_P D fcs (wld ads cA h) H) (hh : okh h) (hI : Inv (i / 6) h) (hS : va_S (inA ads) s.heap H [])
    (next : ∀ (h2 : Hp) (H2 : Heap) (locs2 : List Loc), va_P D fcs (wld ads cA h2) H2 → okh h2 → Inv (i / 6 + 1) h2 → va_S (inA ads) s.heap H2 locs2 → W p l e room_1 s m #[Value.ref b] below meth c H2 locs2 kc ks QQ (F0 m 1736 ls [])) :
    W p l e room_1 s m #[Value.ref b] below meth c H [] kc ks QQ (F0 m 1264 ls []) := by
  obtain ⟨hx, hb, hml, hown, hts, hX, hbl, hL, hap, hK, hN, hSX, hge⟩ := hH
  have hbA : ¬ inA ads b := fun ⟨o, ho, e⟩ => by have := hge o ho; omega
  have hxr : inX (fun j => (xs (i + j)).toInt) := fun j => i32r _
  have hrun := hop (fun j => (xs (i + j)).toInt) hxr (i / 6) (by omega) h hI hh
  refine lv_aload_n hx hb dL_1264 rfl (lv_at hl 1 rfl) ?_
  refine ld_arg (pc := 1265) (j := 1) (n := 1) (q0 := 0) (q1 := 0) (q2 := 0) hx hb hX hbl hbA hS rfl (lv_at hl 0 rfl) (lv_at hl 3 rfl) (by omega) hL dL_1265 dL_1266 dL_1267 dL_1268 dL_1269 ?_
  refine law_inv (o := 0) (a := 142) (idx := 146) (av := [vI (xs (i + 1)).toInt]) (rest := []) hx hb hml hown hts hap hK hN hSX (by decide) rfl sw_law_146 rfl (Nat.le_of_ble_eq_true rfl) rfl (okl.cons (i32r _) (fun _ h9 => absurd h9 List.not_mem_nil)) hh hl.1 hP hS hkc hks (Nat.zero_le _) hrun dL_1270 (fun r h1 H1 locs1 hq hP1 hh1 hor1 hS1 => ?_)
  obtain ⟨z, rfl, hrun2⟩ := hq
  have hS := hS1
  refine lv_aload_n hx hb dL_1273 rfl (lv_at hl 2 rfl) ?_
  refine ld_arg (pc := 1274) (j := 1) (n := 1) (q0 := 0) (q1 := 0) (q2 := 0) hx hb hX hbl hbA hS rfl (lv_at hl 0 rfl) (lv_at hl 3 rfl) (by omega) hL dL_1274 dL_1275 dL_1276 dL_1277 dL_1278 ?_
  refine law_inv (o := 84) (a := 292) (idx := 149) (av := [vI (xs (i + 1)).toInt]) (rest := [cv ads (vI z)]) hx hb hml hown hts hap hK hN hSX (by decide) rfl sw_law_149 rfl (Nat.le_of_ble_eq_true rfl) rfl (okl.cons (i32r _) (fun _ h9 => absurd h9 List.not_mem_nil)) hh1 hl.1 hP1 hS hkc hks (Nat.le_of_ble_eq_true rfl) hrun2 dL_1279 (fun r2 h2 H2 locs2 hq2 hP2 hh2 hor2 hS2 => ?_)
  obtain ⟨rfl, hI2⟩ := hq2
  refine lv_icmp_eq (tgt := 1736) hx hb dL_1282 (by decide) (fun _ => next h2 H2 locs2 hP2 hh2 hI2 hS2) (fun c9 => absurd rfl c9)
theorem sw_law_150 : Cond.methodLink "ThimbleLawLaw" 150 (mNm 143) ∈ BIG := big_of (tpA_in (q := (4, 226)) rfl) rfl
theorem sw_law_153 : Cond.methodLink "ThimbleLawLaw" 153 (mNm 294) ∈ BIG := big_of (tpA_in (q := (8, 2)) rfl) rfl
set_option maxHeartbeats 4000000 in
theorem law_case_32 {p : Program} {l : Launch} {e : Env} {s : State} {m : MethodId} {below : List Frame} {meth : Method} {c : Code} {b L : Nat} {xs : Nat → Int32} {ads : Nat → Nat} {cA : Nat → ClassId} {D : va_G} {Inv : Nat → Hp → Prop} {QQ : State → Prop} {kc ks : Nat} (hkc : kc ≤ 600000) (hks : ks ≤ 7302250) (hH : LawH p s m meth c b L xs ads cA D) (hop : op_wouldTell Inv) {H : Heap} {ls : Array Slot} {h : Hp} {i : Nat} (hi : i + 6 ≤ L) (hl : lv_has ls 4 [(0, .ref b), (1, .ref (ads 0)), (2, .ref (ads 84)), (3, .int (Int32.ofInt (i : Int)))]) (hP : va_P D fcs (wld ads cA h) H) (hh : okh h) (hI : Inv (i / 6) h) (hS : va_S (inA ads) s.heap H [])
    (next : ∀ (h2 : Hp) (H2 : Heap) (locs2 : List Loc), va_P D fcs (wld ads cA h2) H2 → okh h2 → Inv (i / 6 + 1) h2 → va_S (inA ads) s.heap H2 locs2 → W p l e room_1 s m #[Value.ref b] below meth c H2 locs2 kc ks QQ (F0 m 1736 ls [])) :
    W p l e room_1 s m #[Value.ref b] below meth c H [] kc ks QQ (F0 m 1287 ls []) := by
  obtain ⟨hx, hb, hml, hown, hts, hX, hbl, hL, hap, hK, hN, hSX, hge⟩ := hH
  have hbA : ¬ inA ads b := fun ⟨o, ho, e⟩ => by have := hge o ho; omega
  have hxr : inX (fun j => (xs (i + j)).toInt) := fun j => i32r _
  have hrun := hop (fun j => (xs (i + j)).toInt) hxr (i / 6) (by omega) h hI hh
  refine lv_aload_n hx hb dL_1287 rfl (lv_at hl 1 rfl) ?_
  refine law_inv (o := 0) (a := 143) (idx := 150) (av := []) (rest := []) hx hb hml hown hts hap hK hN hSX (by decide) rfl sw_law_150 rfl (Nat.le_of_ble_eq_true rfl) rfl (fun _ h9 => absurd h9 List.not_mem_nil) hh hl.1 hP hS hkc hks (Nat.zero_le _) hrun dL_1288 (fun r h1 H1 locs1 hq hP1 hh1 hor1 hS1 => ?_)
  obtain ⟨z, rfl, hrun2⟩ := hq
  have hS := hS1
  refine lv_aload_n hx hb dL_1291 rfl (lv_at hl 2 rfl) ?_
  refine law_inv (o := 84) (a := 294) (idx := 153) (av := []) (rest := [cv ads (vI z)]) hx hb hml hown hts hap hK hN hSX (by decide) rfl sw_law_153 rfl (Nat.le_of_ble_eq_true rfl) rfl (fun _ h9 => absurd h9 List.not_mem_nil) hh1 hl.1 hP1 hS hkc hks (Nat.le_of_ble_eq_true rfl) hrun2 dL_1292 (fun r2 h2 H2 locs2 hq2 hP2 hh2 hor2 hS2 => ?_)
  obtain ⟨rfl, hI2⟩ := hq2
  refine lv_icmp_eq (tgt := 1736) hx hb dL_1295 (by decide) (fun _ => next h2 H2 locs2 hP2 hh2 hI2 hS2) (fun c9 => absurd rfl c9)
theorem sw_law_154 : Cond.methodLink "ThimbleLawLaw" 154 (mNm 144) ∈ BIG := big_of (tpA_in (q := (4, 238)) rfl) rfl
theorem sw_law_158 : Cond.methodLink "ThimbleLawLaw" 158 (mNm 296) ∈ BIG := big_of (tpA_in (q := (8, 10)) rfl) rfl
set_option maxHeartbeats 4000000 in
theorem law_case_33 {p : Program} {l : Launch} {e : Env} {s : State} {m : MethodId} {below : List Frame} {meth : Method} {c : Code} {b L : Nat} {xs : Nat → Int32} {ads : Nat → Nat} {cA : Nat → ClassId} {D : va_G} {Inv : Nat → Hp → Prop} {QQ : State → Prop} {kc ks : Nat} (hkc : kc ≤ 600000) (hks : ks ≤ 7302250) (hH : LawH p s m meth c b L xs ads cA D) (hop : op_against Inv) {H : Heap} {ls : Array Slot} {h : Hp} {i : Nat} (hi : i + 6 ≤ L) (hl : lv_has ls 4 [(0, .ref b), (1, .ref (ads 0)), (2, .ref (ads 84)), (3, .int (Int32.ofInt (i : Int)))]) (hP : va_P D fcs (wld ads cA h) H) (hh : okh h) (hI : Inv (i / 6) h) (hS : va_S (inA ads) s.heap H [])
    (next : ∀ (h2 : Hp) (H2 : Heap) (locs2 : List Loc), va_P D fcs (wld ads cA h2) H2 → okh h2 → Inv (i / 6 + 1) h2 → va_S (inA ads) s.heap H2 locs2 → W p l e room_1 s m #[Value.ref b] below meth c H2 locs2 kc ks QQ (F0 m 1736 ls [])) :
    W p l e room_1 s m #[Value.ref b] below meth c H [] kc ks QQ (F0 m 1300 ls []) := by
  obtain ⟨hx, hb, hml, hown, hts, hX, hbl, hL, hap, hK, hN, hSX, hge⟩ := hH
  have hbA : ¬ inA ads b := fun ⟨o, ho, e⟩ => by have := hge o ho; omega
  have hxr : inX (fun j => (xs (i + j)).toInt) := fun j => i32r _
  have hrun := hop (fun j => (xs (i + j)).toInt) hxr (i / 6) (by omega) h hI hh
  refine lv_aload_n hx hb dL_1300 rfl (lv_at hl 1 rfl) ?_
  refine ld_arg (pc := 1301) (j := 1) (n := 1) (q0 := 0) (q1 := 0) (q2 := 0) hx hb hX hbl hbA hS rfl (lv_at hl 0 rfl) (lv_at hl 3 rfl) (by omega) hL dL_1301 dL_1302 dL_1303 dL_1304 dL_1305 ?_
  refine ld_arg (pc := 1306) (j := 2) (n := 2) (q0 := 0) (q1 := 0) (q2 := 0) hx hb hX hbl hbA hS rfl (lv_at hl 0 rfl) (lv_at hl 3 rfl) (by omega) hL dL_1306 dL_1307 dL_1308 dL_1309 dL_1310 ?_
  refine ld_bool (pc := 1311) (j := 3) (n := 3) hx hb hX hbl hbA hS rfl (lv_at hl 0 rfl) (lv_at hl 3 rfl) (by omega) hL dL_1311 dL_1312 dL_1313 dL_1314 dL_1315 dL_1316 dL_1319 dL_1320 dL_1323 ?_
  refine law_inv (o := 0) (a := 144) (idx := 154) (av := [vI (xs (i + 1)).toInt, vI (xs (i + 2)).toInt, vI (nzI (xs (i + 3)).toInt)]) (rest := []) hx hb hml hown hts hap hK hN hSX (by decide) rfl sw_law_154 rfl (Nat.le_of_ble_eq_true rfl) rfl (okl.cons (i32r _) (okl.cons (i32r _) (okl.cons (nzI_r _) (fun _ h9 => absurd h9 List.not_mem_nil)))) hh hl.1 hP hS hkc hks (Nat.zero_le _) hrun dL_1324 (fun r h1 H1 locs1 hq hP1 hh1 hor1 hS1 => ?_)
  obtain ⟨z, rfl, hrun2⟩ := hq
  have hS := hS1
  refine lv_aload_n hx hb dL_1327 rfl (lv_at hl 2 rfl) ?_
  refine ld_arg (pc := 1328) (j := 1) (n := 1) (q0 := 0) (q1 := 0) (q2 := 0) hx hb hX hbl hbA hS rfl (lv_at hl 0 rfl) (lv_at hl 3 rfl) (by omega) hL dL_1328 dL_1329 dL_1330 dL_1331 dL_1332 ?_
  refine ld_arg (pc := 1333) (j := 2) (n := 2) (q0 := 0) (q1 := 0) (q2 := 0) hx hb hX hbl hbA hS rfl (lv_at hl 0 rfl) (lv_at hl 3 rfl) (by omega) hL dL_1333 dL_1334 dL_1335 dL_1336 dL_1337 ?_
  refine ld_bool (pc := 1338) (j := 3) (n := 3) hx hb hX hbl hbA hS rfl (lv_at hl 0 rfl) (lv_at hl 3 rfl) (by omega) hL dL_1338 dL_1339 dL_1340 dL_1341 dL_1342 dL_1343 dL_1346 dL_1347 dL_1350 ?_
  refine law_inv (o := 84) (a := 296) (idx := 158) (av := [vI (xs (i + 1)).toInt, vI (xs (i + 2)).toInt, vI (nzI (xs (i + 3)).toInt)]) (rest := [cv ads (vI z)]) hx hb hml hown hts hap hK hN hSX (by decide) rfl sw_law_158 rfl (Nat.le_of_ble_eq_true rfl) rfl (okl.cons (i32r _) (okl.cons (i32r _) (okl.cons (nzI_r _) (fun _ h9 => absurd h9 List.not_mem_nil)))) hh1 hl.1 hP1 hS hkc hks (Nat.le_of_ble_eq_true rfl) hrun2 dL_1351 (fun r2 h2 H2 locs2 hq2 hP2 hh2 hor2 hS2 => ?_)
  obtain ⟨rfl, hI2⟩ := hq2
  refine lv_icmp_eq (tgt := 1736) hx hb dL_1354 (by decide) (fun _ => next h2 H2 locs2 hP2 hh2 hI2 hS2) (fun c9 => absurd rfl c9)
theorem sw_law_159 : Cond.methodLink "ThimbleLawLaw" 159 (mNm 145) ∈ BIG := big_of (tpA_in (q := (5, 14)) rfl) rfl
theorem sw_law_163 : Cond.methodLink "ThimbleLawLaw" 163 (mNm 299) ∈ BIG := big_of (tpA_in (q := (8, 18)) rfl) rfl
set_option maxHeartbeats 4000000 in
theorem law_case_34 {p : Program} {l : Launch} {e : Env} {s : State} {m : MethodId} {below : List Frame} {meth : Method} {c : Code} {b L : Nat} {xs : Nat → Int32} {ads : Nat → Nat} {cA : Nat → ClassId} {D : va_G} {Inv : Nat → Hp → Prop} {QQ : State → Prop} {kc ks : Nat} (hkc : kc ≤ 600000) (hks : ks ≤ 7302250) (hH : LawH p s m meth c b L xs ads cA D) (hop : op_even Inv) {H : Heap} {ls : Array Slot} {h : Hp} {i : Nat} (hi : i + 6 ≤ L) (hl : lv_has ls 4 [(0, .ref b), (1, .ref (ads 0)), (2, .ref (ads 84)), (3, .int (Int32.ofInt (i : Int)))]) (hP : va_P D fcs (wld ads cA h) H) (hh : okh h) (hI : Inv (i / 6) h) (hS : va_S (inA ads) s.heap H [])
    (next : ∀ (h2 : Hp) (H2 : Heap) (locs2 : List Loc), va_P D fcs (wld ads cA h2) H2 → okh h2 → Inv (i / 6 + 1) h2 → va_S (inA ads) s.heap H2 locs2 → W p l e room_1 s m #[Value.ref b] below meth c H2 locs2 kc ks QQ (F0 m 1736 ls [])) :
    W p l e room_1 s m #[Value.ref b] below meth c H [] kc ks QQ (F0 m 1359 ls []) := by
  obtain ⟨hx, hb, hml, hown, hts, hX, hbl, hL, hap, hK, hN, hSX, hge⟩ := hH
  have hbA : ¬ inA ads b := fun ⟨o, ho, e⟩ => by have := hge o ho; omega
  have hxr : inX (fun j => (xs (i + j)).toInt) := fun j => i32r _
  have hrun := hop (fun j => (xs (i + j)).toInt) hxr (i / 6) (by omega) h hI hh
  refine lv_aload_n hx hb dL_1359 rfl (lv_at hl 1 rfl) ?_
  refine ld_arg (pc := 1360) (j := 1) (n := 1) (q0 := 0) (q1 := 0) (q2 := 0) hx hb hX hbl hbA hS rfl (lv_at hl 0 rfl) (lv_at hl 3 rfl) (by omega) hL dL_1360 dL_1361 dL_1362 dL_1363 dL_1364 ?_
  refine ld_bool (pc := 1365) (j := 2) (n := 2) hx hb hX hbl hbA hS rfl (lv_at hl 0 rfl) (lv_at hl 3 rfl) (by omega) hL dL_1365 dL_1366 dL_1367 dL_1368 dL_1369 dL_1370 dL_1373 dL_1374 dL_1377 ?_
  refine law_inv (o := 0) (a := 145) (idx := 159) (av := [vI (xs (i + 1)).toInt, vI (nzI (xs (i + 2)).toInt)]) (rest := []) hx hb hml hown hts hap hK hN hSX (by decide) rfl sw_law_159 rfl (Nat.le_of_ble_eq_true rfl) rfl (okl.cons (i32r _) (okl.cons (nzI_r _) (fun _ h9 => absurd h9 List.not_mem_nil))) hh hl.1 hP hS hkc hks (Nat.zero_le _) hrun dL_1378 (fun r h1 H1 locs1 hq hP1 hh1 hor1 hS1 => ?_)
  obtain ⟨z, rfl, hrun2⟩ := hq
  have hS := hS1
  refine lv_aload_n hx hb dL_1381 rfl (lv_at hl 2 rfl) ?_
  refine ld_arg (pc := 1382) (j := 1) (n := 1) (q0 := 0) (q1 := 0) (q2 := 0) hx hb hX hbl hbA hS rfl (lv_at hl 0 rfl) (lv_at hl 3 rfl) (by omega) hL dL_1382 dL_1383 dL_1384 dL_1385 dL_1386 ?_
  refine ld_bool (pc := 1387) (j := 2) (n := 2) hx hb hX hbl hbA hS rfl (lv_at hl 0 rfl) (lv_at hl 3 rfl) (by omega) hL dL_1387 dL_1388 dL_1389 dL_1390 dL_1391 dL_1392 dL_1395 dL_1396 dL_1399 ?_
  refine law_inv (o := 84) (a := 299) (idx := 163) (av := [vI (xs (i + 1)).toInt, vI (nzI (xs (i + 2)).toInt)]) (rest := [cv ads (vI z)]) hx hb hml hown hts hap hK hN hSX (by decide) rfl sw_law_163 rfl (Nat.le_of_ble_eq_true rfl) rfl (okl.cons (i32r _) (okl.cons (nzI_r _) (fun _ h9 => absurd h9 List.not_mem_nil))) hh1 hl.1 hP1 hS hkc hks (Nat.le_of_ble_eq_true rfl) hrun2 dL_1400 (fun r2 h2 H2 locs2 hq2 hP2 hh2 hor2 hS2 => ?_)
  obtain ⟨rfl, hI2⟩ := hq2
  refine lv_icmp_eq (tgt := 1736) hx hb dL_1403 (by decide) (fun _ => next h2 H2 locs2 hP2 hh2 hI2 hS2) (fun c9 => absurd rfl c9)
theorem sw_law_164 : Cond.methodLink "ThimbleLawLaw" 164 (mNm 146) ∈ BIG := big_of (tpA_in (q := (5, 28)) rfl) rfl
theorem sw_law_167 : Cond.methodLink "ThimbleLawLaw" 167 (mNm 269) ∈ BIG := big_of (tpA_in (q := (7, 140)) rfl) rfl
set_option maxHeartbeats 4000000 in
theorem law_case_35 {p : Program} {l : Launch} {e : Env} {s : State} {m : MethodId} {below : List Frame} {meth : Method} {c : Code} {b L : Nat} {xs : Nat → Int32} {ads : Nat → Nat} {cA : Nat → ClassId} {D : va_G} {Inv : Nat → Hp → Prop} {QQ : State → Prop} {kc ks : Nat} (hkc : kc ≤ 600000) (hks : ks ≤ 7302250) (hH : LawH p s m meth c b L xs ads cA D) (hop : op_worst Inv) {H : Heap} {ls : Array Slot} {h : Hp} {i : Nat} (hi : i + 6 ≤ L) (hl : lv_has ls 4 [(0, .ref b), (1, .ref (ads 0)), (2, .ref (ads 84)), (3, .int (Int32.ofInt (i : Int)))]) (hP : va_P D fcs (wld ads cA h) H) (hh : okh h) (hI : Inv (i / 6) h) (hS : va_S (inA ads) s.heap H [])
    (next : ∀ (h2 : Hp) (H2 : Heap) (locs2 : List Loc), va_P D fcs (wld ads cA h2) H2 → okh h2 → Inv (i / 6 + 1) h2 → va_S (inA ads) s.heap H2 locs2 → W p l e room_1 s m #[Value.ref b] below meth c H2 locs2 kc ks QQ (F0 m 1736 ls [])) :
    W p l e room_1 s m #[Value.ref b] below meth c H [] kc ks QQ (F0 m 1408 ls []) := by
  obtain ⟨hx, hb, hml, hown, hts, hX, hbl, hL, hap, hK, hN, hSX, hge⟩ := hH
  have hbA : ¬ inA ads b := fun ⟨o, ho, e⟩ => by have := hge o ho; omega
  have hxr : inX (fun j => (xs (i + j)).toInt) := fun j => i32r _
  have hrun := hop (fun j => (xs (i + j)).toInt) hxr (i / 6) (by omega) h hI hh
  refine lv_aload_n hx hb dL_1408 rfl (lv_at hl 1 rfl) ?_
  refine law_inv (o := 0) (a := 146) (idx := 164) (av := []) (rest := []) hx hb hml hown hts hap hK hN hSX (by decide) rfl sw_law_164 rfl (Nat.le_of_ble_eq_true rfl) rfl (fun _ h9 => absurd h9 List.not_mem_nil) hh hl.1 hP hS hkc hks (Nat.zero_le _) hrun dL_1409 (fun r h1 H1 locs1 hq hP1 hh1 hor1 hS1 => ?_)
  obtain ⟨z, rfl, hrun2⟩ := hq
  have hS := hS1
  refine lv_aload_n hx hb dL_1412 rfl (lv_at hl 2 rfl) ?_
  refine law_inv (o := 84) (a := 269) (idx := 167) (av := []) (rest := [cv ads (vI z)]) hx hb hml hown hts hap hK hN hSX (by decide) rfl sw_law_167 rfl (Nat.le_of_ble_eq_true rfl) rfl (fun _ h9 => absurd h9 List.not_mem_nil) hh1 hl.1 hP1 hS hkc hks (Nat.le_of_ble_eq_true rfl) hrun2 dL_1413 (fun r2 h2 H2 locs2 hq2 hP2 hh2 hor2 hS2 => ?_)
  obtain ⟨rfl, hI2⟩ := hq2
  refine lv_icmp_eq (tgt := 1736) hx hb dL_1416 (by decide) (fun _ => next h2 H2 locs2 hP2 hh2 hI2 hS2) (fun c9 => absurd rfl c9)
theorem sw_law_168 : Cond.methodLink "ThimbleLawLaw" 168 (mNm 147) ∈ BIG := big_of (tpA_in (q := (5, 35)) rfl) rfl
theorem sw_law_171 : Cond.methodLink "ThimbleLawLaw" 171 (mNm 270) ∈ BIG := big_of (tpA_in (q := (7, 148)) rfl) rfl
set_option maxHeartbeats 4000000 in
theorem law_case_36 {p : Program} {l : Launch} {e : Env} {s : State} {m : MethodId} {below : List Frame} {meth : Method} {c : Code} {b L : Nat} {xs : Nat → Int32} {ads : Nat → Nat} {cA : Nat → ClassId} {D : va_G} {Inv : Nat → Hp → Prop} {QQ : State → Prop} {kc ks : Nat} (hkc : kc ≤ 600000) (hks : ks ≤ 7302250) (hH : LawH p s m meth c b L xs ads cA D) (hop : op_moreDents Inv) {H : Heap} {ls : Array Slot} {h : Hp} {i : Nat} (hi : i + 6 ≤ L) (hl : lv_has ls 4 [(0, .ref b), (1, .ref (ads 0)), (2, .ref (ads 84)), (3, .int (Int32.ofInt (i : Int)))]) (hP : va_P D fcs (wld ads cA h) H) (hh : okh h) (hI : Inv (i / 6) h) (hS : va_S (inA ads) s.heap H [])
    (next : ∀ (h2 : Hp) (H2 : Heap) (locs2 : List Loc), va_P D fcs (wld ads cA h2) H2 → okh h2 → Inv (i / 6 + 1) h2 → va_S (inA ads) s.heap H2 locs2 → W p l e room_1 s m #[Value.ref b] below meth c H2 locs2 kc ks QQ (F0 m 1736 ls [])) :
    W p l e room_1 s m #[Value.ref b] below meth c H [] kc ks QQ (F0 m 1421 ls []) := by
  obtain ⟨hx, hb, hml, hown, hts, hX, hbl, hL, hap, hK, hN, hSX, hge⟩ := hH
  have hbA : ¬ inA ads b := fun ⟨o, ho, e⟩ => by have := hge o ho; omega
  have hxr : inX (fun j => (xs (i + j)).toInt) := fun j => i32r _
  have hrun := hop (fun j => (xs (i + j)).toInt) hxr (i / 6) (by omega) h hI hh
  refine lv_aload_n hx hb dL_1421 rfl (lv_at hl 1 rfl) ?_
  refine ld_arg (pc := 1422) (j := 1) (n := 1) (q0 := 0) (q1 := 0) (q2 := 0) hx hb hX hbl hbA hS rfl (lv_at hl 0 rfl) (lv_at hl 3 rfl) (by omega) hL dL_1422 dL_1423 dL_1424 dL_1425 dL_1426 ?_
  refine law_inv (o := 0) (a := 147) (idx := 168) (av := [vI (xs (i + 1)).toInt]) (rest := []) hx hb hml hown hts hap hK hN hSX (by decide) rfl sw_law_168 rfl (Nat.le_of_ble_eq_true rfl) rfl (okl.cons (i32r _) (fun _ h9 => absurd h9 List.not_mem_nil)) hh hl.1 hP hS hkc hks (Nat.zero_le _) hrun dL_1427 (fun r h1 H1 locs1 hq hP1 hh1 hor1 hS1 => ?_)
  obtain ⟨z, rfl, hrun2⟩ := hq
  have hS := hS1
  refine lv_aload_n hx hb dL_1430 rfl (lv_at hl 2 rfl) ?_
  refine ld_arg (pc := 1431) (j := 1) (n := 1) (q0 := 0) (q1 := 0) (q2 := 0) hx hb hX hbl hbA hS rfl (lv_at hl 0 rfl) (lv_at hl 3 rfl) (by omega) hL dL_1431 dL_1432 dL_1433 dL_1434 dL_1435 ?_
  refine law_inv (o := 84) (a := 270) (idx := 171) (av := [vI (xs (i + 1)).toInt]) (rest := [cv ads (vI z)]) hx hb hml hown hts hap hK hN hSX (by decide) rfl sw_law_171 rfl (Nat.le_of_ble_eq_true rfl) rfl (okl.cons (i32r _) (fun _ h9 => absurd h9 List.not_mem_nil)) hh1 hl.1 hP1 hS hkc hks (Nat.le_of_ble_eq_true rfl) hrun2 dL_1436 (fun r2 h2 H2 locs2 hq2 hP2 hh2 hor2 hS2 => ?_)
  obtain ⟨rfl, hI2⟩ := hq2
  refine lv_icmp_eq (tgt := 1736) hx hb dL_1439 (by decide) (fun _ => next h2 H2 locs2 hP2 hh2 hI2 hS2) (fun c9 => absurd rfl c9)
theorem sw_law_172 : Cond.methodLink "ThimbleLawLaw" 172 (mNm 148) ∈ BIG := big_of (tpA_in (q := (5, 43)) rfl) rfl
theorem sw_law_175 : Cond.methodLink "ThimbleLawLaw" 175 (mNm 271) ∈ BIG := big_of (tpA_in (q := (7, 152)) rfl) rfl
set_option maxHeartbeats 4000000 in
theorem law_case_37 {p : Program} {l : Launch} {e : Env} {s : State} {m : MethodId} {below : List Frame} {meth : Method} {c : Code} {b L : Nat} {xs : Nat → Int32} {ads : Nat → Nat} {cA : Nat → ClassId} {D : va_G} {Inv : Nat → Hp → Prop} {QQ : State → Prop} {kc ks : Nat} (hkc : kc ≤ 600000) (hks : ks ≤ 7302250) (hH : LawH p s m meth c b L xs ads cA D) (hop : op_cases Inv) {H : Heap} {ls : Array Slot} {h : Hp} {i : Nat} (hi : i + 6 ≤ L) (hl : lv_has ls 4 [(0, .ref b), (1, .ref (ads 0)), (2, .ref (ads 84)), (3, .int (Int32.ofInt (i : Int)))]) (hP : va_P D fcs (wld ads cA h) H) (hh : okh h) (hI : Inv (i / 6) h) (hS : va_S (inA ads) s.heap H [])
    (next : ∀ (h2 : Hp) (H2 : Heap) (locs2 : List Loc), va_P D fcs (wld ads cA h2) H2 → okh h2 → Inv (i / 6 + 1) h2 → va_S (inA ads) s.heap H2 locs2 → W p l e room_1 s m #[Value.ref b] below meth c H2 locs2 kc ks QQ (F0 m 1736 ls [])) :
    W p l e room_1 s m #[Value.ref b] below meth c H [] kc ks QQ (F0 m 1444 ls []) := by
  obtain ⟨hx, hb, hml, hown, hts, hX, hbl, hL, hap, hK, hN, hSX, hge⟩ := hH
  have hbA : ¬ inA ads b := fun ⟨o, ho, e⟩ => by have := hge o ho; omega
  have hxr : inX (fun j => (xs (i + j)).toInt) := fun j => i32r _
  have hrun := hop (fun j => (xs (i + j)).toInt) hxr (i / 6) (by omega) h hI hh
  refine lv_aload_n hx hb dL_1444 rfl (lv_at hl 1 rfl) ?_
  refine ld_arg (pc := 1445) (j := 1) (n := 1) (q0 := 0) (q1 := 0) (q2 := 0) hx hb hX hbl hbA hS rfl (lv_at hl 0 rfl) (lv_at hl 3 rfl) (by omega) hL dL_1445 dL_1446 dL_1447 dL_1448 dL_1449 ?_
  refine law_inv (o := 0) (a := 148) (idx := 172) (av := [vI (xs (i + 1)).toInt]) (rest := []) hx hb hml hown hts hap hK hN hSX (by decide) rfl sw_law_172 rfl (Nat.le_of_ble_eq_true rfl) rfl (okl.cons (i32r _) (fun _ h9 => absurd h9 List.not_mem_nil)) hh hl.1 hP hS hkc hks (Nat.zero_le _) hrun dL_1450 (fun r h1 H1 locs1 hq hP1 hh1 hor1 hS1 => ?_)
  obtain ⟨z, rfl, hrun2⟩ := hq
  have hS := hS1
  refine lv_aload_n hx hb dL_1453 rfl (lv_at hl 2 rfl) ?_
  refine ld_arg (pc := 1454) (j := 1) (n := 1) (q0 := 0) (q1 := 0) (q2 := 0) hx hb hX hbl hbA hS rfl (lv_at hl 0 rfl) (lv_at hl 3 rfl) (by omega) hL dL_1454 dL_1455 dL_1456 dL_1457 dL_1458 ?_
  refine law_inv (o := 84) (a := 271) (idx := 175) (av := [vI (xs (i + 1)).toInt]) (rest := [cv ads (vI z)]) hx hb hml hown hts hap hK hN hSX (by decide) rfl sw_law_175 rfl (Nat.le_of_ble_eq_true rfl) rfl (okl.cons (i32r _) (fun _ h9 => absurd h9 List.not_mem_nil)) hh1 hl.1 hP1 hS hkc hks (Nat.le_of_ble_eq_true rfl) hrun2 dL_1459 (fun r2 h2 H2 locs2 hq2 hP2 hh2 hor2 hS2 => ?_)
  obtain ⟨rfl, hI2⟩ := hq2
  refine lv_icmp_eq (tgt := 1736) hx hb dL_1462 (by decide) (fun _ => next h2 H2 locs2 hP2 hh2 hI2 hS2) (fun c9 => absurd rfl c9)
theorem sw_law_176 : Cond.methodLink "ThimbleLawLaw" 176 (mNm 149) ∈ BIG := big_of (tpA_in (q := (5, 50)) rfl) rfl
theorem sw_law_179 : Cond.methodLink "ThimbleLawLaw" 179 (mNm 300) ∈ BIG := big_of (tpA_in (q := (8, 30)) rfl) rfl
set_option maxHeartbeats 4000000 in
theorem law_case_38 {p : Program} {l : Launch} {e : Env} {s : State} {m : MethodId} {below : List Frame} {meth : Method} {c : Code} {b L : Nat} {xs : Nat → Int32} {ads : Nat → Nat} {cA : Nat → ClassId} {D : va_G} {Inv : Nat → Hp → Prop} {QQ : State → Prop} {kc ks : Nat} (hkc : kc ≤ 600000) (hks : ks ≤ 7302250) (hH : LawH p s m meth c b L xs ads cA D) (hop : op_dried Inv) {H : Heap} {ls : Array Slot} {h : Hp} {i : Nat} (hi : i + 6 ≤ L) (hl : lv_has ls 4 [(0, .ref b), (1, .ref (ads 0)), (2, .ref (ads 84)), (3, .int (Int32.ofInt (i : Int)))]) (hP : va_P D fcs (wld ads cA h) H) (hh : okh h) (hI : Inv (i / 6) h) (hS : va_S (inA ads) s.heap H [])
    (next : ∀ (h2 : Hp) (H2 : Heap) (locs2 : List Loc), va_P D fcs (wld ads cA h2) H2 → okh h2 → Inv (i / 6 + 1) h2 → va_S (inA ads) s.heap H2 locs2 → W p l e room_1 s m #[Value.ref b] below meth c H2 locs2 kc ks QQ (F0 m 1736 ls [])) :
    W p l e room_1 s m #[Value.ref b] below meth c H [] kc ks QQ (F0 m 1467 ls []) := by
  obtain ⟨hx, hb, hml, hown, hts, hX, hbl, hL, hap, hK, hN, hSX, hge⟩ := hH
  have hbA : ¬ inA ads b := fun ⟨o, ho, e⟩ => by have := hge o ho; omega
  have hxr : inX (fun j => (xs (i + j)).toInt) := fun j => i32r _
  have hrun := hop (fun j => (xs (i + j)).toInt) hxr (i / 6) (by omega) h hI hh
  refine lv_aload_n hx hb dL_1467 rfl (lv_at hl 1 rfl) ?_
  refine ld_arg (pc := 1468) (j := 1) (n := 1) (q0 := 0) (q1 := 0) (q2 := 0) hx hb hX hbl hbA hS rfl (lv_at hl 0 rfl) (lv_at hl 3 rfl) (by omega) hL dL_1468 dL_1469 dL_1470 dL_1471 dL_1472 ?_
  refine ld_arg (pc := 1473) (j := 2) (n := 2) (q0 := 0) (q1 := 0) (q2 := 0) hx hb hX hbl hbA hS rfl (lv_at hl 0 rfl) (lv_at hl 3 rfl) (by omega) hL dL_1473 dL_1474 dL_1475 dL_1476 dL_1477 ?_
  refine ld_arg (pc := 1478) (j := 3) (n := 3) (q0 := 0) (q1 := 0) (q2 := 0) hx hb hX hbl hbA hS rfl (lv_at hl 0 rfl) (lv_at hl 3 rfl) (by omega) hL dL_1478 dL_1479 dL_1480 dL_1481 dL_1482 ?_
  refine law_inv (o := 0) (a := 149) (idx := 176) (av := [vI (xs (i + 1)).toInt, vI (xs (i + 2)).toInt, vI (xs (i + 3)).toInt]) (rest := []) hx hb hml hown hts hap hK hN hSX (by decide) rfl sw_law_176 rfl (Nat.le_of_ble_eq_true rfl) rfl (okl.cons (i32r _) (okl.cons (i32r _) (okl.cons (i32r _) (fun _ h9 => absurd h9 List.not_mem_nil)))) hh hl.1 hP hS hkc hks (Nat.zero_le _) hrun dL_1483 (fun r h1 H1 locs1 hq hP1 hh1 hor1 hS1 => ?_)
  obtain ⟨z, rfl, hrun2⟩ := hq
  have hS := hS1
  refine lv_aload_n hx hb dL_1486 rfl (lv_at hl 2 rfl) ?_
  refine ld_arg (pc := 1487) (j := 1) (n := 1) (q0 := 0) (q1 := 0) (q2 := 0) hx hb hX hbl hbA hS rfl (lv_at hl 0 rfl) (lv_at hl 3 rfl) (by omega) hL dL_1487 dL_1488 dL_1489 dL_1490 dL_1491 ?_
  refine ld_arg (pc := 1492) (j := 2) (n := 2) (q0 := 0) (q1 := 0) (q2 := 0) hx hb hX hbl hbA hS rfl (lv_at hl 0 rfl) (lv_at hl 3 rfl) (by omega) hL dL_1492 dL_1493 dL_1494 dL_1495 dL_1496 ?_
  refine ld_arg (pc := 1497) (j := 3) (n := 3) (q0 := 0) (q1 := 0) (q2 := 0) hx hb hX hbl hbA hS rfl (lv_at hl 0 rfl) (lv_at hl 3 rfl) (by omega) hL dL_1497 dL_1498 dL_1499 dL_1500 dL_1501 ?_
  refine law_inv (o := 84) (a := 300) (idx := 179) (av := [vI (xs (i + 1)).toInt, vI (xs (i + 2)).toInt, vI (xs (i + 3)).toInt]) (rest := [cv ads (vI z)]) hx hb hml hown hts hap hK hN hSX (by decide) rfl sw_law_179 rfl (Nat.le_of_ble_eq_true rfl) rfl (okl.cons (i32r _) (okl.cons (i32r _) (okl.cons (i32r _) (fun _ h9 => absurd h9 List.not_mem_nil)))) hh1 hl.1 hP1 hS hkc hks (Nat.le_of_ble_eq_true rfl) hrun2 dL_1502 (fun r2 h2 H2 locs2 hq2 hP2 hh2 hor2 hS2 => ?_)
  obtain ⟨rfl, hI2⟩ := hq2
  refine lv_icmp_eq (tgt := 1736) hx hb dL_1505 (by decide) (fun _ => next h2 H2 locs2 hP2 hh2 hI2 hS2) (fun c9 => absurd rfl c9)
theorem sw_law_180 : Cond.methodLink "ThimbleLawLaw" 180 (mNm 150) ∈ BIG := big_of (tpA_in (q := (5, 54)) rfl) rfl
theorem sw_law_183 : Cond.methodLink "ThimbleLawLaw" 183 (mNm 301) ∈ BIG := big_of (tpA_in (q := (8, 34)) rfl) rfl
set_option maxHeartbeats 4000000 in
theorem law_case_39 {p : Program} {l : Launch} {e : Env} {s : State} {m : MethodId} {below : List Frame} {meth : Method} {c : Code} {b L : Nat} {xs : Nat → Int32} {ads : Nat → Nat} {cA : Nat → ClassId} {D : va_G} {Inv : Nat → Hp → Prop} {QQ : State → Prop} {kc ks : Nat} (hkc : kc ≤ 600000) (hks : ks ≤ 7302250) (hH : LawH p s m meth c b L xs ads cA D) (hop : op_whose Inv) {H : Heap} {ls : Array Slot} {h : Hp} {i : Nat} (hi : i + 6 ≤ L) (hl : lv_has ls 4 [(0, .ref b), (1, .ref (ads 0)), (2, .ref (ads 84)), (3, .int (Int32.ofInt (i : Int)))]) (hP : va_P D fcs (wld ads cA h) H) (hh : okh h) (hI : Inv (i / 6) h) (hS : va_S (inA ads) s.heap H [])
    (next : ∀ (h2 : Hp) (H2 : Heap) (locs2 : List Loc), va_P D fcs (wld ads cA h2) H2 → okh h2 → Inv (i / 6 + 1) h2 → va_S (inA ads) s.heap H2 locs2 → W p l e room_1 s m #[Value.ref b] below meth c H2 locs2 kc ks QQ (F0 m 1736 ls [])) :
    W p l e room_1 s m #[Value.ref b] below meth c H [] kc ks QQ (F0 m 1510 ls []) := by
  obtain ⟨hx, hb, hml, hown, hts, hX, hbl, hL, hap, hK, hN, hSX, hge⟩ := hH
  have hbA : ¬ inA ads b := fun ⟨o, ho, e⟩ => by have := hge o ho; omega
  have hxr : inX (fun j => (xs (i + j)).toInt) := fun j => i32r _
  have hrun := hop (fun j => (xs (i + j)).toInt) hxr (i / 6) (by omega) h hI hh
  refine lv_aload_n hx hb dL_1510 rfl (lv_at hl 1 rfl) ?_
  refine law_inv (o := 0) (a := 150) (idx := 180) (av := []) (rest := []) hx hb hml hown hts hap hK hN hSX (by decide) rfl sw_law_180 rfl (Nat.le_of_ble_eq_true rfl) rfl (fun _ h9 => absurd h9 List.not_mem_nil) hh hl.1 hP hS hkc hks (Nat.zero_le _) hrun dL_1511 (fun r h1 H1 locs1 hq hP1 hh1 hor1 hS1 => ?_)
  obtain ⟨z, rfl, hrun2⟩ := hq
  have hS := hS1
  refine lv_aload_n hx hb dL_1514 rfl (lv_at hl 2 rfl) ?_
  refine law_inv (o := 84) (a := 301) (idx := 183) (av := []) (rest := [cv ads (vI z)]) hx hb hml hown hts hap hK hN hSX (by decide) rfl sw_law_183 rfl (Nat.le_of_ble_eq_true rfl) rfl (fun _ h9 => absurd h9 List.not_mem_nil) hh1 hl.1 hP1 hS hkc hks (Nat.le_of_ble_eq_true rfl) hrun2 dL_1515 (fun r2 h2 H2 locs2 hq2 hP2 hh2 hor2 hS2 => ?_)
  obtain ⟨rfl, hI2⟩ := hq2
  refine lv_icmp_eq (tgt := 1736) hx hb dL_1518 (by decide) (fun _ => next h2 H2 locs2 hP2 hh2 hI2 hS2) (fun c9 => absurd rfl c9)
theorem sw_law_184 : Cond.methodLink "ThimbleLawLaw" 184 (mNm 151) ∈ BIG := big_of (tpA_in (q := (5, 61)) rfl) rfl
theorem sw_law_187 : Cond.methodLink "ThimbleLawLaw" 187 (mNm 302) ∈ BIG := big_of (tpA_in (q := (8, 38)) rfl) rfl
set_option maxHeartbeats 4000000 in
theorem law_case_40 {p : Program} {l : Launch} {e : Env} {s : State} {m : MethodId} {below : List Frame} {meth : Method} {c : Code} {b L : Nat} {xs : Nat → Int32} {ads : Nat → Nat} {cA : Nat → ClassId} {D : va_G} {Inv : Nat → Hp → Prop} {QQ : State → Prop} {kc ks : Nat} (hkc : kc ≤ 600000) (hks : ks ≤ 7302250) (hH : LawH p s m meth c b L xs ads cA D) (hop : op_costs Inv) {H : Heap} {ls : Array Slot} {h : Hp} {i : Nat} (hi : i + 6 ≤ L) (hl : lv_has ls 4 [(0, .ref b), (1, .ref (ads 0)), (2, .ref (ads 84)), (3, .int (Int32.ofInt (i : Int)))]) (hP : va_P D fcs (wld ads cA h) H) (hh : okh h) (hI : Inv (i / 6) h) (hS : va_S (inA ads) s.heap H [])
    (next : ∀ (h2 : Hp) (H2 : Heap) (locs2 : List Loc), va_P D fcs (wld ads cA h2) H2 → okh h2 → Inv (i / 6 + 1) h2 → va_S (inA ads) s.heap H2 locs2 → W p l e room_1 s m #[Value.ref b] below meth c H2 locs2 kc ks QQ (F0 m 1736 ls [])) :
    W p l e room_1 s m #[Value.ref b] below meth c H [] kc ks QQ (F0 m 1523 ls []) := by
  obtain ⟨hx, hb, hml, hown, hts, hX, hbl, hL, hap, hK, hN, hSX, hge⟩ := hH
  have hbA : ¬ inA ads b := fun ⟨o, ho, e⟩ => by have := hge o ho; omega
  have hxr : inX (fun j => (xs (i + j)).toInt) := fun j => i32r _
  have hrun := hop (fun j => (xs (i + j)).toInt) hxr (i / 6) (by omega) h hI hh
  refine lv_aload_n hx hb dL_1523 rfl (lv_at hl 1 rfl) ?_
  refine ld_arg (pc := 1524) (j := 1) (n := 1) (q0 := 0) (q1 := 0) (q2 := 0) hx hb hX hbl hbA hS rfl (lv_at hl 0 rfl) (lv_at hl 3 rfl) (by omega) hL dL_1524 dL_1525 dL_1526 dL_1527 dL_1528 ?_
  refine ld_arg (pc := 1529) (j := 2) (n := 2) (q0 := 0) (q1 := 0) (q2 := 0) hx hb hX hbl hbA hS rfl (lv_at hl 0 rfl) (lv_at hl 3 rfl) (by omega) hL dL_1529 dL_1530 dL_1531 dL_1532 dL_1533 ?_
  refine law_inv (o := 0) (a := 151) (idx := 184) (av := [vI (xs (i + 1)).toInt, vI (xs (i + 2)).toInt]) (rest := []) hx hb hml hown hts hap hK hN hSX (by decide) rfl sw_law_184 rfl (Nat.le_of_ble_eq_true rfl) rfl (okl.cons (i32r _) (okl.cons (i32r _) (fun _ h9 => absurd h9 List.not_mem_nil))) hh hl.1 hP hS hkc hks (Nat.zero_le _) hrun dL_1534 (fun r h1 H1 locs1 hq hP1 hh1 hor1 hS1 => ?_)
  obtain ⟨z, rfl, hrun2⟩ := hq
  have hS := hS1
  refine lv_aload_n hx hb dL_1537 rfl (lv_at hl 2 rfl) ?_
  refine ld_arg (pc := 1538) (j := 1) (n := 1) (q0 := 0) (q1 := 0) (q2 := 0) hx hb hX hbl hbA hS rfl (lv_at hl 0 rfl) (lv_at hl 3 rfl) (by omega) hL dL_1538 dL_1539 dL_1540 dL_1541 dL_1542 ?_
  refine ld_arg (pc := 1543) (j := 2) (n := 2) (q0 := 0) (q1 := 0) (q2 := 0) hx hb hX hbl hbA hS rfl (lv_at hl 0 rfl) (lv_at hl 3 rfl) (by omega) hL dL_1543 dL_1544 dL_1545 dL_1546 dL_1547 ?_
  refine law_inv (o := 84) (a := 302) (idx := 187) (av := [vI (xs (i + 1)).toInt, vI (xs (i + 2)).toInt]) (rest := [cv ads (vI z)]) hx hb hml hown hts hap hK hN hSX (by decide) rfl sw_law_187 rfl (Nat.le_of_ble_eq_true rfl) rfl (okl.cons (i32r _) (okl.cons (i32r _) (fun _ h9 => absurd h9 List.not_mem_nil))) hh1 hl.1 hP1 hS hkc hks (Nat.le_of_ble_eq_true rfl) hrun2 dL_1548 (fun r2 h2 H2 locs2 hq2 hP2 hh2 hor2 hS2 => ?_)
  obtain ⟨rfl, hI2⟩ := hq2
  refine lv_icmp_eq (tgt := 1736) hx hb dL_1551 (by decide) (fun _ => next h2 H2 locs2 hP2 hh2 hI2 hS2) (fun c9 => absurd rfl c9)
theorem sw_law_188 : Cond.methodLink "ThimbleLawLaw" 188 (mNm 152) ∈ BIG := big_of (tpA_in (q := (5, 65)) rfl) rfl
theorem sw_law_191 : Cond.methodLink "ThimbleLawLaw" 191 (mNm 303) ∈ BIG := big_of (tpA_in (q := (8, 42)) rfl) rfl
set_option maxHeartbeats 4000000 in
theorem law_case_41 {p : Program} {l : Launch} {e : Env} {s : State} {m : MethodId} {below : List Frame} {meth : Method} {c : Code} {b L : Nat} {xs : Nat → Int32} {ads : Nat → Nat} {cA : Nat → ClassId} {D : va_G} {Inv : Nat → Hp → Prop} {QQ : State → Prop} {kc ks : Nat} (hkc : kc ≤ 600000) (hks : ks ≤ 7302250) (hH : LawH p s m meth c b L xs ads cA D) (hop : op_game Inv) {H : Heap} {ls : Array Slot} {h : Hp} {i : Nat} (hi : i + 6 ≤ L) (hl : lv_has ls 4 [(0, .ref b), (1, .ref (ads 0)), (2, .ref (ads 84)), (3, .int (Int32.ofInt (i : Int)))]) (hP : va_P D fcs (wld ads cA h) H) (hh : okh h) (hI : Inv (i / 6) h) (hS : va_S (inA ads) s.heap H [])
    (next : ∀ (h2 : Hp) (H2 : Heap) (locs2 : List Loc), va_P D fcs (wld ads cA h2) H2 → okh h2 → Inv (i / 6 + 1) h2 → va_S (inA ads) s.heap H2 locs2 → W p l e room_1 s m #[Value.ref b] below meth c H2 locs2 kc ks QQ (F0 m 1736 ls [])) :
    W p l e room_1 s m #[Value.ref b] below meth c H [] kc ks QQ (F0 m 1556 ls []) := by
  obtain ⟨hx, hb, hml, hown, hts, hX, hbl, hL, hap, hK, hN, hSX, hge⟩ := hH
  have hbA : ¬ inA ads b := fun ⟨o, ho, e⟩ => by have := hge o ho; omega
  have hxr : inX (fun j => (xs (i + j)).toInt) := fun j => i32r _
  have hrun := hop (fun j => (xs (i + j)).toInt) hxr (i / 6) (by omega) h hI hh
  refine lv_aload_n hx hb dL_1556 rfl (lv_at hl 1 rfl) ?_
  refine ld_arg (pc := 1557) (j := 1) (n := 1) (q0 := 0) (q1 := 0) (q2 := 0) hx hb hX hbl hbA hS rfl (lv_at hl 0 rfl) (lv_at hl 3 rfl) (by omega) hL dL_1557 dL_1558 dL_1559 dL_1560 dL_1561 ?_
  refine ld_bool (pc := 1562) (j := 2) (n := 2) hx hb hX hbl hbA hS rfl (lv_at hl 0 rfl) (lv_at hl 3 rfl) (by omega) hL dL_1562 dL_1563 dL_1564 dL_1565 dL_1566 dL_1567 dL_1570 dL_1571 dL_1574 ?_
  refine law_inv (o := 0) (a := 152) (idx := 188) (av := [vI (xs (i + 1)).toInt, vI (nzI (xs (i + 2)).toInt)]) (rest := []) hx hb hml hown hts hap hK hN hSX (by decide) rfl sw_law_188 rfl (Nat.le_of_ble_eq_true rfl) rfl (okl.cons (i32r _) (okl.cons (nzI_r _) (fun _ h9 => absurd h9 List.not_mem_nil))) hh hl.1 hP hS hkc hks (Nat.zero_le _) hrun dL_1575 (fun r h1 H1 locs1 hq hP1 hh1 hor1 hS1 => ?_)
  obtain ⟨z, rfl, hrun2⟩ := hq
  have hS := hS1
  refine lv_aload_n hx hb dL_1578 rfl (lv_at hl 2 rfl) ?_
  refine ld_arg (pc := 1579) (j := 1) (n := 1) (q0 := 0) (q1 := 0) (q2 := 0) hx hb hX hbl hbA hS rfl (lv_at hl 0 rfl) (lv_at hl 3 rfl) (by omega) hL dL_1579 dL_1580 dL_1581 dL_1582 dL_1583 ?_
  refine ld_bool (pc := 1584) (j := 2) (n := 2) hx hb hX hbl hbA hS rfl (lv_at hl 0 rfl) (lv_at hl 3 rfl) (by omega) hL dL_1584 dL_1585 dL_1586 dL_1587 dL_1588 dL_1589 dL_1592 dL_1593 dL_1596 ?_
  refine law_inv (o := 84) (a := 303) (idx := 191) (av := [vI (xs (i + 1)).toInt, vI (nzI (xs (i + 2)).toInt)]) (rest := [cv ads (vI z)]) hx hb hml hown hts hap hK hN hSX (by decide) rfl sw_law_191 rfl (Nat.le_of_ble_eq_true rfl) rfl (okl.cons (i32r _) (okl.cons (nzI_r _) (fun _ h9 => absurd h9 List.not_mem_nil))) hh1 hl.1 hP1 hS hkc hks (Nat.le_of_ble_eq_true rfl) hrun2 dL_1597 (fun r2 h2 H2 locs2 hq2 hP2 hh2 hor2 hS2 => ?_)
  obtain ⟨rfl, hI2⟩ := hq2
  refine lv_icmp_eq (tgt := 1736) hx hb dL_1600 (by decide) (fun _ => next h2 H2 locs2 hP2 hh2 hI2 hS2) (fun c9 => absurd rfl c9)
theorem sw_law_192 : Cond.methodLink "ThimbleLawLaw" 192 (mNm 153) ∈ BIG := big_of (tpA_in (q := (5, 73)) rfl) rfl
theorem sw_law_195 : Cond.methodLink "ThimbleLawLaw" 195 (mNm 263) ∈ BIG := big_of (tpA_in (q := (7, 120)) rfl) rfl
set_option maxHeartbeats 4000000 in
theorem law_case_42 {p : Program} {l : Launch} {e : Env} {s : State} {m : MethodId} {below : List Frame} {meth : Method} {c : Code} {b L : Nat} {xs : Nat → Int32} {ads : Nat → Nat} {cA : Nat → ClassId} {D : va_G} {Inv : Nat → Hp → Prop} {QQ : State → Prop} {kc ks : Nat} (hkc : kc ≤ 600000) (hks : ks ≤ 7302250) (hH : LawH p s m meth c b L xs ads cA D) (hop : op_fined Inv) {H : Heap} {ls : Array Slot} {h : Hp} {i : Nat} (hi : i + 6 ≤ L) (hl : lv_has ls 4 [(0, .ref b), (1, .ref (ads 0)), (2, .ref (ads 84)), (3, .int (Int32.ofInt (i : Int)))]) (hP : va_P D fcs (wld ads cA h) H) (hh : okh h) (hI : Inv (i / 6) h) (hS : va_S (inA ads) s.heap H [])
    (next : ∀ (h2 : Hp) (H2 : Heap) (locs2 : List Loc), va_P D fcs (wld ads cA h2) H2 → okh h2 → Inv (i / 6 + 1) h2 → va_S (inA ads) s.heap H2 locs2 → W p l e room_1 s m #[Value.ref b] below meth c H2 locs2 kc ks QQ (F0 m 1736 ls [])) :
    W p l e room_1 s m #[Value.ref b] below meth c H [] kc ks QQ (F0 m 1605 ls []) := by
  obtain ⟨hx, hb, hml, hown, hts, hX, hbl, hL, hap, hK, hN, hSX, hge⟩ := hH
  have hbA : ¬ inA ads b := fun ⟨o, ho, e⟩ => by have := hge o ho; omega
  have hxr : inX (fun j => (xs (i + j)).toInt) := fun j => i32r _
  have hrun := hop (fun j => (xs (i + j)).toInt) hxr (i / 6) (by omega) h hI hh
  refine lv_aload_n hx hb dL_1605 rfl (lv_at hl 1 rfl) ?_
  refine ld_arg (pc := 1606) (j := 1) (n := 1) (q0 := 0) (q1 := 0) (q2 := 0) hx hb hX hbl hbA hS rfl (lv_at hl 0 rfl) (lv_at hl 3 rfl) (by omega) hL dL_1606 dL_1607 dL_1608 dL_1609 dL_1610 ?_
  refine law_inv (o := 0) (a := 153) (idx := 192) (av := [vI (xs (i + 1)).toInt]) (rest := []) hx hb hml hown hts hap hK hN hSX (by decide) rfl sw_law_192 rfl (Nat.le_of_ble_eq_true rfl) rfl (okl.cons (i32r _) (fun _ h9 => absurd h9 List.not_mem_nil)) hh hl.1 hP hS hkc hks (Nat.zero_le _) hrun dL_1611 (fun r h1 H1 locs1 hq hP1 hh1 hor1 hS1 => ?_)
  obtain ⟨z, rfl, hrun2⟩ := hq
  have hS := hS1
  refine lv_aload_n hx hb dL_1614 rfl (lv_at hl 2 rfl) ?_
  refine ld_arg (pc := 1615) (j := 1) (n := 1) (q0 := 0) (q1 := 0) (q2 := 0) hx hb hX hbl hbA hS rfl (lv_at hl 0 rfl) (lv_at hl 3 rfl) (by omega) hL dL_1615 dL_1616 dL_1617 dL_1618 dL_1619 ?_
  refine law_inv (o := 84) (a := 263) (idx := 195) (av := [vI (xs (i + 1)).toInt]) (rest := [cv ads (vI z)]) hx hb hml hown hts hap hK hN hSX (by decide) rfl sw_law_195 rfl (Nat.le_of_ble_eq_true rfl) rfl (okl.cons (i32r _) (fun _ h9 => absurd h9 List.not_mem_nil)) hh1 hl.1 hP1 hS hkc hks (Nat.le_of_ble_eq_true rfl) hrun2 dL_1620 (fun r2 h2 H2 locs2 hq2 hP2 hh2 hor2 hS2 => ?_)
  obtain ⟨rfl, hI2⟩ := hq2
  refine lv_icmp_eq (tgt := 1736) hx hb dL_1623 (by decide) (fun _ => next h2 H2 locs2 hP2 hh2 hI2 hS2) (fun c9 => absurd rfl c9)
theorem sw_law_196 : Cond.methodLink "ThimbleLawLaw" 196 (mNm 154) ∈ BIG := big_of (tpA_in (q := (5, 77)) rfl) rfl
theorem sw_law_199 : Cond.methodLink "ThimbleLawLaw" 199 (mNm 264) ∈ BIG := big_of (tpA_in (q := (7, 124)) rfl) rfl
set_option maxHeartbeats 4000000 in
theorem law_case_43 {p : Program} {l : Launch} {e : Env} {s : State} {m : MethodId} {below : List Frame} {meth : Method} {c : Code} {b L : Nat} {xs : Nat → Int32} {ads : Nat → Nat} {cA : Nat → ClassId} {D : va_G} {Inv : Nat → Hp → Prop} {QQ : State → Prop} {kc ks : Nat} (hkc : kc ≤ 600000) (hks : ks ≤ 7302250) (hH : LawH p s m meth c b L xs ads cA D) (hop : op_fines Inv) {H : Heap} {ls : Array Slot} {h : Hp} {i : Nat} (hi : i + 6 ≤ L) (hl : lv_has ls 4 [(0, .ref b), (1, .ref (ads 0)), (2, .ref (ads 84)), (3, .int (Int32.ofInt (i : Int)))]) (hP : va_P D fcs (wld ads cA h) H) (hh : okh h) (hI : Inv (i / 6) h) (hS : va_S (inA ads) s.heap H [])
    (next : ∀ (h2 : Hp) (H2 : Heap) (locs2 : List Loc), va_P D fcs (wld ads cA h2) H2 → okh h2 → Inv (i / 6 + 1) h2 → va_S (inA ads) s.heap H2 locs2 → W p l e room_1 s m #[Value.ref b] below meth c H2 locs2 kc ks QQ (F0 m 1736 ls [])) :
    W p l e room_1 s m #[Value.ref b] below meth c H [] kc ks QQ (F0 m 1628 ls []) := by
  obtain ⟨hx, hb, hml, hown, hts, hX, hbl, hL, hap, hK, hN, hSX, hge⟩ := hH
  have hbA : ¬ inA ads b := fun ⟨o, ho, e⟩ => by have := hge o ho; omega
  have hxr : inX (fun j => (xs (i + j)).toInt) := fun j => i32r _
  have hrun := hop (fun j => (xs (i + j)).toInt) hxr (i / 6) (by omega) h hI hh
  refine lv_aload_n hx hb dL_1628 rfl (lv_at hl 1 rfl) ?_
  refine ld_arg (pc := 1629) (j := 1) (n := 1) (q0 := 0) (q1 := 0) (q2 := 0) hx hb hX hbl hbA hS rfl (lv_at hl 0 rfl) (lv_at hl 3 rfl) (by omega) hL dL_1629 dL_1630 dL_1631 dL_1632 dL_1633 ?_
  refine law_inv (o := 0) (a := 154) (idx := 196) (av := [vI (xs (i + 1)).toInt]) (rest := []) hx hb hml hown hts hap hK hN hSX (by decide) rfl sw_law_196 rfl (Nat.le_of_ble_eq_true rfl) rfl (okl.cons (i32r _) (fun _ h9 => absurd h9 List.not_mem_nil)) hh hl.1 hP hS hkc hks (Nat.zero_le _) hrun dL_1634 (fun r h1 H1 locs1 hq hP1 hh1 hor1 hS1 => ?_)
  obtain ⟨z, rfl, hrun2⟩ := hq
  have hS := hS1
  refine lv_aload_n hx hb dL_1637 rfl (lv_at hl 2 rfl) ?_
  refine ld_arg (pc := 1638) (j := 1) (n := 1) (q0 := 0) (q1 := 0) (q2 := 0) hx hb hX hbl hbA hS rfl (lv_at hl 0 rfl) (lv_at hl 3 rfl) (by omega) hL dL_1638 dL_1639 dL_1640 dL_1641 dL_1642 ?_
  refine law_inv (o := 84) (a := 264) (idx := 199) (av := [vI (xs (i + 1)).toInt]) (rest := [cv ads (vI z)]) hx hb hml hown hts hap hK hN hSX (by decide) rfl sw_law_199 rfl (Nat.le_of_ble_eq_true rfl) rfl (okl.cons (i32r _) (fun _ h9 => absurd h9 List.not_mem_nil)) hh1 hl.1 hP1 hS hkc hks (Nat.le_of_ble_eq_true rfl) hrun2 dL_1643 (fun r2 h2 H2 locs2 hq2 hP2 hh2 hor2 hS2 => ?_)
  obtain ⟨rfl, hI2⟩ := hq2
  refine lv_icmp_eq (tgt := 1736) hx hb dL_1646 (by decide) (fun _ => next h2 H2 locs2 hP2 hh2 hI2 hS2) (fun c9 => absurd rfl c9)
theorem sw_law_200 : Cond.methodLink "ThimbleLawLaw" 200 (mNm 155) ∈ BIG := big_of (tpA_in (q := (5, 81)) rfl) rfl
theorem sw_law_203 : Cond.methodLink "ThimbleLawLaw" 203 (mNm 265) ∈ BIG := big_of (tpA_in (q := (7, 128)) rfl) rfl
set_option maxHeartbeats 4000000 in
theorem law_case_44 {p : Program} {l : Launch} {e : Env} {s : State} {m : MethodId} {below : List Frame} {meth : Method} {c : Code} {b L : Nat} {xs : Nat → Int32} {ads : Nat → Nat} {cA : Nat → ClassId} {D : va_G} {Inv : Nat → Hp → Prop} {QQ : State → Prop} {kc ks : Nat} (hkc : kc ≤ 600000) (hks : ks ≤ 7302250) (hH : LawH p s m meth c b L xs ads cA D) (hop : op_sober Inv) {H : Heap} {ls : Array Slot} {h : Hp} {i : Nat} (hi : i + 6 ≤ L) (hl : lv_has ls 4 [(0, .ref b), (1, .ref (ads 0)), (2, .ref (ads 84)), (3, .int (Int32.ofInt (i : Int)))]) (hP : va_P D fcs (wld ads cA h) H) (hh : okh h) (hI : Inv (i / 6) h) (hS : va_S (inA ads) s.heap H [])
    (next : ∀ (h2 : Hp) (H2 : Heap) (locs2 : List Loc), va_P D fcs (wld ads cA h2) H2 → okh h2 → Inv (i / 6 + 1) h2 → va_S (inA ads) s.heap H2 locs2 → W p l e room_1 s m #[Value.ref b] below meth c H2 locs2 kc ks QQ (F0 m 1736 ls [])) :
    W p l e room_1 s m #[Value.ref b] below meth c H [] kc ks QQ (F0 m 1651 ls []) := by
  obtain ⟨hx, hb, hml, hown, hts, hX, hbl, hL, hap, hK, hN, hSX, hge⟩ := hH
  have hbA : ¬ inA ads b := fun ⟨o, ho, e⟩ => by have := hge o ho; omega
  have hxr : inX (fun j => (xs (i + j)).toInt) := fun j => i32r _
  have hrun := hop (fun j => (xs (i + j)).toInt) hxr (i / 6) (by omega) h hI hh
  refine lv_aload_n hx hb dL_1651 rfl (lv_at hl 1 rfl) ?_
  refine ld_arg (pc := 1652) (j := 1) (n := 1) (q0 := 0) (q1 := 0) (q2 := 0) hx hb hX hbl hbA hS rfl (lv_at hl 0 rfl) (lv_at hl 3 rfl) (by omega) hL dL_1652 dL_1653 dL_1654 dL_1655 dL_1656 ?_
  refine law_inv (o := 0) (a := 155) (idx := 200) (av := [vI (xs (i + 1)).toInt]) (rest := []) hx hb hml hown hts hap hK hN hSX (by decide) rfl sw_law_200 rfl (Nat.le_of_ble_eq_true rfl) rfl (okl.cons (i32r _) (fun _ h9 => absurd h9 List.not_mem_nil)) hh hl.1 hP hS hkc hks (Nat.zero_le _) hrun dL_1657 (fun r h1 H1 locs1 hq hP1 hh1 hor1 hS1 => ?_)
  obtain ⟨z, rfl, hrun2⟩ := hq
  have hS := hS1
  refine lv_aload_n hx hb dL_1660 rfl (lv_at hl 2 rfl) ?_
  refine ld_arg (pc := 1661) (j := 1) (n := 1) (q0 := 0) (q1 := 0) (q2 := 0) hx hb hX hbl hbA hS rfl (lv_at hl 0 rfl) (lv_at hl 3 rfl) (by omega) hL dL_1661 dL_1662 dL_1663 dL_1664 dL_1665 ?_
  refine law_inv (o := 84) (a := 265) (idx := 203) (av := [vI (xs (i + 1)).toInt]) (rest := [cv ads (vI z)]) hx hb hml hown hts hap hK hN hSX (by decide) rfl sw_law_203 rfl (Nat.le_of_ble_eq_true rfl) rfl (okl.cons (i32r _) (fun _ h9 => absurd h9 List.not_mem_nil)) hh1 hl.1 hP1 hS hkc hks (Nat.le_of_ble_eq_true rfl) hrun2 dL_1666 (fun r2 h2 H2 locs2 hq2 hP2 hh2 hor2 hS2 => ?_)
  obtain ⟨rfl, hI2⟩ := hq2
  refine lv_icmp_eq (tgt := 1736) hx hb dL_1669 (by decide) (fun _ => next h2 H2 locs2 hP2 hh2 hI2 hS2) (fun c9 => absurd rfl c9)
theorem sw_law_204 : Cond.methodLink "ThimbleLawLaw" 204 (mNm 156) ∈ BIG := big_of (tpA_in (q := (5, 85)) rfl) rfl
theorem sw_law_207 : Cond.methodLink "ThimbleLawLaw" 207 (mNm 267) ∈ BIG := big_of (tpA_in (q := (7, 132)) rfl) rfl
set_option maxHeartbeats 4000000 in
theorem law_case_45 {p : Program} {l : Launch} {e : Env} {s : State} {m : MethodId} {below : List Frame} {meth : Method} {c : Code} {b L : Nat} {xs : Nat → Int32} {ads : Nat → Nat} {cA : Nat → ClassId} {D : va_G} {Inv : Nat → Hp → Prop} {QQ : State → Prop} {kc ks : Nat} (hkc : kc ≤ 600000) (hks : ks ≤ 7302250) (hH : LawH p s m meth c b L xs ads cA D) (hop : op_heaviest Inv) {H : Heap} {ls : Array Slot} {h : Hp} {i : Nat} (hi : i + 6 ≤ L) (hl : lv_has ls 4 [(0, .ref b), (1, .ref (ads 0)), (2, .ref (ads 84)), (3, .int (Int32.ofInt (i : Int)))]) (hP : va_P D fcs (wld ads cA h) H) (hh : okh h) (hI : Inv (i / 6) h) (hS : va_S (inA ads) s.heap H [])
    (next : ∀ (h2 : Hp) (H2 : Heap) (locs2 : List Loc), va_P D fcs (wld ads cA h2) H2 → okh h2 → Inv (i / 6 + 1) h2 → va_S (inA ads) s.heap H2 locs2 → W p l e room_1 s m #[Value.ref b] below meth c H2 locs2 kc ks QQ (F0 m 1736 ls [])) :
    W p l e room_1 s m #[Value.ref b] below meth c H [] kc ks QQ (F0 m 1674 ls []) := by
  obtain ⟨hx, hb, hml, hown, hts, hX, hbl, hL, hap, hK, hN, hSX, hge⟩ := hH
  have hbA : ¬ inA ads b := fun ⟨o, ho, e⟩ => by have := hge o ho; omega
  have hxr : inX (fun j => (xs (i + j)).toInt) := fun j => i32r _
  have hrun := hop (fun j => (xs (i + j)).toInt) hxr (i / 6) (by omega) h hI hh
  refine lv_aload_n hx hb dL_1674 rfl (lv_at hl 1 rfl) ?_
  refine law_inv (o := 0) (a := 156) (idx := 204) (av := []) (rest := []) hx hb hml hown hts hap hK hN hSX (by decide) rfl sw_law_204 rfl (Nat.le_of_ble_eq_true rfl) rfl (fun _ h9 => absurd h9 List.not_mem_nil) hh hl.1 hP hS hkc hks (Nat.zero_le _) hrun dL_1675 (fun r h1 H1 locs1 hq hP1 hh1 hor1 hS1 => ?_)
  obtain ⟨z, rfl, hrun2⟩ := hq
  have hS := hS1
  refine lv_aload_n hx hb dL_1678 rfl (lv_at hl 2 rfl) ?_
  refine law_inv (o := 84) (a := 267) (idx := 207) (av := []) (rest := [cv ads (vI z)]) hx hb hml hown hts hap hK hN hSX (by decide) rfl sw_law_207 rfl (Nat.le_of_ble_eq_true rfl) rfl (fun _ h9 => absurd h9 List.not_mem_nil) hh1 hl.1 hP1 hS hkc hks (Nat.le_of_ble_eq_true rfl) hrun2 dL_1679 (fun r2 h2 H2 locs2 hq2 hP2 hh2 hor2 hS2 => ?_)
  obtain ⟨rfl, hI2⟩ := hq2
  refine lv_icmp_eq (tgt := 1736) hx hb dL_1682 (by decide) (fun _ => next h2 H2 locs2 hP2 hh2 hI2 hS2) (fun c9 => absurd rfl c9)
theorem sw_law_208 : Cond.methodLink "ThimbleLawLaw" 208 (mNm 157) ∈ BIG := big_of (tpA_in (q := (5, 93)) rfl) rfl
theorem sw_law_211 : Cond.methodLink "ThimbleLawLaw" 211 (mNm 304) ∈ BIG := big_of (tpA_in (q := (8, 46)) rfl) rfl
set_option maxHeartbeats 4000000 in
theorem law_case_46 {p : Program} {l : Launch} {e : Env} {s : State} {m : MethodId} {below : List Frame} {meth : Method} {c : Code} {b L : Nat} {xs : Nat → Int32} {ads : Nat → Nat} {cA : Nat → ClassId} {D : va_G} {Inv : Nat → Hp → Prop} {QQ : State → Prop} {kc ks : Nat} (hkc : kc ≤ 600000) (hks : ks ≤ 7302250) (hH : LawH p s m meth c b L xs ads cA D) (hop : op_image Inv) {H : Heap} {ls : Array Slot} {h : Hp} {i : Nat} (hi : i + 6 ≤ L) (hl : lv_has ls 4 [(0, .ref b), (1, .ref (ads 0)), (2, .ref (ads 84)), (3, .int (Int32.ofInt (i : Int)))]) (hP : va_P D fcs (wld ads cA h) H) (hh : okh h) (hI : Inv (i / 6) h) (hS : va_S (inA ads) s.heap H [])
    (next : ∀ (h2 : Hp) (H2 : Heap) (locs2 : List Loc), va_P D fcs (wld ads cA h2) H2 → okh h2 → Inv (i / 6 + 1) h2 → va_S (inA ads) s.heap H2 locs2 → W p l e room_1 s m #[Value.ref b] below meth c H2 locs2 kc ks QQ (F0 m 1736 ls [])) :
    W p l e room_1 s m #[Value.ref b] below meth c H [] kc ks QQ (F0 m 1687 ls []) := by
  obtain ⟨hx, hb, hml, hown, hts, hX, hbl, hL, hap, hK, hN, hSX, hge⟩ := hH
  have hbA : ¬ inA ads b := fun ⟨o, ho, e⟩ => by have := hge o ho; omega
  have hxr : inX (fun j => (xs (i + j)).toInt) := fun j => i32r _
  have hrun := hop (fun j => (xs (i + j)).toInt) hxr (i / 6) (by omega) h hI hh
  refine lv_aload_n hx hb dL_1687 rfl (lv_at hl 1 rfl) ?_
  refine law_inv (o := 0) (a := 157) (idx := 208) (av := []) (rest := []) hx hb hml hown hts hap hK hN hSX (by decide) rfl sw_law_208 rfl (Nat.le_of_ble_eq_true rfl) rfl (fun _ h9 => absurd h9 List.not_mem_nil) hh hl.1 hP hS hkc hks (Nat.zero_le _) hrun dL_1688 (fun r h1 H1 locs1 hq hP1 hh1 hor1 hS1 => ?_)
  obtain ⟨z, rfl, hrun2⟩ := hq
  have hS := hS1
  refine lv_aload_n hx hb dL_1691 rfl (lv_at hl 2 rfl) ?_
  refine law_inv (o := 84) (a := 304) (idx := 211) (av := []) (rest := [cv ads (vI z)]) hx hb hml hown hts hap hK hN hSX (by decide) rfl sw_law_211 rfl (Nat.le_of_ble_eq_true rfl) rfl (fun _ h9 => absurd h9 List.not_mem_nil) hh1 hl.1 hP1 hS hkc hks (Nat.le_of_ble_eq_true rfl) hrun2 dL_1692 (fun r2 h2 H2 locs2 hq2 hP2 hh2 hor2 hS2 => ?_)
  obtain ⟨rfl, hI2⟩ := hq2
  refine lv_icmp_eq (tgt := 1736) hx hb dL_1695 (by decide) (fun _ => next h2 H2 locs2 hP2 hh2 hI2 hS2) (fun c9 => absurd rfl c9)
theorem sw_law_212 : Cond.methodLink "ThimbleLawLaw" 212 (mNm 158) ∈ BIG := big_of (tpA_in (q := (5, 112)) rfl) rfl
theorem sw_law_215 : Cond.methodLink "ThimbleLawLaw" 215 (mNm 305) ∈ BIG := big_of (tpA_in (q := (8, 50)) rfl) rfl
set_option maxHeartbeats 4000000 in
theorem law_case_47 {p : Program} {l : Launch} {e : Env} {s : State} {m : MethodId} {below : List Frame} {meth : Method} {c : Code} {b L : Nat} {xs : Nat → Int32} {ads : Nat → Nat} {cA : Nat → ClassId} {D : va_G} {Inv : Nat → Hp → Prop} {QQ : State → Prop} {kc ks : Nat} (hkc : kc ≤ 600000) (hks : ks ≤ 7302250) (hH : LawH p s m meth c b L xs ads cA D) (hop : op_back Inv) {H : Heap} {ls : Array Slot} {h : Hp} {i : Nat} (hi : i + 6 ≤ L) (hl : lv_has ls 4 [(0, .ref b), (1, .ref (ads 0)), (2, .ref (ads 84)), (3, .int (Int32.ofInt (i : Int)))]) (hP : va_P D fcs (wld ads cA h) H) (hh : okh h) (hI : Inv (i / 6) h) (hS : va_S (inA ads) s.heap H [])
    (next : ∀ (h2 : Hp) (H2 : Heap) (locs2 : List Loc), va_P D fcs (wld ads cA h2) H2 → okh h2 → Inv (i / 6 + 1) h2 → va_S (inA ads) s.heap H2 locs2 → W p l e room_1 s m #[Value.ref b] below meth c H2 locs2 kc ks QQ (F0 m 1736 ls [])) :
    W p l e room_1 s m #[Value.ref b] below meth c H [] kc ks QQ (F0 m 1700 ls []) := by
  obtain ⟨hx, hb, hml, hown, hts, hX, hbl, hL, hap, hK, hN, hSX, hge⟩ := hH
  have hbA : ¬ inA ads b := fun ⟨o, ho, e⟩ => by have := hge o ho; omega
  have hxr : inX (fun j => (xs (i + j)).toInt) := fun j => i32r _
  have hrun := hop (fun j => (xs (i + j)).toInt) hxr (i / 6) (by omega) h hI hh
  refine lv_aload_n hx hb dL_1700 rfl (lv_at hl 1 rfl) ?_
  refine law_inv (o := 0) (a := 158) (idx := 212) (av := []) (rest := []) hx hb hml hown hts hap hK hN hSX (by decide) rfl sw_law_212 rfl (Nat.le_of_ble_eq_true rfl) rfl (fun _ h9 => absurd h9 List.not_mem_nil) hh hl.1 hP hS hkc hks (Nat.zero_le _) hrun dL_1701 (fun r h1 H1 locs1 hq hP1 hh1 hor1 hS1 => ?_)
  obtain ⟨z, rfl, hrun2⟩ := hq
  have hS := hS1
  refine lv_aload_n hx hb dL_1704 rfl (lv_at hl 2 rfl) ?_
  refine law_inv (o := 84) (a := 305) (idx := 215) (av := []) (rest := [cv ads (vI z)]) hx hb hml hown hts hap hK hN hSX (by decide) rfl sw_law_215 rfl (Nat.le_of_ble_eq_true rfl) rfl (fun _ h9 => absurd h9 List.not_mem_nil) hh1 hl.1 hP1 hS hkc hks (Nat.le_of_ble_eq_true rfl) hrun2 dL_1705 (fun r2 h2 H2 locs2 hq2 hP2 hh2 hor2 hS2 => ?_)
  obtain ⟨rfl, hI2⟩ := hq2
  refine lv_icmp_eq (tgt := 1736) hx hb dL_1708 (by decide) (fun _ => next h2 H2 locs2 hP2 hh2 hI2 hS2) (fun c9 => absurd rfl c9)
theorem sw_law_216 : Cond.methodLink "ThimbleLawLaw" 216 (mNm 159) ∈ BIG := big_of (tpA_in (q := (5, 116)) rfl) rfl
theorem sw_law_219 : Cond.methodLink "ThimbleLawLaw" 219 (mNm 306) ∈ BIG := big_of (tpA_in (q := (8, 54)) rfl) rfl
set_option maxHeartbeats 4000000 in
theorem law_case_48 {p : Program} {l : Launch} {e : Env} {s : State} {m : MethodId} {below : List Frame} {meth : Method} {c : Code} {b L : Nat} {xs : Nat → Int32} {ads : Nat → Nat} {cA : Nat → ClassId} {D : va_G} {Inv : Nat → Hp → Prop} {QQ : State → Prop} {kc ks : Nat} (hkc : kc ≤ 600000) (hks : ks ≤ 7302250) (hH : LawH p s m meth c b L xs ads cA D) (hop : op_about Inv) {H : Heap} {ls : Array Slot} {h : Hp} {i : Nat} (hi : i + 6 ≤ L) (hl : lv_has ls 4 [(0, .ref b), (1, .ref (ads 0)), (2, .ref (ads 84)), (3, .int (Int32.ofInt (i : Int)))]) (hP : va_P D fcs (wld ads cA h) H) (hh : okh h) (hI : Inv (i / 6) h) (hS : va_S (inA ads) s.heap H [])
    (next : ∀ (h2 : Hp) (H2 : Heap) (locs2 : List Loc), va_P D fcs (wld ads cA h2) H2 → okh h2 → Inv (i / 6 + 1) h2 → va_S (inA ads) s.heap H2 locs2 → W p l e room_1 s m #[Value.ref b] below meth c H2 locs2 kc ks QQ (F0 m 1736 ls [])) :
    W p l e room_1 s m #[Value.ref b] below meth c H [] kc ks QQ (F0 m 1713 ls []) := by
  obtain ⟨hx, hb, hml, hown, hts, hX, hbl, hL, hap, hK, hN, hSX, hge⟩ := hH
  have hbA : ¬ inA ads b := fun ⟨o, ho, e⟩ => by have := hge o ho; omega
  have hxr : inX (fun j => (xs (i + j)).toInt) := fun j => i32r _
  have hrun := hop (fun j => (xs (i + j)).toInt) hxr (i / 6) (by omega) h hI hh
  refine lv_aload_n hx hb dL_1713 rfl (lv_at hl 1 rfl) ?_
  refine ld_arg (pc := 1714) (j := 1) (n := 1) (q0 := 0) (q1 := 0) (q2 := 0) hx hb hX hbl hbA hS rfl (lv_at hl 0 rfl) (lv_at hl 3 rfl) (by omega) hL dL_1714 dL_1715 dL_1716 dL_1717 dL_1718 ?_
  refine law_inv (o := 0) (a := 159) (idx := 216) (av := [vI (xs (i + 1)).toInt]) (rest := []) hx hb hml hown hts hap hK hN hSX (by decide) rfl sw_law_216 rfl (Nat.le_of_ble_eq_true rfl) rfl (okl.cons (i32r _) (fun _ h9 => absurd h9 List.not_mem_nil)) hh hl.1 hP hS hkc hks (Nat.zero_le _) hrun dL_1719 (fun r h1 H1 locs1 hq hP1 hh1 hor1 hS1 => ?_)
  obtain ⟨z, rfl, hrun2⟩ := hq
  have hS := hS1
  refine lv_aload_n hx hb dL_1722 rfl (lv_at hl 2 rfl) ?_
  refine ld_arg (pc := 1723) (j := 1) (n := 1) (q0 := 0) (q1 := 0) (q2 := 0) hx hb hX hbl hbA hS rfl (lv_at hl 0 rfl) (lv_at hl 3 rfl) (by omega) hL dL_1723 dL_1724 dL_1725 dL_1726 dL_1727 ?_
  refine law_inv (o := 84) (a := 306) (idx := 219) (av := [vI (xs (i + 1)).toInt]) (rest := [cv ads (vI z)]) hx hb hml hown hts hap hK hN hSX (by decide) rfl sw_law_219 rfl (Nat.le_of_ble_eq_true rfl) rfl (okl.cons (i32r _) (fun _ h9 => absurd h9 List.not_mem_nil)) hh1 hl.1 hP1 hS hkc hks (Nat.le_of_ble_eq_true rfl) hrun2 dL_1728 (fun r2 h2 H2 locs2 hq2 hP2 hh2 hor2 hS2 => ?_)
  obtain ⟨rfl, hI2⟩ := hq2
  refine lv_icmp_eq (tgt := 1736) hx hb dL_1731 (by decide) (fun _ => next h2 H2 locs2 hP2 hh2 hI2 hS2) (fun c9 => absurd rfl c9)
