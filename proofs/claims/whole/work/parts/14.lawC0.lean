/-- what the law's loop holds -/
def LawH (p : Program) (s : State) (m : MethodId) (meth : Method) (c : Code) (b L : Nat) (xs : Nat → Int32) (ads : Nat → Nat) (cA : Nat → ClassId) (D : va_G) : Prop :=
  p.tables.exec = Jvm.exec ∧ c.code = code ∧ c.maxLocals = 4 ∧ s.vm.findClass "ThimbleLawLaw" = some m.cls ∧ (∀ w ∈ BIG, w.before #[Value.ref b] s = true) ∧ va_X b L xs s s.heap ∧ b < s.heap.size ∧ L ≤ 3072 ∧ apA ads ∧ va_K D fcs (tysL cA) s ∧ NX s ∧ SX ads s ∧ (∀ o, o < nOb → s.heap.size ≤ ads o)
theorem nzI_r (x : Int) : -2147483648 ≤ nzI x ∧ nzI x < 2147483648 := by unfold nzI; split <;> omega
theorem sw_law_13 : Cond.methodLink "ThimbleLawLaw" 13 (mNm 110) ∈ BIG := big_of (tpA_in (q := (2, 100)) rfl) rfl
theorem sw_law_17 : Cond.methodLink "ThimbleLawLaw" 17 (mNm 177) ∈ BIG := big_of (tpA_in (q := (5, 210)) rfl) rfl
set_option maxHeartbeats 4000000 in
theorem law_case_0 {p : Program} {l : Launch} {e : Env} {s : State} {m : MethodId} {below : List Frame} {meth : Method} {c : Code} {b L : Nat} {xs : Nat → Int32} {ads : Nat → Nat} {cA : Nat → ClassId} {D : va_G} {Inv : Nat → Hp → Prop} {QQ : State → Prop} {kc ks : Nat} (hkc : kc ≤ 600000) (hks : ks ≤ 7302250) (hH : LawH p s m meth c b L xs ads cA D) (hop : op_one Inv) {H : Heap} {ls : Array Slot} {h : Hp} {i : Nat} (hi : i + 6 ≤ L) (hl : lv_has ls 4 [(0, .ref b), (1, .ref (ads 0)), (2, .ref (ads 84)), (3, .int (Int32.ofInt (i : Int)))]) (hP : va_P D fcs (wld ads cA h) H) (hh : okh h) (hI : Inv (i / 6) h) (hS : va_S (inA ads) s.heap H [])
    (next : ∀ (h2 : Hp) (H2 : Heap) (locs2 : List Loc), va_P D fcs (wld ads cA h2) H2 → okh h2 → Inv (i / 6 + 1) h2 → va_S (inA ads) s.heap H2 locs2 → W p l e room_1 s m #[Value.ref b] below meth c H2 locs2 kc ks QQ (F0 m 1736 ls [])) :
    W p l e room_1 s m #[Value.ref b] below meth c H [] kc ks QQ (F0 m 244 ls []) := by
  obtain ⟨hx, hb, hml, hown, hts, hX, hbl, hL, hap, hK, hN, hSX, hge⟩ := hH
  have hbA : ¬ inA ads b := fun ⟨o, ho, e⟩ => by have := hge o ho; omega
  have hxr : inX (fun j => (xs (i + j)).toInt) := fun j => i32r _
  have hrun := hop (fun j => (xs (i + j)).toInt) hxr (i / 6) (by omega) h hI hh
  refine lv_aload_n hx hb dL_244 rfl (lv_at hl 1 rfl) ?_
  refine ld_arg (pc := 245) (j := 1) (n := 1) (q0 := 0) (q1 := 0) (q2 := 0) hx hb hX hbl hbA hS rfl (lv_at hl 0 rfl) (lv_at hl 3 rfl) (by omega) hL dL_245 dL_246 dL_247 dL_248 dL_249 ?_
  refine ld_arg (pc := 250) (j := 2) (n := 2) (q0 := 0) (q1 := 0) (q2 := 0) hx hb hX hbl hbA hS rfl (lv_at hl 0 rfl) (lv_at hl 3 rfl) (by omega) hL dL_250 dL_251 dL_252 dL_253 dL_254 ?_
  refine ld_arg (pc := 255) (j := 3) (n := 3) (q0 := 0) (q1 := 0) (q2 := 0) hx hb hX hbl hbA hS rfl (lv_at hl 0 rfl) (lv_at hl 3 rfl) (by omega) hL dL_255 dL_256 dL_257 dL_258 dL_259 ?_
  refine law_inv (o := 0) (a := 110) (idx := 13) (av := [vI (xs (i + 1)).toInt, vI (xs (i + 2)).toInt, vI (xs (i + 3)).toInt]) (rest := []) hx hb hml hown hts hap hK hN hSX (by decide) rfl sw_law_13 rfl (Nat.le_of_ble_eq_true rfl) rfl (okl.cons (i32r _) (okl.cons (i32r _) (okl.cons (i32r _) (fun _ h9 => absurd h9 List.not_mem_nil)))) hh hl.1 hP hS hkc hks (Nat.zero_le _) hrun dL_260 (fun r h1 H1 locs1 hq hP1 hh1 hor1 hS1 => ?_)
  obtain ⟨z, rfl, hrun2⟩ := hq
  have hS := hS1
  refine lv_aload_n hx hb dL_263 rfl (lv_at hl 2 rfl) ?_
  refine ld_arg (pc := 264) (j := 1) (n := 1) (q0 := 0) (q1 := 0) (q2 := 0) hx hb hX hbl hbA hS rfl (lv_at hl 0 rfl) (lv_at hl 3 rfl) (by omega) hL dL_264 dL_265 dL_266 dL_267 dL_268 ?_
  refine ld_arg (pc := 269) (j := 2) (n := 2) (q0 := 0) (q1 := 0) (q2 := 0) hx hb hX hbl hbA hS rfl (lv_at hl 0 rfl) (lv_at hl 3 rfl) (by omega) hL dL_269 dL_270 dL_271 dL_272 dL_273 ?_
  refine ld_arg (pc := 274) (j := 3) (n := 3) (q0 := 0) (q1 := 0) (q2 := 0) hx hb hX hbl hbA hS rfl (lv_at hl 0 rfl) (lv_at hl 3 rfl) (by omega) hL dL_274 dL_275 dL_276 dL_277 dL_278 ?_
  refine law_inv (o := 84) (a := 177) (idx := 17) (av := [vI (xs (i + 1)).toInt, vI (xs (i + 2)).toInt, vI (xs (i + 3)).toInt]) (rest := [cv ads (vI z)]) hx hb hml hown hts hap hK hN hSX (by decide) rfl sw_law_17 rfl (Nat.le_of_ble_eq_true rfl) rfl (okl.cons (i32r _) (okl.cons (i32r _) (okl.cons (i32r _) (fun _ h9 => absurd h9 List.not_mem_nil)))) hh1 hl.1 hP1 hS hkc hks (Nat.le_of_ble_eq_true rfl) hrun2 dL_279 (fun r2 h2 H2 locs2 hq2 hP2 hh2 hor2 hS2 => ?_)
  obtain ⟨rfl, hI2⟩ := hq2
  refine lv_icmp_eq (tgt := 1736) hx hb dL_282 (by decide) (fun _ => next h2 H2 locs2 hP2 hh2 hI2 hS2) (fun c9 => absurd rfl c9)
theorem sw_law_18 : Cond.methodLink "ThimbleLawLaw" 18 (mNm 111) ∈ BIG := big_of (tpA_in (q := (2, 121)) rfl) rfl
theorem sw_law_22 : Cond.methodLink "ThimbleLawLaw" 22 (mNm 179) ∈ BIG := big_of (tpA_in (q := (5, 229)) rfl) rfl
set_option maxHeartbeats 4000000 in
theorem law_case_1 {p : Program} {l : Launch} {e : Env} {s : State} {m : MethodId} {below : List Frame} {meth : Method} {c : Code} {b L : Nat} {xs : Nat → Int32} {ads : Nat → Nat} {cA : Nat → ClassId} {D : va_G} {Inv : Nat → Hp → Prop} {QQ : State → Prop} {kc ks : Nat} (hkc : kc ≤ 600000) (hks : ks ≤ 7302250) (hH : LawH p s m meth c b L xs ads cA D) (hop : op_brim Inv) {H : Heap} {ls : Array Slot} {h : Hp} {i : Nat} (hi : i + 6 ≤ L) (hl : lv_has ls 4 [(0, .ref b), (1, .ref (ads 0)), (2, .ref (ads 84)), (3, .int (Int32.ofInt (i : Int)))]) (hP : va_P D fcs (wld ads cA h) H) (hh : okh h) (hI : Inv (i / 6) h) (hS : va_S (inA ads) s.heap H [])
    (next : ∀ (h2 : Hp) (H2 : Heap) (locs2 : List Loc), va_P D fcs (wld ads cA h2) H2 → okh h2 → Inv (i / 6 + 1) h2 → va_S (inA ads) s.heap H2 locs2 → W p l e room_1 s m #[Value.ref b] below meth c H2 locs2 kc ks QQ (F0 m 1736 ls [])) :
    W p l e room_1 s m #[Value.ref b] below meth c H [] kc ks QQ (F0 m 287 ls []) := by
  obtain ⟨hx, hb, hml, hown, hts, hX, hbl, hL, hap, hK, hN, hSX, hge⟩ := hH
  have hbA : ¬ inA ads b := fun ⟨o, ho, e⟩ => by have := hge o ho; omega
  have hxr : inX (fun j => (xs (i + j)).toInt) := fun j => i32r _
  have hrun := hop (fun j => (xs (i + j)).toInt) hxr (i / 6) (by omega) h hI hh
  refine lv_aload_n hx hb dL_287 rfl (lv_at hl 1 rfl) ?_
  refine ld_arg (pc := 288) (j := 1) (n := 1) (q0 := 0) (q1 := 0) (q2 := 0) hx hb hX hbl hbA hS rfl (lv_at hl 0 rfl) (lv_at hl 3 rfl) (by omega) hL dL_288 dL_289 dL_290 dL_291 dL_292 ?_
  refine ld_arg (pc := 293) (j := 2) (n := 2) (q0 := 0) (q1 := 0) (q2 := 0) hx hb hX hbl hbA hS rfl (lv_at hl 0 rfl) (lv_at hl 3 rfl) (by omega) hL dL_293 dL_294 dL_295 dL_296 dL_297 ?_
  refine law_inv (o := 0) (a := 111) (idx := 18) (av := [vI (xs (i + 1)).toInt, vI (xs (i + 2)).toInt]) (rest := []) hx hb hml hown hts hap hK hN hSX (by decide) rfl sw_law_18 rfl (Nat.le_of_ble_eq_true rfl) rfl (okl.cons (i32r _) (okl.cons (i32r _) (fun _ h9 => absurd h9 List.not_mem_nil))) hh hl.1 hP hS hkc hks (Nat.zero_le _) hrun dL_298 (fun r h1 H1 locs1 hq hP1 hh1 hor1 hS1 => ?_)
  obtain ⟨z, rfl, hrun2⟩ := hq
  have hS := hS1
  refine lv_aload_n hx hb dL_301 rfl (lv_at hl 2 rfl) ?_
  refine ld_arg (pc := 302) (j := 1) (n := 1) (q0 := 0) (q1 := 0) (q2 := 0) hx hb hX hbl hbA hS rfl (lv_at hl 0 rfl) (lv_at hl 3 rfl) (by omega) hL dL_302 dL_303 dL_304 dL_305 dL_306 ?_
  refine ld_arg (pc := 307) (j := 2) (n := 2) (q0 := 0) (q1 := 0) (q2 := 0) hx hb hX hbl hbA hS rfl (lv_at hl 0 rfl) (lv_at hl 3 rfl) (by omega) hL dL_307 dL_308 dL_309 dL_310 dL_311 ?_
  refine law_inv (o := 84) (a := 179) (idx := 22) (av := [vI (xs (i + 1)).toInt, vI (xs (i + 2)).toInt]) (rest := [cv ads (vI z)]) hx hb hml hown hts hap hK hN hSX (by decide) rfl sw_law_22 rfl (Nat.le_of_ble_eq_true rfl) rfl (okl.cons (i32r _) (okl.cons (i32r _) (fun _ h9 => absurd h9 List.not_mem_nil))) hh1 hl.1 hP1 hS hkc hks (Nat.le_of_ble_eq_true rfl) hrun2 dL_312 (fun r2 h2 H2 locs2 hq2 hP2 hh2 hor2 hS2 => ?_)
  obtain ⟨rfl, hI2⟩ := hq2
  refine lv_icmp_eq (tgt := 1736) hx hb dL_315 (by decide) (fun _ => next h2 H2 locs2 hP2 hh2 hI2 hS2) (fun c9 => absurd rfl c9)
theorem sw_law_23 : Cond.methodLink "ThimbleLawLaw" 23 (mNm 112) ∈ BIG := big_of (tpA_in (q := (2, 133)) rfl) rfl
theorem sw_law_27 : Cond.methodLink "ThimbleLawLaw" 27 (mNm 180) ∈ BIG := big_of (tpA_in (q := (5, 236)) rfl) rfl
set_option maxHeartbeats 4000000 in
theorem law_case_2 {p : Program} {l : Launch} {e : Env} {s : State} {m : MethodId} {below : List Frame} {meth : Method} {c : Code} {b L : Nat} {xs : Nat → Int32} {ads : Nat → Nat} {cA : Nat → ClassId} {D : va_G} {Inv : Nat → Hp → Prop} {QQ : State → Prop} {kc ks : Nat} (hkc : kc ≤ 600000) (hks : ks ≤ 7302250) (hH : LawH p s m meth c b L xs ads cA D) (hop : op_standard Inv) {H : Heap} {ls : Array Slot} {h : Hp} {i : Nat} (hi : i + 6 ≤ L) (hl : lv_has ls 4 [(0, .ref b), (1, .ref (ads 0)), (2, .ref (ads 84)), (3, .int (Int32.ofInt (i : Int)))]) (hP : va_P D fcs (wld ads cA h) H) (hh : okh h) (hI : Inv (i / 6) h) (hS : va_S (inA ads) s.heap H [])
    (next : ∀ (h2 : Hp) (H2 : Heap) (locs2 : List Loc), va_P D fcs (wld ads cA h2) H2 → okh h2 → Inv (i / 6 + 1) h2 → va_S (inA ads) s.heap H2 locs2 → W p l e room_1 s m #[Value.ref b] below meth c H2 locs2 kc ks QQ (F0 m 1736 ls [])) :
    W p l e room_1 s m #[Value.ref b] below meth c H [] kc ks QQ (F0 m 320 ls []) := by
  obtain ⟨hx, hb, hml, hown, hts, hX, hbl, hL, hap, hK, hN, hSX, hge⟩ := hH
  have hbA : ¬ inA ads b := fun ⟨o, ho, e⟩ => by have := hge o ho; omega
  have hxr : inX (fun j => (xs (i + j)).toInt) := fun j => i32r _
  have hrun := hop (fun j => (xs (i + j)).toInt) hxr (i / 6) (by omega) h hI hh
  refine lv_aload_n hx hb dL_320 rfl (lv_at hl 1 rfl) ?_
  refine ld_arg (pc := 321) (j := 1) (n := 1) (q0 := 0) (q1 := 0) (q2 := 0) hx hb hX hbl hbA hS rfl (lv_at hl 0 rfl) (lv_at hl 3 rfl) (by omega) hL dL_321 dL_322 dL_323 dL_324 dL_325 ?_
  refine law_inv (o := 0) (a := 112) (idx := 23) (av := [vI (xs (i + 1)).toInt]) (rest := []) hx hb hml hown hts hap hK hN hSX (by decide) rfl sw_law_23 rfl (Nat.le_of_ble_eq_true rfl) rfl (okl.cons (i32r _) (fun _ h9 => absurd h9 List.not_mem_nil)) hh hl.1 hP hS hkc hks (Nat.zero_le _) hrun dL_326 (fun r h1 H1 locs1 hq hP1 hh1 hor1 hS1 => ?_)
  obtain ⟨z, rfl, hrun2⟩ := hq
  have hS := hS1
  refine lv_aload_n hx hb dL_329 rfl (lv_at hl 2 rfl) ?_
  refine ld_arg (pc := 330) (j := 1) (n := 1) (q0 := 0) (q1 := 0) (q2 := 0) hx hb hX hbl hbA hS rfl (lv_at hl 0 rfl) (lv_at hl 3 rfl) (by omega) hL dL_330 dL_331 dL_332 dL_333 dL_334 ?_
  refine law_inv (o := 84) (a := 180) (idx := 27) (av := [vI (xs (i + 1)).toInt]) (rest := [cv ads (vI z)]) hx hb hml hown hts hap hK hN hSX (by decide) rfl sw_law_27 rfl (Nat.le_of_ble_eq_true rfl) rfl (okl.cons (i32r _) (fun _ h9 => absurd h9 List.not_mem_nil)) hh1 hl.1 hP1 hS hkc hks (Nat.le_of_ble_eq_true rfl) hrun2 dL_335 (fun r2 h2 H2 locs2 hq2 hP2 hh2 hor2 hS2 => ?_)
  obtain ⟨rfl, hI2⟩ := hq2
  refine lv_icmp_eq (tgt := 1736) hx hb dL_338 (by decide) (fun _ => next h2 H2 locs2 hP2 hh2 hI2 hS2) (fun c9 => absurd rfl c9)
theorem sw_law_28 : Cond.methodLink "ThimbleLawLaw" 28 (mNm 113) ∈ BIG := big_of (tpA_in (q := (2, 145)) rfl) rfl
theorem sw_law_32 : Cond.methodLink "ThimbleLawLaw" 32 (mNm 182) ∈ BIG := big_of (tpA_in (q := (6, 0)) rfl) rfl
set_option maxHeartbeats 4000000 in
theorem law_case_3 {p : Program} {l : Launch} {e : Env} {s : State} {m : MethodId} {below : List Frame} {meth : Method} {c : Code} {b L : Nat} {xs : Nat → Int32} {ads : Nat → Nat} {cA : Nat → ClassId} {D : va_G} {Inv : Nat → Hp → Prop} {QQ : State → Prop} {kc ks : Nat} (hkc : kc ≤ 600000) (hks : ks ≤ 7302250) (hH : LawH p s m meth c b L xs ads cA D) (hop : op_feed Inv) {H : Heap} {ls : Array Slot} {h : Hp} {i : Nat} (hi : i + 6 ≤ L) (hl : lv_has ls 4 [(0, .ref b), (1, .ref (ads 0)), (2, .ref (ads 84)), (3, .int (Int32.ofInt (i : Int)))]) (hP : va_P D fcs (wld ads cA h) H) (hh : okh h) (hI : Inv (i / 6) h) (hS : va_S (inA ads) s.heap H [])
    (next : ∀ (h2 : Hp) (H2 : Heap) (locs2 : List Loc), va_P D fcs (wld ads cA h2) H2 → okh h2 → Inv (i / 6 + 1) h2 → va_S (inA ads) s.heap H2 locs2 → W p l e room_1 s m #[Value.ref b] below meth c H2 locs2 kc ks QQ (F0 m 1736 ls [])) :
    W p l e room_1 s m #[Value.ref b] below meth c H [] kc ks QQ (F0 m 343 ls []) := by
  obtain ⟨hx, hb, hml, hown, hts, hX, hbl, hL, hap, hK, hN, hSX, hge⟩ := hH
  have hbA : ¬ inA ads b := fun ⟨o, ho, e⟩ => by have := hge o ho; omega
  have hxr : inX (fun j => (xs (i + j)).toInt) := fun j => i32r _
  have hrun := hop (fun j => (xs (i + j)).toInt) hxr (i / 6) (by omega) h hI hh
  refine lv_aload_n hx hb dL_343 rfl (lv_at hl 1 rfl) ?_
  refine ld_arg (pc := 344) (j := 1) (n := 1) (q0 := 0) (q1 := 0) (q2 := 0) hx hb hX hbl hbA hS rfl (lv_at hl 0 rfl) (lv_at hl 3 rfl) (by omega) hL dL_344 dL_345 dL_346 dL_347 dL_348 ?_
  refine ld_arg (pc := 349) (j := 2) (n := 2) (q0 := 0) (q1 := 0) (q2 := 0) hx hb hX hbl hbA hS rfl (lv_at hl 0 rfl) (lv_at hl 3 rfl) (by omega) hL dL_349 dL_350 dL_351 dL_352 dL_353 ?_
  refine ld_arg (pc := 354) (j := 3) (n := 3) (q0 := 0) (q1 := 0) (q2 := 0) hx hb hX hbl hbA hS rfl (lv_at hl 0 rfl) (lv_at hl 3 rfl) (by omega) hL dL_354 dL_355 dL_356 dL_357 dL_358 ?_
  refine ld_arg (pc := 359) (j := 4) (n := 4) (q0 := 0) (q1 := 0) (q2 := 0) hx hb hX hbl hbA hS rfl (lv_at hl 0 rfl) (lv_at hl 3 rfl) (by omega) hL dL_359 dL_360 dL_361 dL_362 dL_363 ?_
  refine ld_arg (pc := 364) (j := 5) (n := 5) (q0 := 0) (q1 := 0) (q2 := 0) hx hb hX hbl hbA hS rfl (lv_at hl 0 rfl) (lv_at hl 3 rfl) (by omega) hL dL_364 dL_365 dL_366 dL_367 dL_368 ?_
  refine law_inv (o := 0) (a := 113) (idx := 28) (av := [vI (xs (i + 1)).toInt, vI (xs (i + 2)).toInt, vI (xs (i + 3)).toInt, vI (xs (i + 4)).toInt, vI (xs (i + 5)).toInt]) (rest := []) hx hb hml hown hts hap hK hN hSX (by decide) rfl sw_law_28 rfl (Nat.le_of_ble_eq_true rfl) rfl (okl.cons (i32r _) (okl.cons (i32r _) (okl.cons (i32r _) (okl.cons (i32r _) (okl.cons (i32r _) (fun _ h9 => absurd h9 List.not_mem_nil)))))) hh hl.1 hP hS hkc hks (Nat.zero_le _) hrun dL_369 (fun r h1 H1 locs1 hq hP1 hh1 hor1 hS1 => ?_)
  obtain ⟨z, rfl, hrun2⟩ := hq
  have hS := hS1
  refine lv_aload_n hx hb dL_372 rfl (lv_at hl 2 rfl) ?_
  refine ld_arg (pc := 373) (j := 1) (n := 1) (q0 := 0) (q1 := 0) (q2 := 0) hx hb hX hbl hbA hS rfl (lv_at hl 0 rfl) (lv_at hl 3 rfl) (by omega) hL dL_373 dL_374 dL_375 dL_376 dL_377 ?_
  refine ld_arg (pc := 378) (j := 2) (n := 2) (q0 := 0) (q1 := 0) (q2 := 0) hx hb hX hbl hbA hS rfl (lv_at hl 0 rfl) (lv_at hl 3 rfl) (by omega) hL dL_378 dL_379 dL_380 dL_381 dL_382 ?_
  refine ld_arg (pc := 383) (j := 3) (n := 3) (q0 := 0) (q1 := 0) (q2 := 0) hx hb hX hbl hbA hS rfl (lv_at hl 0 rfl) (lv_at hl 3 rfl) (by omega) hL dL_383 dL_384 dL_385 dL_386 dL_387 ?_
  refine ld_arg (pc := 388) (j := 4) (n := 4) (q0 := 0) (q1 := 0) (q2 := 0) hx hb hX hbl hbA hS rfl (lv_at hl 0 rfl) (lv_at hl 3 rfl) (by omega) hL dL_388 dL_389 dL_390 dL_391 dL_392 ?_
  refine ld_arg (pc := 393) (j := 5) (n := 5) (q0 := 0) (q1 := 0) (q2 := 0) hx hb hX hbl hbA hS rfl (lv_at hl 0 rfl) (lv_at hl 3 rfl) (by omega) hL dL_393 dL_394 dL_395 dL_396 dL_397 ?_
  refine law_inv (o := 84) (a := 182) (idx := 32) (av := [vI (xs (i + 1)).toInt, vI (xs (i + 2)).toInt, vI (xs (i + 3)).toInt, vI (xs (i + 4)).toInt, vI (xs (i + 5)).toInt]) (rest := [cv ads (vI z)]) hx hb hml hown hts hap hK hN hSX (by decide) rfl sw_law_32 rfl (Nat.le_of_ble_eq_true rfl) rfl (okl.cons (i32r _) (okl.cons (i32r _) (okl.cons (i32r _) (okl.cons (i32r _) (okl.cons (i32r _) (fun _ h9 => absurd h9 List.not_mem_nil)))))) hh1 hl.1 hP1 hS hkc hks (Nat.le_of_ble_eq_true rfl) hrun2 dL_398 (fun r2 h2 H2 locs2 hq2 hP2 hh2 hor2 hS2 => ?_)
  obtain ⟨rfl, hI2⟩ := hq2
  refine lv_icmp_eq (tgt := 1736) hx hb dL_401 (by decide) (fun _ => next h2 H2 locs2 hP2 hh2 hI2 hS2) (fun c9 => absurd rfl c9)
theorem sw_law_33 : Cond.methodLink "ThimbleLawLaw" 33 (mNm 115) ∈ BIG := big_of (tpA_in (q := (2, 153)) rfl) rfl
theorem sw_law_37 : Cond.methodLink "ThimbleLawLaw" 37 (mNm 183) ∈ BIG := big_of (tpA_in (q := (6, 8)) rfl) rfl
set_option maxHeartbeats 4000000 in
theorem law_case_4 {p : Program} {l : Launch} {e : Env} {s : State} {m : MethodId} {below : List Frame} {meth : Method} {c : Code} {b L : Nat} {xs : Nat → Int32} {ads : Nat → Nat} {cA : Nat → ClassId} {D : va_G} {Inv : Nat → Hp → Prop} {QQ : State → Prop} {kc ks : Nat} (hkc : kc ≤ 600000) (hks : ks ≤ 7302250) (hH : LawH p s m meth c b L xs ads cA D) (hop : op_end Inv) {H : Heap} {ls : Array Slot} {h : Hp} {i : Nat} (hi : i + 6 ≤ L) (hl : lv_has ls 4 [(0, .ref b), (1, .ref (ads 0)), (2, .ref (ads 84)), (3, .int (Int32.ofInt (i : Int)))]) (hP : va_P D fcs (wld ads cA h) H) (hh : okh h) (hI : Inv (i / 6) h) (hS : va_S (inA ads) s.heap H [])
    (next : ∀ (h2 : Hp) (H2 : Heap) (locs2 : List Loc), va_P D fcs (wld ads cA h2) H2 → okh h2 → Inv (i / 6 + 1) h2 → va_S (inA ads) s.heap H2 locs2 → W p l e room_1 s m #[Value.ref b] below meth c H2 locs2 kc ks QQ (F0 m 1736 ls [])) :
    W p l e room_1 s m #[Value.ref b] below meth c H [] kc ks QQ (F0 m 406 ls []) := by
  obtain ⟨hx, hb, hml, hown, hts, hX, hbl, hL, hap, hK, hN, hSX, hge⟩ := hH
  have hbA : ¬ inA ads b := fun ⟨o, ho, e⟩ => by have := hge o ho; omega
  have hxr : inX (fun j => (xs (i + j)).toInt) := fun j => i32r _
  have hrun := hop (fun j => (xs (i + j)).toInt) hxr (i / 6) (by omega) h hI hh
  refine lv_aload_n hx hb dL_406 rfl (lv_at hl 1 rfl) ?_
  refine ld_arg (pc := 407) (j := 1) (n := 1) (q0 := 0) (q1 := 0) (q2 := 0) hx hb hX hbl hbA hS rfl (lv_at hl 0 rfl) (lv_at hl 3 rfl) (by omega) hL dL_407 dL_408 dL_409 dL_410 dL_411 ?_
  refine law_inv (o := 0) (a := 115) (idx := 33) (av := [vI (xs (i + 1)).toInt]) (rest := []) hx hb hml hown hts hap hK hN hSX (by decide) rfl sw_law_33 rfl (Nat.le_of_ble_eq_true rfl) rfl (okl.cons (i32r _) (fun _ h9 => absurd h9 List.not_mem_nil)) hh hl.1 hP hS hkc hks (Nat.zero_le _) hrun dL_412 (fun r h1 H1 locs1 hq hP1 hh1 hor1 hS1 => ?_)
  obtain ⟨z, rfl, hrun2⟩ := hq
  have hS := hS1
  refine lv_aload_n hx hb dL_415 rfl (lv_at hl 2 rfl) ?_
  refine ld_arg (pc := 416) (j := 1) (n := 1) (q0 := 0) (q1 := 0) (q2 := 0) hx hb hX hbl hbA hS rfl (lv_at hl 0 rfl) (lv_at hl 3 rfl) (by omega) hL dL_416 dL_417 dL_418 dL_419 dL_420 ?_
  refine law_inv (o := 84) (a := 183) (idx := 37) (av := [vI (xs (i + 1)).toInt]) (rest := [cv ads (vI z)]) hx hb hml hown hts hap hK hN hSX (by decide) rfl sw_law_37 rfl (Nat.le_of_ble_eq_true rfl) rfl (okl.cons (i32r _) (fun _ h9 => absurd h9 List.not_mem_nil)) hh1 hl.1 hP1 hS hkc hks (Nat.le_of_ble_eq_true rfl) hrun2 dL_421 (fun r2 h2 H2 locs2 hq2 hP2 hh2 hor2 hS2 => ?_)
  obtain ⟨rfl, hI2⟩ := hq2
  refine lv_icmp_eq (tgt := 1736) hx hb dL_424 (by decide) (fun _ => next h2 H2 locs2 hP2 hh2 hI2 hS2) (fun c9 => absurd rfl c9)
theorem sw_law_38 : Cond.methodLink "ThimbleLawLaw" 38 (mNm 116) ∈ BIG := big_of (tpA_in (q := (2, 157)) rfl) rfl
theorem sw_law_42 : Cond.methodLink "ThimbleLawLaw" 42 (mNm 221) ∈ BIG := big_of (tpA_in (q := (6, 12)) rfl) rfl
set_option maxHeartbeats 4000000 in
theorem law_case_5 {p : Program} {l : Launch} {e : Env} {s : State} {m : MethodId} {below : List Frame} {meth : Method} {c : Code} {b L : Nat} {xs : Nat → Int32} {ads : Nat → Nat} {cA : Nat → ClassId} {D : va_G} {Inv : Nat → Hp → Prop} {QQ : State → Prop} {kc ks : Nat} (hkc : kc ≤ 600000) (hks : ks ≤ 7302250) (hH : LawH p s m meth c b L xs ads cA D) (hop : op_text Inv) {H : Heap} {ls : Array Slot} {h : Hp} {i : Nat} (hi : i + 6 ≤ L) (hl : lv_has ls 4 [(0, .ref b), (1, .ref (ads 0)), (2, .ref (ads 84)), (3, .int (Int32.ofInt (i : Int)))]) (hP : va_P D fcs (wld ads cA h) H) (hh : okh h) (hI : Inv (i / 6) h) (hS : va_S (inA ads) s.heap H [])
    (next : ∀ (h2 : Hp) (H2 : Heap) (locs2 : List Loc), va_P D fcs (wld ads cA h2) H2 → okh h2 → Inv (i / 6 + 1) h2 → va_S (inA ads) s.heap H2 locs2 → W p l e room_1 s m #[Value.ref b] below meth c H2 locs2 kc ks QQ (F0 m 1736 ls [])) :
    W p l e room_1 s m #[Value.ref b] below meth c H [] kc ks QQ (F0 m 429 ls []) := by
  obtain ⟨hx, hb, hml, hown, hts, hX, hbl, hL, hap, hK, hN, hSX, hge⟩ := hH
  have hbA : ¬ inA ads b := fun ⟨o, ho, e⟩ => by have := hge o ho; omega
  have hxr : inX (fun j => (xs (i + j)).toInt) := fun j => i32r _
  have hrun := hop (fun j => (xs (i + j)).toInt) hxr (i / 6) (by omega) h hI hh
  refine lv_aload_n hx hb dL_429 rfl (lv_at hl 1 rfl) ?_
  refine law_inv (o := 0) (a := 116) (idx := 38) (av := []) (rest := []) hx hb hml hown hts hap hK hN hSX (by decide) rfl sw_law_38 rfl (Nat.le_of_ble_eq_true rfl) rfl (fun _ h9 => absurd h9 List.not_mem_nil) hh hl.1 hP hS hkc hks (Nat.zero_le _) hrun dL_430 (fun r h1 H1 locs1 hq hP1 hh1 hor1 hS1 => ?_)
  obtain ⟨z, rfl, hrun2⟩ := hq
  have hS := hS1
  refine lv_aload_n hx hb dL_433 rfl (lv_at hl 2 rfl) ?_
  refine law_inv (o := 84) (a := 221) (idx := 42) (av := []) (rest := [cv ads (vI z)]) hx hb hml hown hts hap hK hN hSX (by decide) rfl sw_law_42 rfl (Nat.le_of_ble_eq_true rfl) rfl (fun _ h9 => absurd h9 List.not_mem_nil) hh1 hl.1 hP1 hS hkc hks (Nat.le_of_ble_eq_true rfl) hrun2 dL_434 (fun r2 h2 H2 locs2 hq2 hP2 hh2 hor2 hS2 => ?_)
  obtain ⟨rfl, hI2⟩ := hq2
  refine lv_icmp_eq (tgt := 1736) hx hb dL_437 (by decide) (fun _ => next h2 H2 locs2 hP2 hh2 hI2 hS2) (fun c9 => absurd rfl c9)
theorem sw_law_43 : Cond.methodLink "ThimbleLawLaw" 43 (mNm 117) ∈ BIG := big_of (tpA_in (q := (3, 88)) rfl) rfl
theorem sw_law_46 : Cond.methodLink "ThimbleLawLaw" 46 (mNm 222) ∈ BIG := big_of (tpA_in (q := (6, 160)) rfl) rfl
set_option maxHeartbeats 4000000 in
theorem law_case_6 {p : Program} {l : Launch} {e : Env} {s : State} {m : MethodId} {below : List Frame} {meth : Method} {c : Code} {b L : Nat} {xs : Nat → Int32} {ads : Nat → Nat} {cA : Nat → ClassId} {D : va_G} {Inv : Nat → Hp → Prop} {QQ : State → Prop} {kc ks : Nat} (hkc : kc ≤ 600000) (hks : ks ≤ 7302250) (hH : LawH p s m meth c b L xs ads cA D) (hop : op_fault Inv) {H : Heap} {ls : Array Slot} {h : Hp} {i : Nat} (hi : i + 6 ≤ L) (hl : lv_has ls 4 [(0, .ref b), (1, .ref (ads 0)), (2, .ref (ads 84)), (3, .int (Int32.ofInt (i : Int)))]) (hP : va_P D fcs (wld ads cA h) H) (hh : okh h) (hI : Inv (i / 6) h) (hS : va_S (inA ads) s.heap H [])
    (next : ∀ (h2 : Hp) (H2 : Heap) (locs2 : List Loc), va_P D fcs (wld ads cA h2) H2 → okh h2 → Inv (i / 6 + 1) h2 → va_S (inA ads) s.heap H2 locs2 → W p l e room_1 s m #[Value.ref b] below meth c H2 locs2 kc ks QQ (F0 m 1736 ls [])) :
    W p l e room_1 s m #[Value.ref b] below meth c H [] kc ks QQ (F0 m 442 ls []) := by
  obtain ⟨hx, hb, hml, hown, hts, hX, hbl, hL, hap, hK, hN, hSX, hge⟩ := hH
  have hbA : ¬ inA ads b := fun ⟨o, ho, e⟩ => by have := hge o ho; omega
  have hxr : inX (fun j => (xs (i + j)).toInt) := fun j => i32r _
  have hrun := hop (fun j => (xs (i + j)).toInt) hxr (i / 6) (by omega) h hI hh
  refine lv_aload_n hx hb dL_442 rfl (lv_at hl 1 rfl) ?_
  refine ld_arg (pc := 443) (j := 1) (n := 1) (q0 := 0) (q1 := 0) (q2 := 0) hx hb hX hbl hbA hS rfl (lv_at hl 0 rfl) (lv_at hl 3 rfl) (by omega) hL dL_443 dL_444 dL_445 dL_446 dL_447 ?_
  refine law_inv (o := 0) (a := 117) (idx := 43) (av := [vI (xs (i + 1)).toInt]) (rest := []) hx hb hml hown hts hap hK hN hSX (by decide) rfl sw_law_43 rfl (Nat.le_of_ble_eq_true rfl) rfl (okl.cons (i32r _) (fun _ h9 => absurd h9 List.not_mem_nil)) hh hl.1 hP hS hkc hks (Nat.zero_le _) hrun dL_448 (fun r h1 H1 locs1 hq hP1 hh1 hor1 hS1 => ?_)
  obtain ⟨z, rfl, hrun2⟩ := hq
  have hS := hS1
  refine lv_aload_n hx hb dL_451 rfl (lv_at hl 2 rfl) ?_
  refine ld_arg (pc := 452) (j := 1) (n := 1) (q0 := 0) (q1 := 0) (q2 := 0) hx hb hX hbl hbA hS rfl (lv_at hl 0 rfl) (lv_at hl 3 rfl) (by omega) hL dL_452 dL_453 dL_454 dL_455 dL_456 ?_
  refine law_inv (o := 84) (a := 222) (idx := 46) (av := [vI (xs (i + 1)).toInt]) (rest := [cv ads (vI z)]) hx hb hml hown hts hap hK hN hSX (by decide) rfl sw_law_46 rfl (Nat.le_of_ble_eq_true rfl) rfl (okl.cons (i32r _) (fun _ h9 => absurd h9 List.not_mem_nil)) hh1 hl.1 hP1 hS hkc hks (Nat.le_of_ble_eq_true rfl) hrun2 dL_457 (fun r2 h2 H2 locs2 hq2 hP2 hh2 hor2 hS2 => ?_)
  obtain ⟨rfl, hI2⟩ := hq2
  refine lv_icmp_eq (tgt := 1736) hx hb dL_460 (by decide) (fun _ => next h2 H2 locs2 hP2 hh2 hI2 hS2) (fun c9 => absurd rfl c9)
theorem sw_law_47 : Cond.methodLink "ThimbleLawLaw" 47 (mNm 118) ∈ BIG := big_of (tpA_in (q := (3, 92)) rfl) rfl
theorem sw_law_50 : Cond.methodLink "ThimbleLawLaw" 50 (mNm 223) ∈ BIG := big_of (tpA_in (q := (6, 164)) rfl) rfl
set_option maxHeartbeats 4000000 in
theorem law_case_7 {p : Program} {l : Launch} {e : Env} {s : State} {m : MethodId} {below : List Frame} {meth : Method} {c : Code} {b L : Nat} {xs : Nat → Int32} {ads : Nat → Nat} {cA : Nat → ClassId} {D : va_G} {Inv : Nat → Hp → Prop} {QQ : State → Prop} {kc ks : Nat} (hkc : kc ≤ 600000) (hks : ks ≤ 7302250) (hH : LawH p s m meth c b L xs ads cA D) (hop : op_by Inv) {H : Heap} {ls : Array Slot} {h : Hp} {i : Nat} (hi : i + 6 ≤ L) (hl : lv_has ls 4 [(0, .ref b), (1, .ref (ads 0)), (2, .ref (ads 84)), (3, .int (Int32.ofInt (i : Int)))]) (hP : va_P D fcs (wld ads cA h) H) (hh : okh h) (hI : Inv (i / 6) h) (hS : va_S (inA ads) s.heap H [])
    (next : ∀ (h2 : Hp) (H2 : Heap) (locs2 : List Loc), va_P D fcs (wld ads cA h2) H2 → okh h2 → Inv (i / 6 + 1) h2 → va_S (inA ads) s.heap H2 locs2 → W p l e room_1 s m #[Value.ref b] below meth c H2 locs2 kc ks QQ (F0 m 1736 ls [])) :
    W p l e room_1 s m #[Value.ref b] below meth c H [] kc ks QQ (F0 m 465 ls []) := by
  obtain ⟨hx, hb, hml, hown, hts, hX, hbl, hL, hap, hK, hN, hSX, hge⟩ := hH
  have hbA : ¬ inA ads b := fun ⟨o, ho, e⟩ => by have := hge o ho; omega
  have hxr : inX (fun j => (xs (i + j)).toInt) := fun j => i32r _
  have hrun := hop (fun j => (xs (i + j)).toInt) hxr (i / 6) (by omega) h hI hh
  refine lv_aload_n hx hb dL_465 rfl (lv_at hl 1 rfl) ?_
  refine ld_arg (pc := 466) (j := 1) (n := 1) (q0 := 0) (q1 := 0) (q2 := 0) hx hb hX hbl hbA hS rfl (lv_at hl 0 rfl) (lv_at hl 3 rfl) (by omega) hL dL_466 dL_467 dL_468 dL_469 dL_470 ?_
  refine law_inv (o := 0) (a := 118) (idx := 47) (av := [vI (xs (i + 1)).toInt]) (rest := []) hx hb hml hown hts hap hK hN hSX (by decide) rfl sw_law_47 rfl (Nat.le_of_ble_eq_true rfl) rfl (okl.cons (i32r _) (fun _ h9 => absurd h9 List.not_mem_nil)) hh hl.1 hP hS hkc hks (Nat.zero_le _) hrun dL_471 (fun r h1 H1 locs1 hq hP1 hh1 hor1 hS1 => ?_)
  obtain ⟨z, rfl, hrun2⟩ := hq
  have hS := hS1
  refine lv_aload_n hx hb dL_474 rfl (lv_at hl 2 rfl) ?_
  refine ld_arg (pc := 475) (j := 1) (n := 1) (q0 := 0) (q1 := 0) (q2 := 0) hx hb hX hbl hbA hS rfl (lv_at hl 0 rfl) (lv_at hl 3 rfl) (by omega) hL dL_475 dL_476 dL_477 dL_478 dL_479 ?_
  refine law_inv (o := 84) (a := 223) (idx := 50) (av := [vI (xs (i + 1)).toInt]) (rest := [cv ads (vI z)]) hx hb hml hown hts hap hK hN hSX (by decide) rfl sw_law_50 rfl (Nat.le_of_ble_eq_true rfl) rfl (okl.cons (i32r _) (fun _ h9 => absurd h9 List.not_mem_nil)) hh1 hl.1 hP1 hS hkc hks (Nat.le_of_ble_eq_true rfl) hrun2 dL_480 (fun r2 h2 H2 locs2 hq2 hP2 hh2 hor2 hS2 => ?_)
  obtain ⟨rfl, hI2⟩ := hq2
  refine lv_icmp_eq (tgt := 1736) hx hb dL_483 (by decide) (fun _ => next h2 H2 locs2 hP2 hh2 hI2 hS2) (fun c9 => absurd rfl c9)
theorem sw_law_51 : Cond.methodLink "ThimbleLawLaw" 51 (mNm 119) ∈ BIG := big_of (tpA_in (q := (3, 96)) rfl) rfl
theorem sw_law_54 : Cond.methodLink "ThimbleLawLaw" 54 (mNm 241) ∈ BIG := big_of (tpA_in (q := (6, 172)) rfl) rfl
set_option maxHeartbeats 4000000 in
theorem law_case_8 {p : Program} {l : Launch} {e : Env} {s : State} {m : MethodId} {below : List Frame} {meth : Method} {c : Code} {b L : Nat} {xs : Nat → Int32} {ads : Nat → Nat} {cA : Nat → ClassId} {D : va_G} {Inv : Nat → Hp → Prop} {QQ : State → Prop} {kc ks : Nat} (hkc : kc ≤ 600000) (hks : ks ≤ 7302250) (hH : LawH p s m meth c b L xs ads cA D) (hop : op_deed Inv) {H : Heap} {ls : Array Slot} {h : Hp} {i : Nat} (hi : i + 6 ≤ L) (hl : lv_has ls 4 [(0, .ref b), (1, .ref (ads 0)), (2, .ref (ads 84)), (3, .int (Int32.ofInt (i : Int)))]) (hP : va_P D fcs (wld ads cA h) H) (hh : okh h) (hI : Inv (i / 6) h) (hS : va_S (inA ads) s.heap H [])
    (next : ∀ (h2 : Hp) (H2 : Heap) (locs2 : List Loc), va_P D fcs (wld ads cA h2) H2 → okh h2 → Inv (i / 6 + 1) h2 → va_S (inA ads) s.heap H2 locs2 → W p l e room_1 s m #[Value.ref b] below meth c H2 locs2 kc ks QQ (F0 m 1736 ls [])) :
    W p l e room_1 s m #[Value.ref b] below meth c H [] kc ks QQ (F0 m 488 ls []) := by
  obtain ⟨hx, hb, hml, hown, hts, hX, hbl, hL, hap, hK, hN, hSX, hge⟩ := hH
  have hbA : ¬ inA ads b := fun ⟨o, ho, e⟩ => by have := hge o ho; omega
  have hxr : inX (fun j => (xs (i + j)).toInt) := fun j => i32r _
  have hrun := hop (fun j => (xs (i + j)).toInt) hxr (i / 6) (by omega) h hI hh
  refine lv_aload_n hx hb dL_488 rfl (lv_at hl 1 rfl) ?_
  refine ld_arg (pc := 489) (j := 1) (n := 1) (q0 := 0) (q1 := 0) (q2 := 0) hx hb hX hbl hbA hS rfl (lv_at hl 0 rfl) (lv_at hl 3 rfl) (by omega) hL dL_489 dL_490 dL_491 dL_492 dL_493 ?_
  refine ld_arg (pc := 494) (j := 2) (n := 2) (q0 := 0) (q1 := 0) (q2 := 0) hx hb hX hbl hbA hS rfl (lv_at hl 0 rfl) (lv_at hl 3 rfl) (by omega) hL dL_494 dL_495 dL_496 dL_497 dL_498 ?_
  refine ld_arg (pc := 499) (j := 3) (n := 3) (q0 := 0) (q1 := 0) (q2 := 0) hx hb hX hbl hbA hS rfl (lv_at hl 0 rfl) (lv_at hl 3 rfl) (by omega) hL dL_499 dL_500 dL_501 dL_502 dL_503 ?_
  refine law_inv (o := 0) (a := 119) (idx := 51) (av := [vI (xs (i + 1)).toInt, vI (xs (i + 2)).toInt, vI (xs (i + 3)).toInt]) (rest := []) hx hb hml hown hts hap hK hN hSX (by decide) rfl sw_law_51 rfl (Nat.le_of_ble_eq_true rfl) rfl (okl.cons (i32r _) (okl.cons (i32r _) (okl.cons (i32r _) (fun _ h9 => absurd h9 List.not_mem_nil)))) hh hl.1 hP hS hkc hks (Nat.zero_le _) hrun dL_504 (fun r h1 H1 locs1 hq hP1 hh1 hor1 hS1 => ?_)
  obtain ⟨z, rfl, hrun2⟩ := hq
  have hS := hS1
  refine lv_aload_n hx hb dL_507 rfl (lv_at hl 2 rfl) ?_
  refine ld_arg (pc := 508) (j := 1) (n := 1) (q0 := 0) (q1 := 0) (q2 := 0) hx hb hX hbl hbA hS rfl (lv_at hl 0 rfl) (lv_at hl 3 rfl) (by omega) hL dL_508 dL_509 dL_510 dL_511 dL_512 ?_
  refine ld_arg (pc := 513) (j := 2) (n := 2) (q0 := 0) (q1 := 0) (q2 := 0) hx hb hX hbl hbA hS rfl (lv_at hl 0 rfl) (lv_at hl 3 rfl) (by omega) hL dL_513 dL_514 dL_515 dL_516 dL_517 ?_
  refine ld_arg (pc := 518) (j := 3) (n := 3) (q0 := 0) (q1 := 0) (q2 := 0) hx hb hX hbl hbA hS rfl (lv_at hl 0 rfl) (lv_at hl 3 rfl) (by omega) hL dL_518 dL_519 dL_520 dL_521 dL_522 ?_
  refine law_inv (o := 84) (a := 241) (idx := 54) (av := [vI (xs (i + 1)).toInt, vI (xs (i + 2)).toInt, vI (xs (i + 3)).toInt]) (rest := [cv ads (vI z)]) hx hb hml hown hts hap hK hN hSX (by decide) rfl sw_law_54 rfl (Nat.le_of_ble_eq_true rfl) rfl (okl.cons (i32r _) (okl.cons (i32r _) (okl.cons (i32r _) (fun _ h9 => absurd h9 List.not_mem_nil)))) hh1 hl.1 hP1 hS hkc hks (Nat.le_of_ble_eq_true rfl) hrun2 dL_523 (fun r2 h2 H2 locs2 hq2 hP2 hh2 hor2 hS2 => ?_)
  obtain ⟨rfl, hI2⟩ := hq2
  refine lv_icmp_eq (tgt := 1736) hx hb dL_526 (by decide) (fun _ => next h2 H2 locs2 hP2 hh2 hI2 hS2) (fun c9 => absurd rfl c9)
theorem sw_law_55 : Cond.methodLink "ThimbleLawLaw" 55 (mNm 120) ∈ BIG := big_of (tpA_in (q := (3, 123)) rfl) rfl
theorem sw_law_59 : Cond.methodLink "ThimbleLawLaw" 59 (mNm 242) ∈ BIG := big_of (tpA_in (q := (6, 191)) rfl) rfl
set_option maxHeartbeats 4000000 in
theorem law_case_9 {p : Program} {l : Launch} {e : Env} {s : State} {m : MethodId} {below : List Frame} {meth : Method} {c : Code} {b L : Nat} {xs : Nat → Int32} {ads : Nat → Nat} {cA : Nat → ClassId} {D : va_G} {Inv : Nat → Hp → Prop} {QQ : State → Prop} {kc ks : Nat} (hkc : kc ≤ 600000) (hks : ks ≤ 7302250) (hH : LawH p s m meth c b L xs ads cA D) (hop : op_weep Inv) {H : Heap} {ls : Array Slot} {h : Hp} {i : Nat} (hi : i + 6 ≤ L) (hl : lv_has ls 4 [(0, .ref b), (1, .ref (ads 0)), (2, .ref (ads 84)), (3, .int (Int32.ofInt (i : Int)))]) (hP : va_P D fcs (wld ads cA h) H) (hh : okh h) (hI : Inv (i / 6) h) (hS : va_S (inA ads) s.heap H [])
    (next : ∀ (h2 : Hp) (H2 : Heap) (locs2 : List Loc), va_P D fcs (wld ads cA h2) H2 → okh h2 → Inv (i / 6 + 1) h2 → va_S (inA ads) s.heap H2 locs2 → W p l e room_1 s m #[Value.ref b] below meth c H2 locs2 kc ks QQ (F0 m 1736 ls [])) :
    W p l e room_1 s m #[Value.ref b] below meth c H [] kc ks QQ (F0 m 531 ls []) := by
  obtain ⟨hx, hb, hml, hown, hts, hX, hbl, hL, hap, hK, hN, hSX, hge⟩ := hH
  have hbA : ¬ inA ads b := fun ⟨o, ho, e⟩ => by have := hge o ho; omega
  have hxr : inX (fun j => (xs (i + j)).toInt) := fun j => i32r _
  have hrun := hop (fun j => (xs (i + j)).toInt) hxr (i / 6) (by omega) h hI hh
  refine lv_aload_n hx hb dL_531 rfl (lv_at hl 1 rfl) ?_
  refine ld_arg (pc := 532) (j := 1) (n := 1) (q0 := 0) (q1 := 0) (q2 := 0) hx hb hX hbl hbA hS rfl (lv_at hl 0 rfl) (lv_at hl 3 rfl) (by omega) hL dL_532 dL_533 dL_534 dL_535 dL_536 ?_
  refine ld_arg (pc := 537) (j := 2) (n := 2) (q0 := 0) (q1 := 0) (q2 := 0) hx hb hX hbl hbA hS rfl (lv_at hl 0 rfl) (lv_at hl 3 rfl) (by omega) hL dL_537 dL_538 dL_539 dL_540 dL_541 ?_
  refine law_inv (o := 0) (a := 120) (idx := 55) (av := [vI (xs (i + 1)).toInt, vI (xs (i + 2)).toInt]) (rest := []) hx hb hml hown hts hap hK hN hSX (by decide) rfl sw_law_55 rfl (Nat.le_of_ble_eq_true rfl) rfl (okl.cons (i32r _) (okl.cons (i32r _) (fun _ h9 => absurd h9 List.not_mem_nil))) hh hl.1 hP hS hkc hks (Nat.zero_le _) hrun dL_542 (fun r h1 H1 locs1 hq hP1 hh1 hor1 hS1 => ?_)
  obtain ⟨z, rfl, hrun2⟩ := hq
  have hS := hS1
  refine lv_aload_n hx hb dL_545 rfl (lv_at hl 2 rfl) ?_
  refine ld_arg (pc := 546) (j := 1) (n := 1) (q0 := 0) (q1 := 0) (q2 := 0) hx hb hX hbl hbA hS rfl (lv_at hl 0 rfl) (lv_at hl 3 rfl) (by omega) hL dL_546 dL_547 dL_548 dL_549 dL_550 ?_
  refine ld_arg (pc := 551) (j := 2) (n := 2) (q0 := 0) (q1 := 0) (q2 := 0) hx hb hX hbl hbA hS rfl (lv_at hl 0 rfl) (lv_at hl 3 rfl) (by omega) hL dL_551 dL_552 dL_553 dL_554 dL_555 ?_
  refine law_inv (o := 84) (a := 242) (idx := 59) (av := [vI (xs (i + 1)).toInt, vI (xs (i + 2)).toInt]) (rest := [cv ads (vI z)]) hx hb hml hown hts hap hK hN hSX (by decide) rfl sw_law_59 rfl (Nat.le_of_ble_eq_true rfl) rfl (okl.cons (i32r _) (okl.cons (i32r _) (fun _ h9 => absurd h9 List.not_mem_nil))) hh1 hl.1 hP1 hS hkc hks (Nat.le_of_ble_eq_true rfl) hrun2 dL_556 (fun r2 h2 H2 locs2 hq2 hP2 hh2 hor2 hS2 => ?_)
  obtain ⟨rfl, hI2⟩ := hq2
  refine lv_icmp_eq (tgt := 1736) hx hb dL_559 (by decide) (fun _ => next h2 H2 locs2 hP2 hh2 hI2 hS2) (fun c9 => absurd rfl c9)
theorem sw_law_60 : Cond.methodLink "ThimbleLawLaw" 60 (mNm 121) ∈ BIG := big_of (tpA_in (q := (3, 131)) rfl) rfl
theorem sw_law_63 : Cond.methodLink "ThimbleLawLaw" 63 (mNm 245) ∈ BIG := big_of (tpA_in (q := (6, 195)) rfl) rfl
set_option maxHeartbeats 4000000 in
theorem law_case_10 {p : Program} {l : Launch} {e : Env} {s : State} {m : MethodId} {below : List Frame} {meth : Method} {c : Code} {b L : Nat} {xs : Nat → Int32} {ads : Nat → Nat} {cA : Nat → ClassId} {D : va_G} {Inv : Nat → Hp → Prop} {QQ : State → Prop} {kc ks : Nat} (hkc : kc ≤ 600000) (hks : ks ≤ 7302250) (hH : LawH p s m meth c b L xs ads cA D) (hop : op_wash Inv) {H : Heap} {ls : Array Slot} {h : Hp} {i : Nat} (hi : i + 6 ≤ L) (hl : lv_has ls 4 [(0, .ref b), (1, .ref (ads 0)), (2, .ref (ads 84)), (3, .int (Int32.ofInt (i : Int)))]) (hP : va_P D fcs (wld ads cA h) H) (hh : okh h) (hI : Inv (i / 6) h) (hS : va_S (inA ads) s.heap H [])
    (next : ∀ (h2 : Hp) (H2 : Heap) (locs2 : List Loc), va_P D fcs (wld ads cA h2) H2 → okh h2 → Inv (i / 6 + 1) h2 → va_S (inA ads) s.heap H2 locs2 → W p l e room_1 s m #[Value.ref b] below meth c H2 locs2 kc ks QQ (F0 m 1736 ls [])) :
    W p l e room_1 s m #[Value.ref b] below meth c H [] kc ks QQ (F0 m 564 ls []) := by
  obtain ⟨hx, hb, hml, hown, hts, hX, hbl, hL, hap, hK, hN, hSX, hge⟩ := hH
  have hbA : ¬ inA ads b := fun ⟨o, ho, e⟩ => by have := hge o ho; omega
  have hxr : inX (fun j => (xs (i + j)).toInt) := fun j => i32r _
  have hrun := hop (fun j => (xs (i + j)).toInt) hxr (i / 6) (by omega) h hI hh
  refine lv_aload_n hx hb dL_564 rfl (lv_at hl 1 rfl) ?_
  refine ld_arg (pc := 565) (j := 1) (n := 1) (q0 := 0) (q1 := 0) (q2 := 0) hx hb hX hbl hbA hS rfl (lv_at hl 0 rfl) (lv_at hl 3 rfl) (by omega) hL dL_565 dL_566 dL_567 dL_568 dL_569 ?_
  refine ld_arg (pc := 570) (j := 2) (n := 2) (q0 := 0) (q1 := 0) (q2 := 0) hx hb hX hbl hbA hS rfl (lv_at hl 0 rfl) (lv_at hl 3 rfl) (by omega) hL dL_570 dL_571 dL_572 dL_573 dL_574 ?_
  refine ld_arg (pc := 575) (j := 3) (n := 3) (q0 := 0) (q1 := 0) (q2 := 0) hx hb hX hbl hbA hS rfl (lv_at hl 0 rfl) (lv_at hl 3 rfl) (by omega) hL dL_575 dL_576 dL_577 dL_578 dL_579 ?_
  refine law_inv (o := 0) (a := 121) (idx := 60) (av := [vI (xs (i + 1)).toInt, vI (xs (i + 2)).toInt, vI (xs (i + 3)).toInt]) (rest := []) hx hb hml hown hts hap hK hN hSX (by decide) rfl sw_law_60 rfl (Nat.le_of_ble_eq_true rfl) rfl (okl.cons (i32r _) (okl.cons (i32r _) (okl.cons (i32r _) (fun _ h9 => absurd h9 List.not_mem_nil)))) hh hl.1 hP hS hkc hks (Nat.zero_le _) hrun dL_580 (fun r h1 H1 locs1 hq hP1 hh1 hor1 hS1 => ?_)
  obtain ⟨z, rfl, hrun2⟩ := hq
  have hS := hS1
  refine lv_aload_n hx hb dL_583 rfl (lv_at hl 2 rfl) ?_
  refine ld_arg (pc := 584) (j := 1) (n := 1) (q0 := 0) (q1 := 0) (q2 := 0) hx hb hX hbl hbA hS rfl (lv_at hl 0 rfl) (lv_at hl 3 rfl) (by omega) hL dL_584 dL_585 dL_586 dL_587 dL_588 ?_
  refine ld_arg (pc := 589) (j := 2) (n := 2) (q0 := 0) (q1 := 0) (q2 := 0) hx hb hX hbl hbA hS rfl (lv_at hl 0 rfl) (lv_at hl 3 rfl) (by omega) hL dL_589 dL_590 dL_591 dL_592 dL_593 ?_
  refine ld_arg (pc := 594) (j := 3) (n := 3) (q0 := 0) (q1 := 0) (q2 := 0) hx hb hX hbl hbA hS rfl (lv_at hl 0 rfl) (lv_at hl 3 rfl) (by omega) hL dL_594 dL_595 dL_596 dL_597 dL_598 ?_
  refine law_inv (o := 84) (a := 245) (idx := 63) (av := [vI (xs (i + 1)).toInt, vI (xs (i + 2)).toInt, vI (xs (i + 3)).toInt]) (rest := [cv ads (vI z)]) hx hb hml hown hts hap hK hN hSX (by decide) rfl sw_law_63 rfl (Nat.le_of_ble_eq_true rfl) rfl (okl.cons (i32r _) (okl.cons (i32r _) (okl.cons (i32r _) (fun _ h9 => absurd h9 List.not_mem_nil)))) hh1 hl.1 hP1 hS hkc hks (Nat.le_of_ble_eq_true rfl) hrun2 dL_599 (fun r2 h2 H2 locs2 hq2 hP2 hh2 hor2 hS2 => ?_)
  obtain ⟨rfl, hI2⟩ := hq2
  refine lv_icmp_eq (tgt := 1736) hx hb dL_602 (by decide) (fun _ => next h2 H2 locs2 hP2 hh2 hI2 hS2) (fun c9 => absurd rfl c9)
theorem sw_law_64 : Cond.methodLink "ThimbleLawLaw" 64 (mNm 122) ∈ BIG := big_of (tpA_in (q := (3, 139)) rfl) rfl
theorem sw_law_67 : Cond.methodLink "ThimbleLawLaw" 67 (mNm 247) ∈ BIG := big_of (tpA_in (q := (6, 207)) rfl) rfl
set_option maxHeartbeats 4000000 in
theorem law_case_11 {p : Program} {l : Launch} {e : Env} {s : State} {m : MethodId} {below : List Frame} {meth : Method} {c : Code} {b L : Nat} {xs : Nat → Int32} {ads : Nat → Nat} {cA : Nat → ClassId} {D : va_G} {Inv : Nat → Hp → Prop} {QQ : State → Prop} {kc ks : Nat} (hkc : kc ≤ 600000) (hks : ks ≤ 7302250) (hH : LawH p s m meth c b L xs ads cA D) (hop : op_pour Inv) {H : Heap} {ls : Array Slot} {h : Hp} {i : Nat} (hi : i + 6 ≤ L) (hl : lv_has ls 4 [(0, .ref b), (1, .ref (ads 0)), (2, .ref (ads 84)), (3, .int (Int32.ofInt (i : Int)))]) (hP : va_P D fcs (wld ads cA h) H) (hh : okh h) (hI : Inv (i / 6) h) (hS : va_S (inA ads) s.heap H [])
    (next : ∀ (h2 : Hp) (H2 : Heap) (locs2 : List Loc), va_P D fcs (wld ads cA h2) H2 → okh h2 → Inv (i / 6 + 1) h2 → va_S (inA ads) s.heap H2 locs2 → W p l e room_1 s m #[Value.ref b] below meth c H2 locs2 kc ks QQ (F0 m 1736 ls [])) :
    W p l e room_1 s m #[Value.ref b] below meth c H [] kc ks QQ (F0 m 607 ls []) := by
  obtain ⟨hx, hb, hml, hown, hts, hX, hbl, hL, hap, hK, hN, hSX, hge⟩ := hH
  have hbA : ¬ inA ads b := fun ⟨o, ho, e⟩ => by have := hge o ho; omega
  have hxr : inX (fun j => (xs (i + j)).toInt) := fun j => i32r _
  have hrun := hop (fun j => (xs (i + j)).toInt) hxr (i / 6) (by omega) h hI hh
  refine lv_aload_n hx hb dL_607 rfl (lv_at hl 1 rfl) ?_
  refine ld_arg (pc := 608) (j := 1) (n := 1) (q0 := 0) (q1 := 0) (q2 := 0) hx hb hX hbl hbA hS rfl (lv_at hl 0 rfl) (lv_at hl 3 rfl) (by omega) hL dL_608 dL_609 dL_610 dL_611 dL_612 ?_
  refine ld_arg (pc := 613) (j := 2) (n := 2) (q0 := 0) (q1 := 0) (q2 := 0) hx hb hX hbl hbA hS rfl (lv_at hl 0 rfl) (lv_at hl 3 rfl) (by omega) hL dL_613 dL_614 dL_615 dL_616 dL_617 ?_
  refine law_inv (o := 0) (a := 122) (idx := 64) (av := [vI (xs (i + 1)).toInt, vI (xs (i + 2)).toInt]) (rest := []) hx hb hml hown hts hap hK hN hSX (by decide) rfl sw_law_64 rfl (Nat.le_of_ble_eq_true rfl) rfl (okl.cons (i32r _) (okl.cons (i32r _) (fun _ h9 => absurd h9 List.not_mem_nil))) hh hl.1 hP hS hkc hks (Nat.zero_le _) hrun dL_618 (fun r h1 H1 locs1 hq hP1 hh1 hor1 hS1 => ?_)
  obtain ⟨z, rfl, hrun2⟩ := hq
  have hS := hS1
  refine lv_aload_n hx hb dL_621 rfl (lv_at hl 2 rfl) ?_
  refine ld_arg (pc := 622) (j := 1) (n := 1) (q0 := 0) (q1 := 0) (q2 := 0) hx hb hX hbl hbA hS rfl (lv_at hl 0 rfl) (lv_at hl 3 rfl) (by omega) hL dL_622 dL_623 dL_624 dL_625 dL_626 ?_
  refine ld_arg (pc := 627) (j := 2) (n := 2) (q0 := 0) (q1 := 0) (q2 := 0) hx hb hX hbl hbA hS rfl (lv_at hl 0 rfl) (lv_at hl 3 rfl) (by omega) hL dL_627 dL_628 dL_629 dL_630 dL_631 ?_
  refine law_inv (o := 84) (a := 247) (idx := 67) (av := [vI (xs (i + 1)).toInt, vI (xs (i + 2)).toInt]) (rest := [cv ads (vI z)]) hx hb hml hown hts hap hK hN hSX (by decide) rfl sw_law_67 rfl (Nat.le_of_ble_eq_true rfl) rfl (okl.cons (i32r _) (okl.cons (i32r _) (fun _ h9 => absurd h9 List.not_mem_nil))) hh1 hl.1 hP1 hS hkc hks (Nat.le_of_ble_eq_true rfl) hrun2 dL_632 (fun r2 h2 H2 locs2 hq2 hP2 hh2 hor2 hS2 => ?_)
  obtain ⟨rfl, hI2⟩ := hq2
  refine lv_icmp_eq (tgt := 1736) hx hb dL_635 (by decide) (fun _ => next h2 H2 locs2 hP2 hh2 hI2 hS2) (fun c9 => absurd rfl c9)
theorem sw_law_68 : Cond.methodLink "ThimbleLawLaw" 68 (mNm 123) ∈ BIG := big_of (tpA_in (q := (3, 222)) rfl) rfl
theorem sw_law_71 : Cond.methodLink "ThimbleLawLaw" 71 (mNm 249) ∈ BIG := big_of (tpA_in (q := (7, 39)) rfl) rfl
set_option maxHeartbeats 4000000 in
theorem law_case_12 {p : Program} {l : Launch} {e : Env} {s : State} {m : MethodId} {below : List Frame} {meth : Method} {c : Code} {b L : Nat} {xs : Nat → Int32} {ads : Nat → Nat} {cA : Nat → ClassId} {D : va_G} {Inv : Nat → Hp → Prop} {QQ : State → Prop} {kc ks : Nat} (hkc : kc ≤ 600000) (hks : ks ≤ 7302250) (hH : LawH p s m meth c b L xs ads cA D) (hop : op_bend Inv) {H : Heap} {ls : Array Slot} {h : Hp} {i : Nat} (hi : i + 6 ≤ L) (hl : lv_has ls 4 [(0, .ref b), (1, .ref (ads 0)), (2, .ref (ads 84)), (3, .int (Int32.ofInt (i : Int)))]) (hP : va_P D fcs (wld ads cA h) H) (hh : okh h) (hI : Inv (i / 6) h) (hS : va_S (inA ads) s.heap H [])
    (next : ∀ (h2 : Hp) (H2 : Heap) (locs2 : List Loc), va_P D fcs (wld ads cA h2) H2 → okh h2 → Inv (i / 6 + 1) h2 → va_S (inA ads) s.heap H2 locs2 → W p l e room_1 s m #[Value.ref b] below meth c H2 locs2 kc ks QQ (F0 m 1736 ls [])) :
    W p l e room_1 s m #[Value.ref b] below meth c H [] kc ks QQ (F0 m 640 ls []) := by
  obtain ⟨hx, hb, hml, hown, hts, hX, hbl, hL, hap, hK, hN, hSX, hge⟩ := hH
  have hbA : ¬ inA ads b := fun ⟨o, ho, e⟩ => by have := hge o ho; omega
  have hxr : inX (fun j => (xs (i + j)).toInt) := fun j => i32r _
  have hrun := hop (fun j => (xs (i + j)).toInt) hxr (i / 6) (by omega) h hI hh
  refine lv_aload_n hx hb dL_640 rfl (lv_at hl 1 rfl) ?_
  refine ld_arg (pc := 641) (j := 1) (n := 1) (q0 := 0) (q1 := 0) (q2 := 0) hx hb hX hbl hbA hS rfl (lv_at hl 0 rfl) (lv_at hl 3 rfl) (by omega) hL dL_641 dL_642 dL_643 dL_644 dL_645 ?_
  refine law_inv (o := 0) (a := 123) (idx := 68) (av := [vI (xs (i + 1)).toInt]) (rest := []) hx hb hml hown hts hap hK hN hSX (by decide) rfl sw_law_68 rfl (Nat.le_of_ble_eq_true rfl) rfl (okl.cons (i32r _) (fun _ h9 => absurd h9 List.not_mem_nil)) hh hl.1 hP hS hkc hks (Nat.zero_le _) hrun dL_646 (fun r h1 H1 locs1 hq hP1 hh1 hor1 hS1 => ?_)
  obtain ⟨z, rfl, hrun2⟩ := hq
  have hS := hS1
  refine lv_aload_n hx hb dL_649 rfl (lv_at hl 2 rfl) ?_
  refine ld_arg (pc := 650) (j := 1) (n := 1) (q0 := 0) (q1 := 0) (q2 := 0) hx hb hX hbl hbA hS rfl (lv_at hl 0 rfl) (lv_at hl 3 rfl) (by omega) hL dL_650 dL_651 dL_652 dL_653 dL_654 ?_
  refine law_inv (o := 84) (a := 249) (idx := 71) (av := [vI (xs (i + 1)).toInt]) (rest := [cv ads (vI z)]) hx hb hml hown hts hap hK hN hSX (by decide) rfl sw_law_71 rfl (Nat.le_of_ble_eq_true rfl) rfl (okl.cons (i32r _) (fun _ h9 => absurd h9 List.not_mem_nil)) hh1 hl.1 hP1 hS hkc hks (Nat.le_of_ble_eq_true rfl) hrun2 dL_655 (fun r2 h2 H2 locs2 hq2 hP2 hh2 hor2 hS2 => ?_)
  obtain ⟨rfl, hI2⟩ := hq2
  refine lv_icmp_eq (tgt := 1736) hx hb dL_658 (by decide) (fun _ => next h2 H2 locs2 hP2 hh2 hI2 hS2) (fun c9 => absurd rfl c9)
theorem sw_law_72 : Cond.methodLink "ThimbleLawLaw" 72 (mNm 124) ∈ BIG := big_of (tpA_in (q := (3, 231)) rfl) rfl
theorem sw_law_75 : Cond.methodLink "ThimbleLawLaw" 75 (mNm 250) ∈ BIG := big_of (tpA_in (q := (7, 47)) rfl) rfl
set_option maxHeartbeats 4000000 in
theorem law_case_13 {p : Program} {l : Launch} {e : Env} {s : State} {m : MethodId} {below : List Frame} {meth : Method} {c : Code} {b L : Nat} {xs : Nat → Int32} {ads : Nat → Nat} {cA : Nat → ClassId} {D : va_G} {Inv : Nat → Hp → Prop} {QQ : State → Prop} {kc ks : Nat} (hkc : kc ≤ 600000) (hks : ks ≤ 7302250) (hH : LawH p s m meth c b L xs ads cA D) (hop : op_shrink Inv) {H : Heap} {ls : Array Slot} {h : Hp} {i : Nat} (hi : i + 6 ≤ L) (hl : lv_has ls 4 [(0, .ref b), (1, .ref (ads 0)), (2, .ref (ads 84)), (3, .int (Int32.ofInt (i : Int)))]) (hP : va_P D fcs (wld ads cA h) H) (hh : okh h) (hI : Inv (i / 6) h) (hS : va_S (inA ads) s.heap H [])
    (next : ∀ (h2 : Hp) (H2 : Heap) (locs2 : List Loc), va_P D fcs (wld ads cA h2) H2 → okh h2 → Inv (i / 6 + 1) h2 → va_S (inA ads) s.heap H2 locs2 → W p l e room_1 s m #[Value.ref b] below meth c H2 locs2 kc ks QQ (F0 m 1736 ls [])) :
    W p l e room_1 s m #[Value.ref b] below meth c H [] kc ks QQ (F0 m 663 ls []) := by
  obtain ⟨hx, hb, hml, hown, hts, hX, hbl, hL, hap, hK, hN, hSX, hge⟩ := hH
  have hbA : ¬ inA ads b := fun ⟨o, ho, e⟩ => by have := hge o ho; omega
  have hxr : inX (fun j => (xs (i + j)).toInt) := fun j => i32r _
  have hrun := hop (fun j => (xs (i + j)).toInt) hxr (i / 6) (by omega) h hI hh
  refine lv_aload_n hx hb dL_663 rfl (lv_at hl 1 rfl) ?_
  refine ld_arg (pc := 664) (j := 1) (n := 1) (q0 := 0) (q1 := 0) (q2 := 0) hx hb hX hbl hbA hS rfl (lv_at hl 0 rfl) (lv_at hl 3 rfl) (by omega) hL dL_664 dL_665 dL_666 dL_667 dL_668 ?_
  refine law_inv (o := 0) (a := 124) (idx := 72) (av := [vI (xs (i + 1)).toInt]) (rest := []) hx hb hml hown hts hap hK hN hSX (by decide) rfl sw_law_72 rfl (Nat.le_of_ble_eq_true rfl) rfl (okl.cons (i32r _) (fun _ h9 => absurd h9 List.not_mem_nil)) hh hl.1 hP hS hkc hks (Nat.zero_le _) hrun dL_669 (fun r h1 H1 locs1 hq hP1 hh1 hor1 hS1 => ?_)
  obtain ⟨z, rfl, hrun2⟩ := hq
  have hS := hS1
  refine lv_aload_n hx hb dL_672 rfl (lv_at hl 2 rfl) ?_
  refine ld_arg (pc := 673) (j := 1) (n := 1) (q0 := 0) (q1 := 0) (q2 := 0) hx hb hX hbl hbA hS rfl (lv_at hl 0 rfl) (lv_at hl 3 rfl) (by omega) hL dL_673 dL_674 dL_675 dL_676 dL_677 ?_
  refine law_inv (o := 84) (a := 250) (idx := 75) (av := [vI (xs (i + 1)).toInt]) (rest := [cv ads (vI z)]) hx hb hml hown hts hap hK hN hSX (by decide) rfl sw_law_75 rfl (Nat.le_of_ble_eq_true rfl) rfl (okl.cons (i32r _) (fun _ h9 => absurd h9 List.not_mem_nil)) hh1 hl.1 hP1 hS hkc hks (Nat.le_of_ble_eq_true rfl) hrun2 dL_678 (fun r2 h2 H2 locs2 hq2 hP2 hh2 hor2 hS2 => ?_)
  obtain ⟨rfl, hI2⟩ := hq2
  refine lv_icmp_eq (tgt := 1736) hx hb dL_681 (by decide) (fun _ => next h2 H2 locs2 hP2 hh2 hI2 hS2) (fun c9 => absurd rfl c9)
theorem sw_law_76 : Cond.methodLink "ThimbleLawLaw" 76 (mNm 125) ∈ BIG := big_of (tpA_in (q := (3, 239)) rfl) rfl
theorem sw_law_79 : Cond.methodLink "ThimbleLawLaw" 79 (mNm 252) ∈ BIG := big_of (tpA_in (q := (7, 51)) rfl) rfl
set_option maxHeartbeats 4000000 in
theorem law_case_14 {p : Program} {l : Launch} {e : Env} {s : State} {m : MethodId} {below : List Frame} {meth : Method} {c : Code} {b L : Nat} {xs : Nat → Int32} {ads : Nat → Nat} {cA : Nat → ClassId} {D : va_G} {Inv : Nat → Hp → Prop} {QQ : State → Prop} {kc ks : Nat} (hkc : kc ≤ 600000) (hks : ks ≤ 7302250) (hH : LawH p s m meth c b L xs ads cA D) (hop : op_day Inv) {H : Heap} {ls : Array Slot} {h : Hp} {i : Nat} (hi : i + 6 ≤ L) (hl : lv_has ls 4 [(0, .ref b), (1, .ref (ads 0)), (2, .ref (ads 84)), (3, .int (Int32.ofInt (i : Int)))]) (hP : va_P D fcs (wld ads cA h) H) (hh : okh h) (hI : Inv (i / 6) h) (hS : va_S (inA ads) s.heap H [])
    (next : ∀ (h2 : Hp) (H2 : Heap) (locs2 : List Loc), va_P D fcs (wld ads cA h2) H2 → okh h2 → Inv (i / 6 + 1) h2 → va_S (inA ads) s.heap H2 locs2 → W p l e room_1 s m #[Value.ref b] below meth c H2 locs2 kc ks QQ (F0 m 1736 ls [])) :
    W p l e room_1 s m #[Value.ref b] below meth c H [] kc ks QQ (F0 m 686 ls []) := by
  obtain ⟨hx, hb, hml, hown, hts, hX, hbl, hL, hap, hK, hN, hSX, hge⟩ := hH
  have hbA : ¬ inA ads b := fun ⟨o, ho, e⟩ => by have := hge o ho; omega
  have hxr : inX (fun j => (xs (i + j)).toInt) := fun j => i32r _
  have hrun := hop (fun j => (xs (i + j)).toInt) hxr (i / 6) (by omega) h hI hh
  refine lv_aload_n hx hb dL_686 rfl (lv_at hl 1 rfl) ?_
  refine ld_arg (pc := 687) (j := 1) (n := 1) (q0 := 0) (q1 := 0) (q2 := 0) hx hb hX hbl hbA hS rfl (lv_at hl 0 rfl) (lv_at hl 3 rfl) (by omega) hL dL_687 dL_688 dL_689 dL_690 dL_691 ?_
  refine law_inv (o := 0) (a := 125) (idx := 76) (av := [vI (xs (i + 1)).toInt]) (rest := []) hx hb hml hown hts hap hK hN hSX (by decide) rfl sw_law_76 rfl (Nat.le_of_ble_eq_true rfl) rfl (okl.cons (i32r _) (fun _ h9 => absurd h9 List.not_mem_nil)) hh hl.1 hP hS hkc hks (Nat.zero_le _) hrun dL_692 (fun r h1 H1 locs1 hq hP1 hh1 hor1 hS1 => ?_)
  obtain ⟨z, rfl, hrun2⟩ := hq
  have hS := hS1
  refine lv_aload_n hx hb dL_695 rfl (lv_at hl 2 rfl) ?_
  refine ld_arg (pc := 696) (j := 1) (n := 1) (q0 := 0) (q1 := 0) (q2 := 0) hx hb hX hbl hbA hS rfl (lv_at hl 0 rfl) (lv_at hl 3 rfl) (by omega) hL dL_696 dL_697 dL_698 dL_699 dL_700 ?_
  refine law_inv (o := 84) (a := 252) (idx := 79) (av := [vI (xs (i + 1)).toInt]) (rest := [cv ads (vI z)]) hx hb hml hown hts hap hK hN hSX (by decide) rfl sw_law_79 rfl (Nat.le_of_ble_eq_true rfl) rfl (okl.cons (i32r _) (fun _ h9 => absurd h9 List.not_mem_nil)) hh1 hl.1 hP1 hS hkc hks (Nat.le_of_ble_eq_true rfl) hrun2 dL_701 (fun r2 h2 H2 locs2 hq2 hP2 hh2 hor2 hS2 => ?_)
  obtain ⟨rfl, hI2⟩ := hq2
  refine lv_icmp_eq (tgt := 1736) hx hb dL_704 (by decide) (fun _ => next h2 H2 locs2 hP2 hh2 hI2 hS2) (fun c9 => absurd rfl c9)
theorem sw_law_80 : Cond.methodLink "ThimbleLawLaw" 80 (mNm 126) ∈ BIG := big_of (tpA_in (q := (4, 16)) rfl) rfl
theorem sw_law_83 : Cond.methodLink "ThimbleLawLaw" 83 (mNm 254) ∈ BIG := big_of (tpA_in (q := (7, 67)) rfl) rfl
set_option maxHeartbeats 4000000 in
theorem law_case_15 {p : Program} {l : Launch} {e : Env} {s : State} {m : MethodId} {below : List Frame} {meth : Method} {c : Code} {b L : Nat} {xs : Nat → Int32} {ads : Nat → Nat} {cA : Nat → ClassId} {D : va_G} {Inv : Nat → Hp → Prop} {QQ : State → Prop} {kc ks : Nat} (hkc : kc ≤ 600000) (hks : ks ≤ 7302250) (hH : LawH p s m meth c b L xs ads cA D) (hop : op_played Inv) {H : Heap} {ls : Array Slot} {h : Hp} {i : Nat} (hi : i + 6 ≤ L) (hl : lv_has ls 4 [(0, .ref b), (1, .ref (ads 0)), (2, .ref (ads 84)), (3, .int (Int32.ofInt (i : Int)))]) (hP : va_P D fcs (wld ads cA h) H) (hh : okh h) (hI : Inv (i / 6) h) (hS : va_S (inA ads) s.heap H [])
    (next : ∀ (h2 : Hp) (H2 : Heap) (locs2 : List Loc), va_P D fcs (wld ads cA h2) H2 → okh h2 → Inv (i / 6 + 1) h2 → va_S (inA ads) s.heap H2 locs2 → W p l e room_1 s m #[Value.ref b] below meth c H2 locs2 kc ks QQ (F0 m 1736 ls [])) :
    W p l e room_1 s m #[Value.ref b] below meth c H [] kc ks QQ (F0 m 709 ls []) := by
  obtain ⟨hx, hb, hml, hown, hts, hX, hbl, hL, hap, hK, hN, hSX, hge⟩ := hH
  have hbA : ¬ inA ads b := fun ⟨o, ho, e⟩ => by have := hge o ho; omega
  have hxr : inX (fun j => (xs (i + j)).toInt) := fun j => i32r _
  have hrun := hop (fun j => (xs (i + j)).toInt) hxr (i / 6) (by omega) h hI hh
  refine lv_aload_n hx hb dL_709 rfl (lv_at hl 1 rfl) ?_
  refine ld_arg (pc := 710) (j := 1) (n := 1) (q0 := 0) (q1 := 0) (q2 := 0) hx hb hX hbl hbA hS rfl (lv_at hl 0 rfl) (lv_at hl 3 rfl) (by omega) hL dL_710 dL_711 dL_712 dL_713 dL_714 ?_
  refine law_inv (o := 0) (a := 126) (idx := 80) (av := [vI (xs (i + 1)).toInt]) (rest := []) hx hb hml hown hts hap hK hN hSX (by decide) rfl sw_law_80 rfl (Nat.le_of_ble_eq_true rfl) rfl (okl.cons (i32r _) (fun _ h9 => absurd h9 List.not_mem_nil)) hh hl.1 hP hS hkc hks (Nat.zero_le _) hrun dL_715 (fun r h1 H1 locs1 hq hP1 hh1 hor1 hS1 => ?_)
  obtain ⟨z, rfl, hrun2⟩ := hq
  have hS := hS1
  refine lv_aload_n hx hb dL_718 rfl (lv_at hl 2 rfl) ?_
  refine ld_arg (pc := 719) (j := 1) (n := 1) (q0 := 0) (q1 := 0) (q2 := 0) hx hb hX hbl hbA hS rfl (lv_at hl 0 rfl) (lv_at hl 3 rfl) (by omega) hL dL_719 dL_720 dL_721 dL_722 dL_723 ?_
  refine law_inv (o := 84) (a := 254) (idx := 83) (av := [vI (xs (i + 1)).toInt]) (rest := [cv ads (vI z)]) hx hb hml hown hts hap hK hN hSX (by decide) rfl sw_law_83 rfl (Nat.le_of_ble_eq_true rfl) rfl (okl.cons (i32r _) (fun _ h9 => absurd h9 List.not_mem_nil)) hh1 hl.1 hP1 hS hkc hks (Nat.le_of_ble_eq_true rfl) hrun2 dL_724 (fun r2 h2 H2 locs2 hq2 hP2 hh2 hor2 hS2 => ?_)
  obtain ⟨rfl, hI2⟩ := hq2
  refine lv_icmp_eq (tgt := 1736) hx hb dL_727 (by decide) (fun _ => next h2 H2 locs2 hP2 hh2 hI2 hS2) (fun c9 => absurd rfl c9)
theorem sw_law_84 : Cond.methodLink "ThimbleLawLaw" 84 (mNm 127) ∈ BIG := big_of (tpA_in (q := (4, 42)) rfl) rfl
theorem sw_law_87 : Cond.methodLink "ThimbleLawLaw" 87 (mNm 256) ∈ BIG := big_of (tpA_in (q := (7, 84)) rfl) rfl
set_option maxHeartbeats 4000000 in
theorem law_case_16 {p : Program} {l : Launch} {e : Env} {s : State} {m : MethodId} {below : List Frame} {meth : Method} {c : Code} {b L : Nat} {xs : Nat → Int32} {ads : Nat → Nat} {cA : Nat → ClassId} {D : va_G} {Inv : Nat → Hp → Prop} {QQ : State → Prop} {kc ks : Nat} (hkc : kc ≤ 600000) (hks : ks ≤ 7302250) (hH : LawH p s m meth c b L xs ads cA D) (hop : op_centuries Inv) {H : Heap} {ls : Array Slot} {h : Hp} {i : Nat} (hi : i + 6 ≤ L) (hl : lv_has ls 4 [(0, .ref b), (1, .ref (ads 0)), (2, .ref (ads 84)), (3, .int (Int32.ofInt (i : Int)))]) (hP : va_P D fcs (wld ads cA h) H) (hh : okh h) (hI : Inv (i / 6) h) (hS : va_S (inA ads) s.heap H [])
    (next : ∀ (h2 : Hp) (H2 : Heap) (locs2 : List Loc), va_P D fcs (wld ads cA h2) H2 → okh h2 → Inv (i / 6 + 1) h2 → va_S (inA ads) s.heap H2 locs2 → W p l e room_1 s m #[Value.ref b] below meth c H2 locs2 kc ks QQ (F0 m 1736 ls [])) :
    W p l e room_1 s m #[Value.ref b] below meth c H [] kc ks QQ (F0 m 732 ls []) := by
  obtain ⟨hx, hb, hml, hown, hts, hX, hbl, hL, hap, hK, hN, hSX, hge⟩ := hH
  have hbA : ¬ inA ads b := fun ⟨o, ho, e⟩ => by have := hge o ho; omega
  have hxr : inX (fun j => (xs (i + j)).toInt) := fun j => i32r _
  have hrun := hop (fun j => (xs (i + j)).toInt) hxr (i / 6) (by omega) h hI hh
  refine lv_aload_n hx hb dL_732 rfl (lv_at hl 1 rfl) ?_
  refine ld_arg (pc := 733) (j := 1) (n := 1) (q0 := 0) (q1 := 0) (q2 := 0) hx hb hX hbl hbA hS rfl (lv_at hl 0 rfl) (lv_at hl 3 rfl) (by omega) hL dL_733 dL_734 dL_735 dL_736 dL_737 ?_
  refine ld_arg (pc := 738) (j := 2) (n := 2) (q0 := 0) (q1 := 0) (q2 := 0) hx hb hX hbl hbA hS rfl (lv_at hl 0 rfl) (lv_at hl 3 rfl) (by omega) hL dL_738 dL_739 dL_740 dL_741 dL_742 ?_
  refine law_inv (o := 0) (a := 127) (idx := 84) (av := [vI (xs (i + 1)).toInt, vI (xs (i + 2)).toInt]) (rest := []) hx hb hml hown hts hap hK hN hSX (by decide) rfl sw_law_84 rfl (Nat.le_of_ble_eq_true rfl) rfl (okl.cons (i32r _) (okl.cons (i32r _) (fun _ h9 => absurd h9 List.not_mem_nil))) hh hl.1 hP hS hkc hks (Nat.zero_le _) hrun dL_743 (fun r h1 H1 locs1 hq hP1 hh1 hor1 hS1 => ?_)
  obtain ⟨z, rfl, hrun2⟩ := hq
  have hS := hS1
  refine lv_aload_n hx hb dL_746 rfl (lv_at hl 2 rfl) ?_
  refine ld_arg (pc := 747) (j := 1) (n := 1) (q0 := 0) (q1 := 0) (q2 := 0) hx hb hX hbl hbA hS rfl (lv_at hl 0 rfl) (lv_at hl 3 rfl) (by omega) hL dL_747 dL_748 dL_749 dL_750 dL_751 ?_
  refine ld_arg (pc := 752) (j := 2) (n := 2) (q0 := 0) (q1 := 0) (q2 := 0) hx hb hX hbl hbA hS rfl (lv_at hl 0 rfl) (lv_at hl 3 rfl) (by omega) hL dL_752 dL_753 dL_754 dL_755 dL_756 ?_
  refine law_inv (o := 84) (a := 256) (idx := 87) (av := [vI (xs (i + 1)).toInt, vI (xs (i + 2)).toInt]) (rest := [cv ads (vI z)]) hx hb hml hown hts hap hK hN hSX (by decide) rfl sw_law_87 rfl (Nat.le_of_ble_eq_true rfl) rfl (okl.cons (i32r _) (okl.cons (i32r _) (fun _ h9 => absurd h9 List.not_mem_nil))) hh1 hl.1 hP1 hS hkc hks (Nat.le_of_ble_eq_true rfl) hrun2 dL_757 (fun r2 h2 H2 locs2 hq2 hP2 hh2 hor2 hS2 => ?_)
  obtain ⟨rfl, hI2⟩ := hq2
  refine lv_icmp_eq (tgt := 1736) hx hb dL_760 (by decide) (fun _ => next h2 H2 locs2 hP2 hh2 hI2 hS2) (fun c9 => absurd rfl c9)
theorem sw_law_88 : Cond.methodLink "ThimbleLawLaw" 88 (mNm 128) ∈ BIG := big_of (tpA_in (q := (4, 54)) rfl) rfl
theorem sw_law_91 : Cond.methodLink "ThimbleLawLaw" 91 (mNm 239) ∈ BIG := big_of (tpA_in (q := (6, 168)) rfl) rfl
set_option maxHeartbeats 4000000 in
theorem law_case_17 {p : Program} {l : Launch} {e : Env} {s : State} {m : MethodId} {below : List Frame} {meth : Method} {c : Code} {b L : Nat} {xs : Nat → Int32} {ads : Nat → Nat} {cA : Nat → ClassId} {D : va_G} {Inv : Nat → Hp → Prop} {QQ : State → Prop} {kc ks : Nat} (hkc : kc ≤ 600000) (hks : ks ≤ 7302250) (hH : LawH p s m meth c b L xs ads cA D) (hop : op_undo Inv) {H : Heap} {ls : Array Slot} {h : Hp} {i : Nat} (hi : i + 6 ≤ L) (hl : lv_has ls 4 [(0, .ref b), (1, .ref (ads 0)), (2, .ref (ads 84)), (3, .int (Int32.ofInt (i : Int)))]) (hP : va_P D fcs (wld ads cA h) H) (hh : okh h) (hI : Inv (i / 6) h) (hS : va_S (inA ads) s.heap H [])
    (next : ∀ (h2 : Hp) (H2 : Heap) (locs2 : List Loc), va_P D fcs (wld ads cA h2) H2 → okh h2 → Inv (i / 6 + 1) h2 → va_S (inA ads) s.heap H2 locs2 → W p l e room_1 s m #[Value.ref b] below meth c H2 locs2 kc ks QQ (F0 m 1736 ls [])) :
    W p l e room_1 s m #[Value.ref b] below meth c H [] kc ks QQ (F0 m 765 ls []) := by
  obtain ⟨hx, hb, hml, hown, hts, hX, hbl, hL, hap, hK, hN, hSX, hge⟩ := hH
  have hbA : ¬ inA ads b := fun ⟨o, ho, e⟩ => by have := hge o ho; omega
  have hxr : inX (fun j => (xs (i + j)).toInt) := fun j => i32r _
  have hrun := hop (fun j => (xs (i + j)).toInt) hxr (i / 6) (by omega) h hI hh
  refine lv_aload_n hx hb dL_765 rfl (lv_at hl 1 rfl) ?_
  refine law_inv (o := 0) (a := 128) (idx := 88) (av := []) (rest := []) hx hb hml hown hts hap hK hN hSX (by decide) rfl sw_law_88 rfl (Nat.le_of_ble_eq_true rfl) rfl (fun _ h9 => absurd h9 List.not_mem_nil) hh hl.1 hP hS hkc hks (Nat.zero_le _) hrun dL_766 (fun r h1 H1 locs1 hq hP1 hh1 hor1 hS1 => ?_)
  obtain ⟨z, rfl, hrun2⟩ := hq
  have hS := hS1
  refine lv_aload_n hx hb dL_769 rfl (lv_at hl 2 rfl) ?_
  refine law_inv (o := 84) (a := 239) (idx := 91) (av := []) (rest := [cv ads (vI z)]) hx hb hml hown hts hap hK hN hSX (by decide) rfl sw_law_91 rfl (Nat.le_of_ble_eq_true rfl) rfl (fun _ h9 => absurd h9 List.not_mem_nil) hh1 hl.1 hP1 hS hkc hks (Nat.le_of_ble_eq_true rfl) hrun2 dL_770 (fun r2 h2 H2 locs2 hq2 hP2 hh2 hor2 hS2 => ?_)
  obtain ⟨rfl, hI2⟩ := hq2
  refine lv_icmp_eq (tgt := 1736) hx hb dL_773 (by decide) (fun _ => next h2 H2 locs2 hP2 hh2 hI2 hS2) (fun c9 => absurd rfl c9)
theorem sw_law_92 : Cond.methodLink "ThimbleLawLaw" 92 (mNm 129) ∈ BIG := big_of (tpA_in (q := (4, 63)) rfl) rfl
theorem sw_law_95 : Cond.methodLink "ThimbleLawLaw" 95 (mNm 257) ∈ BIG := big_of (tpA_in (q := (7, 92)) rfl) rfl
set_option maxHeartbeats 4000000 in
theorem law_case_18 {p : Program} {l : Launch} {e : Env} {s : State} {m : MethodId} {below : List Frame} {meth : Method} {c : Code} {b L : Nat} {xs : Nat → Int32} {ads : Nat → Nat} {cA : Nat → ClassId} {D : va_G} {Inv : Nat → Hp → Prop} {QQ : State → Prop} {kc ks : Nat} (hkc : kc ≤ 600000) (hks : ks ≤ 7302250) (hH : LawH p s m meth c b L xs ads cA D) (hop : op_of Inv) {H : Heap} {ls : Array Slot} {h : Hp} {i : Nat} (hi : i + 6 ≤ L) (hl : lv_has ls 4 [(0, .ref b), (1, .ref (ads 0)), (2, .ref (ads 84)), (3, .int (Int32.ofInt (i : Int)))]) (hP : va_P D fcs (wld ads cA h) H) (hh : okh h) (hI : Inv (i / 6) h) (hS : va_S (inA ads) s.heap H [])
    (next : ∀ (h2 : Hp) (H2 : Heap) (locs2 : List Loc), va_P D fcs (wld ads cA h2) H2 → okh h2 → Inv (i / 6 + 1) h2 → va_S (inA ads) s.heap H2 locs2 → W p l e room_1 s m #[Value.ref b] below meth c H2 locs2 kc ks QQ (F0 m 1736 ls [])) :
    W p l e room_1 s m #[Value.ref b] below meth c H [] kc ks QQ (F0 m 778 ls []) := by
  obtain ⟨hx, hb, hml, hown, hts, hX, hbl, hL, hap, hK, hN, hSX, hge⟩ := hH
  have hbA : ¬ inA ads b := fun ⟨o, ho, e⟩ => by have := hge o ho; omega
  have hxr : inX (fun j => (xs (i + j)).toInt) := fun j => i32r _
  have hrun := hop (fun j => (xs (i + j)).toInt) hxr (i / 6) (by omega) h hI hh
  refine lv_aload_n hx hb dL_778 rfl (lv_at hl 1 rfl) ?_
  refine ld_arg (pc := 779) (j := 1) (n := 1) (q0 := 0) (q1 := 0) (q2 := 0) hx hb hX hbl hbA hS rfl (lv_at hl 0 rfl) (lv_at hl 3 rfl) (by omega) hL dL_779 dL_780 dL_781 dL_782 dL_783 ?_
  refine ld_arg (pc := 784) (j := 2) (n := 2) (q0 := 0) (q1 := 0) (q2 := 0) hx hb hX hbl hbA hS rfl (lv_at hl 0 rfl) (lv_at hl 3 rfl) (by omega) hL dL_784 dL_785 dL_786 dL_787 dL_788 ?_
  refine law_inv (o := 0) (a := 129) (idx := 92) (av := [vI (xs (i + 1)).toInt, vI (xs (i + 2)).toInt]) (rest := []) hx hb hml hown hts hap hK hN hSX (by decide) rfl sw_law_92 rfl (Nat.le_of_ble_eq_true rfl) rfl (okl.cons (i32r _) (okl.cons (i32r _) (fun _ h9 => absurd h9 List.not_mem_nil))) hh hl.1 hP hS hkc hks (Nat.zero_le _) hrun dL_789 (fun r h1 H1 locs1 hq hP1 hh1 hor1 hS1 => ?_)
  obtain ⟨z, rfl, hrun2⟩ := hq
  have hS := hS1
  refine lv_aload_n hx hb dL_792 rfl (lv_at hl 2 rfl) ?_
  refine ld_arg (pc := 793) (j := 1) (n := 1) (q0 := 0) (q1 := 0) (q2 := 0) hx hb hX hbl hbA hS rfl (lv_at hl 0 rfl) (lv_at hl 3 rfl) (by omega) hL dL_793 dL_794 dL_795 dL_796 dL_797 ?_
  refine ld_arg (pc := 798) (j := 2) (n := 2) (q0 := 0) (q1 := 0) (q2 := 0) hx hb hX hbl hbA hS rfl (lv_at hl 0 rfl) (lv_at hl 3 rfl) (by omega) hL dL_798 dL_799 dL_800 dL_801 dL_802 ?_
  refine law_inv (o := 84) (a := 257) (idx := 95) (av := [vI (xs (i + 1)).toInt, vI (xs (i + 2)).toInt]) (rest := [cv ads (vI z)]) hx hb hml hown hts hap hK hN hSX (by decide) rfl sw_law_95 rfl (Nat.le_of_ble_eq_true rfl) rfl (okl.cons (i32r _) (okl.cons (i32r _) (fun _ h9 => absurd h9 List.not_mem_nil))) hh1 hl.1 hP1 hS hkc hks (Nat.le_of_ble_eq_true rfl) hrun2 dL_803 (fun r2 h2 H2 locs2 hq2 hP2 hh2 hor2 hS2 => ?_)
  obtain ⟨rfl, hI2⟩ := hq2
  refine lv_icmp_eq (tgt := 1736) hx hb dL_806 (by decide) (fun _ => next h2 H2 locs2 hP2 hh2 hI2 hS2) (fun c9 => absurd rfl c9)
theorem sw_law_96 : Cond.methodLink "ThimbleLawLaw" 96 (mNm 130) ∈ BIG := big_of (tpA_in (q := (4, 70)) rfl) rfl
theorem sw_law_99 : Cond.methodLink "ThimbleLawLaw" 99 (mNm 258) ∈ BIG := big_of (tpA_in (q := (7, 100)) rfl) rfl
set_option maxHeartbeats 4000000 in
theorem law_case_19 {p : Program} {l : Launch} {e : Env} {s : State} {m : MethodId} {below : List Frame} {meth : Method} {c : Code} {b L : Nat} {xs : Nat → Int32} {ads : Nat → Nat} {cA : Nat → ClassId} {D : va_G} {Inv : Nat → Hp → Prop} {QQ : State → Prop} {kc ks : Nat} (hkc : kc ≤ 600000) (hks : ks ≤ 7302250) (hH : LawH p s m meth c b L xs ads cA D) (hop : op_drops Inv) {H : Heap} {ls : Array Slot} {h : Hp} {i : Nat} (hi : i + 6 ≤ L) (hl : lv_has ls 4 [(0, .ref b), (1, .ref (ads 0)), (2, .ref (ads 84)), (3, .int (Int32.ofInt (i : Int)))]) (hP : va_P D fcs (wld ads cA h) H) (hh : okh h) (hI : Inv (i / 6) h) (hS : va_S (inA ads) s.heap H [])
    (next : ∀ (h2 : Hp) (H2 : Heap) (locs2 : List Loc), va_P D fcs (wld ads cA h2) H2 → okh h2 → Inv (i / 6 + 1) h2 → va_S (inA ads) s.heap H2 locs2 → W p l e room_1 s m #[Value.ref b] below meth c H2 locs2 kc ks QQ (F0 m 1736 ls [])) :
    W p l e room_1 s m #[Value.ref b] below meth c H [] kc ks QQ (F0 m 811 ls []) := by
  obtain ⟨hx, hb, hml, hown, hts, hX, hbl, hL, hap, hK, hN, hSX, hge⟩ := hH
  have hbA : ¬ inA ads b := fun ⟨o, ho, e⟩ => by have := hge o ho; omega
  have hxr : inX (fun j => (xs (i + j)).toInt) := fun j => i32r _
  have hrun := hop (fun j => (xs (i + j)).toInt) hxr (i / 6) (by omega) h hI hh
  refine lv_aload_n hx hb dL_811 rfl (lv_at hl 1 rfl) ?_
  refine ld_arg (pc := 812) (j := 1) (n := 1) (q0 := 0) (q1 := 0) (q2 := 0) hx hb hX hbl hbA hS rfl (lv_at hl 0 rfl) (lv_at hl 3 rfl) (by omega) hL dL_812 dL_813 dL_814 dL_815 dL_816 ?_
  refine ld_arg (pc := 817) (j := 2) (n := 2) (q0 := 0) (q1 := 0) (q2 := 0) hx hb hX hbl hbA hS rfl (lv_at hl 0 rfl) (lv_at hl 3 rfl) (by omega) hL dL_817 dL_818 dL_819 dL_820 dL_821 ?_
  refine ld_arg (pc := 822) (j := 3) (n := 3) (q0 := 0) (q1 := 0) (q2 := 0) hx hb hX hbl hbA hS rfl (lv_at hl 0 rfl) (lv_at hl 3 rfl) (by omega) hL dL_822 dL_823 dL_824 dL_825 dL_826 ?_
  refine law_inv (o := 0) (a := 130) (idx := 96) (av := [vI (xs (i + 1)).toInt, vI (xs (i + 2)).toInt, vI (xs (i + 3)).toInt]) (rest := []) hx hb hml hown hts hap hK hN hSX (by decide) rfl sw_law_96 rfl (Nat.le_of_ble_eq_true rfl) rfl (okl.cons (i32r _) (okl.cons (i32r _) (okl.cons (i32r _) (fun _ h9 => absurd h9 List.not_mem_nil)))) hh hl.1 hP hS hkc hks (Nat.zero_le _) hrun dL_827 (fun r h1 H1 locs1 hq hP1 hh1 hor1 hS1 => ?_)
  obtain ⟨z, rfl, hrun2⟩ := hq
  have hS := hS1
  refine lv_aload_n hx hb dL_830 rfl (lv_at hl 2 rfl) ?_
  refine ld_arg (pc := 831) (j := 1) (n := 1) (q0 := 0) (q1 := 0) (q2 := 0) hx hb hX hbl hbA hS rfl (lv_at hl 0 rfl) (lv_at hl 3 rfl) (by omega) hL dL_831 dL_832 dL_833 dL_834 dL_835 ?_
  refine ld_arg (pc := 836) (j := 2) (n := 2) (q0 := 0) (q1 := 0) (q2 := 0) hx hb hX hbl hbA hS rfl (lv_at hl 0 rfl) (lv_at hl 3 rfl) (by omega) hL dL_836 dL_837 dL_838 dL_839 dL_840 ?_
  refine ld_arg (pc := 841) (j := 3) (n := 3) (q0 := 0) (q1 := 0) (q2 := 0) hx hb hX hbl hbA hS rfl (lv_at hl 0 rfl) (lv_at hl 3 rfl) (by omega) hL dL_841 dL_842 dL_843 dL_844 dL_845 ?_
  refine law_inv (o := 84) (a := 258) (idx := 99) (av := [vI (xs (i + 1)).toInt, vI (xs (i + 2)).toInt, vI (xs (i + 3)).toInt]) (rest := [cv ads (vI z)]) hx hb hml hown hts hap hK hN hSX (by decide) rfl sw_law_99 rfl (Nat.le_of_ble_eq_true rfl) rfl (okl.cons (i32r _) (okl.cons (i32r _) (okl.cons (i32r _) (fun _ h9 => absurd h9 List.not_mem_nil)))) hh1 hl.1 hP1 hS hkc hks (Nat.le_of_ble_eq_true rfl) hrun2 dL_846 (fun r2 h2 H2 locs2 hq2 hP2 hh2 hor2 hS2 => ?_)
  obtain ⟨rfl, hI2⟩ := hq2
  refine lv_icmp_eq (tgt := 1736) hx hb dL_849 (by decide) (fun _ => next h2 H2 locs2 hP2 hh2 hI2 hS2) (fun c9 => absurd rfl c9)
theorem sw_law_100 : Cond.methodLink "ThimbleLawLaw" 100 (mNm 131) ∈ BIG := big_of (tpA_in (q := (4, 81)) rfl) rfl
theorem sw_law_103 : Cond.methodLink "ThimbleLawLaw" 103 (mNm 259) ∈ BIG := big_of (tpA_in (q := (7, 104)) rfl) rfl
set_option maxHeartbeats 4000000 in
theorem law_case_20 {p : Program} {l : Launch} {e : Env} {s : State} {m : MethodId} {below : List Frame} {meth : Method} {c : Code} {b L : Nat} {xs : Nat → Int32} {ads : Nat → Nat} {cA : Nat → ClassId} {D : va_G} {Inv : Nat → Hp → Prop} {QQ : State → Prop} {kc ks : Nat} (hkc : kc ≤ 600000) (hks : ks ≤ 7302250) (hH : LawH p s m meth c b L xs ads cA D) (hop : op_is Inv) {H : Heap} {ls : Array Slot} {h : Hp} {i : Nat} (hi : i + 6 ≤ L) (hl : lv_has ls 4 [(0, .ref b), (1, .ref (ads 0)), (2, .ref (ads 84)), (3, .int (Int32.ofInt (i : Int)))]) (hP : va_P D fcs (wld ads cA h) H) (hh : okh h) (hI : Inv (i / 6) h) (hS : va_S (inA ads) s.heap H [])
    (next : ∀ (h2 : Hp) (H2 : Heap) (locs2 : List Loc), va_P D fcs (wld ads cA h2) H2 → okh h2 → Inv (i / 6 + 1) h2 → va_S (inA ads) s.heap H2 locs2 → W p l e room_1 s m #[Value.ref b] below meth c H2 locs2 kc ks QQ (F0 m 1736 ls [])) :
    W p l e room_1 s m #[Value.ref b] below meth c H [] kc ks QQ (F0 m 854 ls []) := by
  obtain ⟨hx, hb, hml, hown, hts, hX, hbl, hL, hap, hK, hN, hSX, hge⟩ := hH
  have hbA : ¬ inA ads b := fun ⟨o, ho, e⟩ => by have := hge o ho; omega
  have hxr : inX (fun j => (xs (i + j)).toInt) := fun j => i32r _
  have hrun := hop (fun j => (xs (i + j)).toInt) hxr (i / 6) (by omega) h hI hh
  refine lv_aload_n hx hb dL_854 rfl (lv_at hl 1 rfl) ?_
  refine ld_arg (pc := 855) (j := 1) (n := 1) (q0 := 0) (q1 := 0) (q2 := 0) hx hb hX hbl hbA hS rfl (lv_at hl 0 rfl) (lv_at hl 3 rfl) (by omega) hL dL_855 dL_856 dL_857 dL_858 dL_859 ?_
  refine law_inv (o := 0) (a := 131) (idx := 100) (av := [vI (xs (i + 1)).toInt]) (rest := []) hx hb hml hown hts hap hK hN hSX (by decide) rfl sw_law_100 rfl (Nat.le_of_ble_eq_true rfl) rfl (okl.cons (i32r _) (fun _ h9 => absurd h9 List.not_mem_nil)) hh hl.1 hP hS hkc hks (Nat.zero_le _) hrun dL_860 (fun r h1 H1 locs1 hq hP1 hh1 hor1 hS1 => ?_)
  obtain ⟨z, rfl, hrun2⟩ := hq
  have hS := hS1
  refine lv_aload_n hx hb dL_863 rfl (lv_at hl 2 rfl) ?_
  refine ld_arg (pc := 864) (j := 1) (n := 1) (q0 := 0) (q1 := 0) (q2 := 0) hx hb hX hbl hbA hS rfl (lv_at hl 0 rfl) (lv_at hl 3 rfl) (by omega) hL dL_864 dL_865 dL_866 dL_867 dL_868 ?_
  refine law_inv (o := 84) (a := 259) (idx := 103) (av := [vI (xs (i + 1)).toInt]) (rest := [cv ads (vI z)]) hx hb hml hown hts hap hK hN hSX (by decide) rfl sw_law_103 rfl (Nat.le_of_ble_eq_true rfl) rfl (okl.cons (i32r _) (fun _ h9 => absurd h9 List.not_mem_nil)) hh1 hl.1 hP1 hS hkc hks (Nat.le_of_ble_eq_true rfl) hrun2 dL_869 (fun r2 h2 H2 locs2 hq2 hP2 hh2 hor2 hS2 => ?_)
  obtain ⟨rfl, hI2⟩ := hq2
  refine lv_icmp_eq (tgt := 1736) hx hb dL_872 (by decide) (fun _ => next h2 H2 locs2 hP2 hh2 hI2 hS2) (fun c9 => absurd rfl c9)
theorem sw_law_104 : Cond.methodLink "ThimbleLawLaw" 104 (mNm 132) ∈ BIG := big_of (tpA_in (q := (4, 85)) rfl) rfl
theorem sw_law_107 : Cond.methodLink "ThimbleLawLaw" 107 (mNm 262) ∈ BIG := big_of (tpA_in (q := (7, 108)) rfl) rfl
set_option maxHeartbeats 4000000 in
theorem law_case_21 {p : Program} {l : Launch} {e : Env} {s : State} {m : MethodId} {below : List Frame} {meth : Method} {c : Code} {b L : Nat} {xs : Nat → Int32} {ads : Nat → Nat} {cA : Nat → ClassId} {D : va_G} {Inv : Nat → Hp → Prop} {QQ : State → Prop} {kc ks : Nat} (hkc : kc ≤ 600000) (hks : ks ≤ 7302250) (hH : LawH p s m meth c b L xs ads cA D) (hop : op_book Inv) {H : Heap} {ls : Array Slot} {h : Hp} {i : Nat} (hi : i + 6 ≤ L) (hl : lv_has ls 4 [(0, .ref b), (1, .ref (ads 0)), (2, .ref (ads 84)), (3, .int (Int32.ofInt (i : Int)))]) (hP : va_P D fcs (wld ads cA h) H) (hh : okh h) (hI : Inv (i / 6) h) (hS : va_S (inA ads) s.heap H [])
    (next : ∀ (h2 : Hp) (H2 : Heap) (locs2 : List Loc), va_P D fcs (wld ads cA h2) H2 → okh h2 → Inv (i / 6 + 1) h2 → va_S (inA ads) s.heap H2 locs2 → W p l e room_1 s m #[Value.ref b] below meth c H2 locs2 kc ks QQ (F0 m 1736 ls [])) :
    W p l e room_1 s m #[Value.ref b] below meth c H [] kc ks QQ (F0 m 877 ls []) := by
  obtain ⟨hx, hb, hml, hown, hts, hX, hbl, hL, hap, hK, hN, hSX, hge⟩ := hH
  have hbA : ¬ inA ads b := fun ⟨o, ho, e⟩ => by have := hge o ho; omega
  have hxr : inX (fun j => (xs (i + j)).toInt) := fun j => i32r _
  have hrun := hop (fun j => (xs (i + j)).toInt) hxr (i / 6) (by omega) h hI hh
  refine lv_aload_n hx hb dL_877 rfl (lv_at hl 1 rfl) ?_
  refine ld_arg (pc := 878) (j := 1) (n := 1) (q0 := 0) (q1 := 0) (q2 := 0) hx hb hX hbl hbA hS rfl (lv_at hl 0 rfl) (lv_at hl 3 rfl) (by omega) hL dL_878 dL_879 dL_880 dL_881 dL_882 ?_
  refine ld_arg (pc := 883) (j := 2) (n := 2) (q0 := 0) (q1 := 0) (q2 := 0) hx hb hX hbl hbA hS rfl (lv_at hl 0 rfl) (lv_at hl 3 rfl) (by omega) hL dL_883 dL_884 dL_885 dL_886 dL_887 ?_
  refine law_inv (o := 0) (a := 132) (idx := 104) (av := [vI (xs (i + 1)).toInt, vI (xs (i + 2)).toInt]) (rest := []) hx hb hml hown hts hap hK hN hSX (by decide) rfl sw_law_104 rfl (Nat.le_of_ble_eq_true rfl) rfl (okl.cons (i32r _) (okl.cons (i32r _) (fun _ h9 => absurd h9 List.not_mem_nil))) hh hl.1 hP hS hkc hks (Nat.zero_le _) hrun dL_888 (fun r h1 H1 locs1 hq hP1 hh1 hor1 hS1 => ?_)
  obtain ⟨z, rfl, hrun2⟩ := hq
  have hS := hS1
  refine lv_aload_n hx hb dL_891 rfl (lv_at hl 2 rfl) ?_
  refine ld_arg (pc := 892) (j := 1) (n := 1) (q0 := 0) (q1 := 0) (q2 := 0) hx hb hX hbl hbA hS rfl (lv_at hl 0 rfl) (lv_at hl 3 rfl) (by omega) hL dL_892 dL_893 dL_894 dL_895 dL_896 ?_
  refine ld_arg (pc := 897) (j := 2) (n := 2) (q0 := 0) (q1 := 0) (q2 := 0) hx hb hX hbl hbA hS rfl (lv_at hl 0 rfl) (lv_at hl 3 rfl) (by omega) hL dL_897 dL_898 dL_899 dL_900 dL_901 ?_
  refine law_inv (o := 84) (a := 262) (idx := 107) (av := [vI (xs (i + 1)).toInt, vI (xs (i + 2)).toInt]) (rest := [cv ads (vI z)]) hx hb hml hown hts hap hK hN hSX (by decide) rfl sw_law_107 rfl (Nat.le_of_ble_eq_true rfl) rfl (okl.cons (i32r _) (okl.cons (i32r _) (fun _ h9 => absurd h9 List.not_mem_nil))) hh1 hl.1 hP1 hS hkc hks (Nat.le_of_ble_eq_true rfl) hrun2 dL_902 (fun r2 h2 H2 locs2 hq2 hP2 hh2 hor2 hS2 => ?_)
  obtain ⟨rfl, hI2⟩ := hq2
  refine lv_icmp_eq (tgt := 1736) hx hb dL_905 (by decide) (fun _ => next h2 H2 locs2 hP2 hh2 hI2 hS2) (fun c9 => absurd rfl c9)
theorem sw_law_108 : Cond.methodLink "ThimbleLawLaw" 108 (mNm 133) ∈ BIG := big_of (tpA_in (q := (4, 106)) rfl) rfl
theorem sw_law_111 : Cond.methodLink "ThimbleLawLaw" 111 (mNm 274) ∈ BIG := big_of (tpA_in (q := (7, 156)) rfl) rfl
set_option maxHeartbeats 4000000 in
theorem law_case_22 {p : Program} {l : Launch} {e : Env} {s : State} {m : MethodId} {below : List Frame} {meth : Method} {c : Code} {b L : Nat} {xs : Nat → Int32} {ads : Nat → Nat} {cA : Nat → ClassId} {D : va_G} {Inv : Nat → Hp → Prop} {QQ : State → Prop} {kc ks : Nat} (hkc : kc ≤ 600000) (hks : ks ≤ 7302250) (hH : LawH p s m meth c b L xs ads cA D) (hop : op_foretold Inv) {H : Heap} {ls : Array Slot} {h : Hp} {i : Nat} (hi : i + 6 ≤ L) (hl : lv_has ls 4 [(0, .ref b), (1, .ref (ads 0)), (2, .ref (ads 84)), (3, .int (Int32.ofInt (i : Int)))]) (hP : va_P D fcs (wld ads cA h) H) (hh : okh h) (hI : Inv (i / 6) h) (hS : va_S (inA ads) s.heap H [])
    (next : ∀ (h2 : Hp) (H2 : Heap) (locs2 : List Loc), va_P D fcs (wld ads cA h2) H2 → okh h2 → Inv (i / 6 + 1) h2 → va_S (inA ads) s.heap H2 locs2 → W p l e room_1 s m #[Value.ref b] below meth c H2 locs2 kc ks QQ (F0 m 1736 ls [])) :
    W p l e room_1 s m #[Value.ref b] below meth c H [] kc ks QQ (F0 m 910 ls []) := by
  obtain ⟨hx, hb, hml, hown, hts, hX, hbl, hL, hap, hK, hN, hSX, hge⟩ := hH
  have hbA : ¬ inA ads b := fun ⟨o, ho, e⟩ => by have := hge o ho; omega
  have hxr : inX (fun j => (xs (i + j)).toInt) := fun j => i32r _
  have hrun := hop (fun j => (xs (i + j)).toInt) hxr (i / 6) (by omega) h hI hh
  refine lv_aload_n hx hb dL_910 rfl (lv_at hl 1 rfl) ?_
  refine ld_arg (pc := 911) (j := 1) (n := 1) (q0 := 0) (q1 := 0) (q2 := 0) hx hb hX hbl hbA hS rfl (lv_at hl 0 rfl) (lv_at hl 3 rfl) (by omega) hL dL_911 dL_912 dL_913 dL_914 dL_915 ?_
  refine ld_arg (pc := 916) (j := 2) (n := 2) (q0 := 0) (q1 := 0) (q2 := 0) hx hb hX hbl hbA hS rfl (lv_at hl 0 rfl) (lv_at hl 3 rfl) (by omega) hL dL_916 dL_917 dL_918 dL_919 dL_920 ?_
  refine ld_arg (pc := 921) (j := 3) (n := 3) (q0 := 0) (q1 := 0) (q2 := 0) hx hb hX hbl hbA hS rfl (lv_at hl 0 rfl) (lv_at hl 3 rfl) (by omega) hL dL_921 dL_922 dL_923 dL_924 dL_925 ?_
  refine law_inv (o := 0) (a := 133) (idx := 108) (av := [vI (xs (i + 1)).toInt, vI (xs (i + 2)).toInt, vI (xs (i + 3)).toInt]) (rest := []) hx hb hml hown hts hap hK hN hSX (by decide) rfl sw_law_108 rfl (Nat.le_of_ble_eq_true rfl) rfl (okl.cons (i32r _) (okl.cons (i32r _) (okl.cons (i32r _) (fun _ h9 => absurd h9 List.not_mem_nil)))) hh hl.1 hP hS hkc hks (Nat.zero_le _) hrun dL_926 (fun r h1 H1 locs1 hq hP1 hh1 hor1 hS1 => ?_)
  obtain ⟨z, rfl, hrun2⟩ := hq
  have hS := hS1
  refine lv_aload_n hx hb dL_929 rfl (lv_at hl 2 rfl) ?_
  refine ld_arg (pc := 930) (j := 1) (n := 1) (q0 := 0) (q1 := 0) (q2 := 0) hx hb hX hbl hbA hS rfl (lv_at hl 0 rfl) (lv_at hl 3 rfl) (by omega) hL dL_930 dL_931 dL_932 dL_933 dL_934 ?_
  refine ld_arg (pc := 935) (j := 2) (n := 2) (q0 := 0) (q1 := 0) (q2 := 0) hx hb hX hbl hbA hS rfl (lv_at hl 0 rfl) (lv_at hl 3 rfl) (by omega) hL dL_935 dL_936 dL_937 dL_938 dL_939 ?_
  refine ld_arg (pc := 940) (j := 3) (n := 3) (q0 := 0) (q1 := 0) (q2 := 0) hx hb hX hbl hbA hS rfl (lv_at hl 0 rfl) (lv_at hl 3 rfl) (by omega) hL dL_940 dL_941 dL_942 dL_943 dL_944 ?_
  refine law_inv (o := 84) (a := 274) (idx := 111) (av := [vI (xs (i + 1)).toInt, vI (xs (i + 2)).toInt, vI (xs (i + 3)).toInt]) (rest := [cv ads (vI z)]) hx hb hml hown hts hap hK hN hSX (by decide) rfl sw_law_111 rfl (Nat.le_of_ble_eq_true rfl) rfl (okl.cons (i32r _) (okl.cons (i32r _) (okl.cons (i32r _) (fun _ h9 => absurd h9 List.not_mem_nil)))) hh1 hl.1 hP1 hS hkc hks (Nat.le_of_ble_eq_true rfl) hrun2 dL_945 (fun r2 h2 H2 locs2 hq2 hP2 hh2 hor2 hS2 => ?_)
  obtain ⟨rfl, hI2⟩ := hq2
  refine lv_icmp_eq (tgt := 1736) hx hb dL_948 (by decide) (fun _ => next h2 H2 locs2 hP2 hh2 hI2 hS2) (fun c9 => absurd rfl c9)
theorem sw_law_112 : Cond.methodLink "ThimbleLawLaw" 112 (mNm 134) ∈ BIG := big_of (tpA_in (q := (4, 120)) rfl) rfl
theorem sw_law_115 : Cond.methodLink "ThimbleLawLaw" 115 (mNm 275) ∈ BIG := big_of (tpA_in (q := (7, 168)) rfl) rfl
set_option maxHeartbeats 4000000 in
theorem law_case_23 {p : Program} {l : Launch} {e : Env} {s : State} {m : MethodId} {below : List Frame} {meth : Method} {c : Code} {b L : Nat} {xs : Nat → Int32} {ads : Nat → Nat} {cA : Nat → ClassId} {D : va_G} {Inv : Nat → Hp → Prop} {QQ : State → Prop} {kc ks : Nat} (hkc : kc ≤ 600000) (hks : ks ≤ 7302250) (hH : LawH p s m meth c b L xs ads cA D) (hop : op_firstBrim Inv) {H : Heap} {ls : Array Slot} {h : Hp} {i : Nat} (hi : i + 6 ≤ L) (hl : lv_has ls 4 [(0, .ref b), (1, .ref (ads 0)), (2, .ref (ads 84)), (3, .int (Int32.ofInt (i : Int)))]) (hP : va_P D fcs (wld ads cA h) H) (hh : okh h) (hI : Inv (i / 6) h) (hS : va_S (inA ads) s.heap H [])
    (next : ∀ (h2 : Hp) (H2 : Heap) (locs2 : List Loc), va_P D fcs (wld ads cA h2) H2 → okh h2 → Inv (i / 6 + 1) h2 → va_S (inA ads) s.heap H2 locs2 → W p l e room_1 s m #[Value.ref b] below meth c H2 locs2 kc ks QQ (F0 m 1736 ls [])) :
    W p l e room_1 s m #[Value.ref b] below meth c H [] kc ks QQ (F0 m 953 ls []) := by
  obtain ⟨hx, hb, hml, hown, hts, hX, hbl, hL, hap, hK, hN, hSX, hge⟩ := hH
  have hbA : ¬ inA ads b := fun ⟨o, ho, e⟩ => by have := hge o ho; omega
  have hxr : inX (fun j => (xs (i + j)).toInt) := fun j => i32r _
  have hrun := hop (fun j => (xs (i + j)).toInt) hxr (i / 6) (by omega) h hI hh
  refine lv_aload_n hx hb dL_953 rfl (lv_at hl 1 rfl) ?_
  refine ld_arg (pc := 954) (j := 1) (n := 1) (q0 := 0) (q1 := 0) (q2 := 0) hx hb hX hbl hbA hS rfl (lv_at hl 0 rfl) (lv_at hl 3 rfl) (by omega) hL dL_954 dL_955 dL_956 dL_957 dL_958 ?_
  refine ld_arg (pc := 959) (j := 2) (n := 2) (q0 := 0) (q1 := 0) (q2 := 0) hx hb hX hbl hbA hS rfl (lv_at hl 0 rfl) (lv_at hl 3 rfl) (by omega) hL dL_959 dL_960 dL_961 dL_962 dL_963 ?_
  refine ld_arg (pc := 964) (j := 3) (n := 3) (q0 := 0) (q1 := 0) (q2 := 0) hx hb hX hbl hbA hS rfl (lv_at hl 0 rfl) (lv_at hl 3 rfl) (by omega) hL dL_964 dL_965 dL_966 dL_967 dL_968 ?_
  refine law_inv (o := 0) (a := 134) (idx := 112) (av := [vI (xs (i + 1)).toInt, vI (xs (i + 2)).toInt, vI (xs (i + 3)).toInt]) (rest := []) hx hb hml hown hts hap hK hN hSX (by decide) rfl sw_law_112 rfl (Nat.le_of_ble_eq_true rfl) rfl (okl.cons (i32r _) (okl.cons (i32r _) (okl.cons (i32r _) (fun _ h9 => absurd h9 List.not_mem_nil)))) hh hl.1 hP hS hkc hks (Nat.zero_le _) hrun dL_969 (fun r h1 H1 locs1 hq hP1 hh1 hor1 hS1 => ?_)
  obtain ⟨z, rfl, hrun2⟩ := hq
  have hS := hS1
  refine lv_aload_n hx hb dL_972 rfl (lv_at hl 2 rfl) ?_
  refine ld_arg (pc := 973) (j := 1) (n := 1) (q0 := 0) (q1 := 0) (q2 := 0) hx hb hX hbl hbA hS rfl (lv_at hl 0 rfl) (lv_at hl 3 rfl) (by omega) hL dL_973 dL_974 dL_975 dL_976 dL_977 ?_
  refine ld_arg (pc := 978) (j := 2) (n := 2) (q0 := 0) (q1 := 0) (q2 := 0) hx hb hX hbl hbA hS rfl (lv_at hl 0 rfl) (lv_at hl 3 rfl) (by omega) hL dL_978 dL_979 dL_980 dL_981 dL_982 ?_
  refine ld_arg (pc := 983) (j := 3) (n := 3) (q0 := 0) (q1 := 0) (q2 := 0) hx hb hX hbl hbA hS rfl (lv_at hl 0 rfl) (lv_at hl 3 rfl) (by omega) hL dL_983 dL_984 dL_985 dL_986 dL_987 ?_
  refine law_inv (o := 84) (a := 275) (idx := 115) (av := [vI (xs (i + 1)).toInt, vI (xs (i + 2)).toInt, vI (xs (i + 3)).toInt]) (rest := [cv ads (vI z)]) hx hb hml hown hts hap hK hN hSX (by decide) rfl sw_law_115 rfl (Nat.le_of_ble_eq_true rfl) rfl (okl.cons (i32r _) (okl.cons (i32r _) (okl.cons (i32r _) (fun _ h9 => absurd h9 List.not_mem_nil)))) hh1 hl.1 hP1 hS hkc hks (Nat.le_of_ble_eq_true rfl) hrun2 dL_988 (fun r2 h2 H2 locs2 hq2 hP2 hh2 hor2 hS2 => ?_)
  obtain ⟨rfl, hI2⟩ := hq2
  refine lv_icmp_eq (tgt := 1736) hx hb dL_991 (by decide) (fun _ => next h2 H2 locs2 hP2 hh2 hI2 hS2) (fun c9 => absurd rfl c9)
theorem sw_law_116 : Cond.methodLink "ThimbleLawLaw" 116 (mNm 135) ∈ BIG := big_of (tpA_in (q := (4, 134)) rfl) rfl
theorem sw_law_119 : Cond.methodLink "ThimbleLawLaw" 119 (mNm 276) ∈ BIG := big_of (tpA_in (q := (7, 172)) rfl) rfl
set_option maxHeartbeats 4000000 in
theorem law_case_24 {p : Program} {l : Launch} {e : Env} {s : State} {m : MethodId} {below : List Frame} {meth : Method} {c : Code} {b L : Nat} {xs : Nat → Int32} {ads : Nat → Nat} {cA : Nat → ClassId} {D : va_G} {Inv : Nat → Hp → Prop} {QQ : State → Prop} {kc ks : Nat} (hkc : kc ≤ 600000) (hks : ks ≤ 7302250) (hH : LawH p s m meth c b L xs ads cA D) (hop : op_plan Inv) {H : Heap} {ls : Array Slot} {h : Hp} {i : Nat} (hi : i + 6 ≤ L) (hl : lv_has ls 4 [(0, .ref b), (1, .ref (ads 0)), (2, .ref (ads 84)), (3, .int (Int32.ofInt (i : Int)))]) (hP : va_P D fcs (wld ads cA h) H) (hh : okh h) (hI : Inv (i / 6) h) (hS : va_S (inA ads) s.heap H [])
    (next : ∀ (h2 : Hp) (H2 : Heap) (locs2 : List Loc), va_P D fcs (wld ads cA h2) H2 → okh h2 → Inv (i / 6 + 1) h2 → va_S (inA ads) s.heap H2 locs2 → W p l e room_1 s m #[Value.ref b] below meth c H2 locs2 kc ks QQ (F0 m 1736 ls [])) :
    W p l e room_1 s m #[Value.ref b] below meth c H [] kc ks QQ (F0 m 996 ls []) := by
  obtain ⟨hx, hb, hml, hown, hts, hX, hbl, hL, hap, hK, hN, hSX, hge⟩ := hH
  have hbA : ¬ inA ads b := fun ⟨o, ho, e⟩ => by have := hge o ho; omega
  have hxr : inX (fun j => (xs (i + j)).toInt) := fun j => i32r _
  have hrun := hop (fun j => (xs (i + j)).toInt) hxr (i / 6) (by omega) h hI hh
  refine lv_aload_n hx hb dL_996 rfl (lv_at hl 1 rfl) ?_
  refine ld_arg (pc := 997) (j := 1) (n := 1) (q0 := 0) (q1 := 0) (q2 := 0) hx hb hX hbl hbA hS rfl (lv_at hl 0 rfl) (lv_at hl 3 rfl) (by omega) hL dL_997 dL_998 dL_999 dL_1000 dL_1001 ?_
  refine ld_arg (pc := 1002) (j := 2) (n := 2) (q0 := 0) (q1 := 0) (q2 := 0) hx hb hX hbl hbA hS rfl (lv_at hl 0 rfl) (lv_at hl 3 rfl) (by omega) hL dL_1002 dL_1003 dL_1004 dL_1005 dL_1006 ?_
  refine law_inv (o := 0) (a := 135) (idx := 116) (av := [vI (xs (i + 1)).toInt, vI (xs (i + 2)).toInt]) (rest := []) hx hb hml hown hts hap hK hN hSX (by decide) rfl sw_law_116 rfl (Nat.le_of_ble_eq_true rfl) rfl (okl.cons (i32r _) (okl.cons (i32r _) (fun _ h9 => absurd h9 List.not_mem_nil))) hh hl.1 hP hS hkc hks (Nat.zero_le _) hrun dL_1007 (fun r h1 H1 locs1 hq hP1 hh1 hor1 hS1 => ?_)
  obtain ⟨z, rfl, hrun2⟩ := hq
  have hS := hS1
  refine lv_aload_n hx hb dL_1010 rfl (lv_at hl 2 rfl) ?_
  refine ld_arg (pc := 1011) (j := 1) (n := 1) (q0 := 0) (q1 := 0) (q2 := 0) hx hb hX hbl hbA hS rfl (lv_at hl 0 rfl) (lv_at hl 3 rfl) (by omega) hL dL_1011 dL_1012 dL_1013 dL_1014 dL_1015 ?_
  refine ld_arg (pc := 1016) (j := 2) (n := 2) (q0 := 0) (q1 := 0) (q2 := 0) hx hb hX hbl hbA hS rfl (lv_at hl 0 rfl) (lv_at hl 3 rfl) (by omega) hL dL_1016 dL_1017 dL_1018 dL_1019 dL_1020 ?_
  refine law_inv (o := 84) (a := 276) (idx := 119) (av := [vI (xs (i + 1)).toInt, vI (xs (i + 2)).toInt]) (rest := [cv ads (vI z)]) hx hb hml hown hts hap hK hN hSX (by decide) rfl sw_law_119 rfl (Nat.le_of_ble_eq_true rfl) rfl (okl.cons (i32r _) (okl.cons (i32r _) (fun _ h9 => absurd h9 List.not_mem_nil))) hh1 hl.1 hP1 hS hkc hks (Nat.le_of_ble_eq_true rfl) hrun2 dL_1021 (fun r2 h2 H2 locs2 hq2 hP2 hh2 hor2 hS2 => ?_)
  obtain ⟨rfl, hI2⟩ := hq2
  refine lv_icmp_eq (tgt := 1736) hx hb dL_1024 (by decide) (fun _ => next h2 H2 locs2 hP2 hh2 hI2 hS2) (fun c9 => absurd rfl c9)
