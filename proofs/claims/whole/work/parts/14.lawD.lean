set_option maxHeartbeats 16000000 in
theorem law_loop {p : Program} {l : Launch} {e : Env} {s : State} {m : MethodId} {below : List Frame} {meth : Method} {c : Code} {b L : Nat} {xs : Nat → Int32} {ads : Nat → Nat} {cA : Nat → ClassId} {D : va_G} {Inv : Nat → Hp → Prop} {kc ks : Nat} (hkc : kc ≤ 600000) (hks : ks ≤ 7302250) (hH : LawH p s m meth c b L xs ads cA D) (hr : meth.sig.returnType = ret) (hlocks : meth.locks = false) (hops : allOps Inv) (hst : ∀ n h, Inv n h → Inv (n + 1) h) :
    ∀ (n i : Nat), L + 6 ≤ i + 6 * n → ∀ (H : Heap) (ls : Array Slot) (h : Hp), lv_has ls 4 [(0, .ref b), (1, .ref (ads 0)), (2, .ref (ads 84)), (3, .int (Int32.ofInt (i : Int)))] → i ≤ 3080 → va_P D fcs (wld ads cA h) H → okh h → Inv (i / 6) h → va_S (inA ads) s.heap H [] →
    W p l e room_1 s m #[Value.ref b] below meth c H [] kc ks (lw_Z below #[Value.ref b] s) (F0 m 18 ls []) := by
  obtain ⟨hx, hb, hml, hown, hts, hX, hbl, hL, hap, hK, hN, hSX, hge⟩ := id hH
  have hbA : ¬ inA ads b := fun ⟨o, ho, e⟩ => by have := hge o ho; omega
  obtain ⟨p0, p1, p2, p3, p4, p5, p6, p7, p8, p9, p10, p11, p12, p13, p14, p15, p16, p17, p18, p19, p20, p21, p22, p23, p24, p25, p26, p27, p28, p29, p30, p31, p32, p33, p34, p35, p36, p37, p38, p39, p40, p41, p42, p43, p44, p45, p46, p47, p48⟩ := hops
  intro n
  induction n with
  | zero =>
    intro i hn H ls h hl hi3 hP hh hI hS
    refine lv_iload_n hx hb dL_18 rfl (lv_at hl 3 rfl) ?_
    refine lv_aload_n hx hb dL_19 rfl (lv_at hl 0 rfl) ?_
    refine va_slen hx hb hX hbl hbA hS dL_20 ?_
    refine lv_bipush (v := Int32.ofInt 6) hx hb dL_21 (by decide) ?_
    refine lv_isub hx hb dL_23 ?_
    rw [show Int32.ofNat L = Int32.ofInt (L : Int) from (Int32.ofInt_eq_ofNat).symm, ← Int32.ofInt_sub]
    refine lv_icmp_gt (tgt := 1742) hx hb dL_24 (by decide) (fun _ => ?_) (fun c9 => absurd ((i32lt (by omega) (by omega)).mpr (by omega)) c9)
    refine lv_iconst (v := 1) hx hb dL_1742 (by decide) ?_
    refine W.widen (k := 600000) (n := 7302250) hkc hks ?_
    exact lw_ret hx hb hr hlocks dL_1743
  | succ n ih =>
    intro i hn H ls h hl hi3 hP hh hI hS
    refine lv_iload_n hx hb dL_18 rfl (lv_at hl 3 rfl) ?_
    refine lv_aload_n hx hb dL_19 rfl (lv_at hl 0 rfl) ?_
    refine va_slen hx hb hX hbl hbA hS dL_20 ?_
    refine lv_bipush (v := Int32.ofInt 6) hx hb dL_21 (by decide) ?_
    refine lv_isub hx hb dL_23 ?_
    rw [show Int32.ofNat L = Int32.ofInt (L : Int) from (Int32.ofInt_eq_ofNat).symm, ← Int32.ofInt_sub]
    refine lv_icmp_gt (tgt := 1742) hx hb dL_24 (by decide) (fun _ => ?_) (fun c9 => ?_)
    · refine lv_iconst (v := 1) hx hb dL_1742 (by decide) ?_
      refine W.widen (k := 600000) (n := 7302250) hkc hks ?_
      exact lw_ret hx hb hr hlocks dL_1743
    · have hiL : i + 6 ≤ L := by
        by_cases q : i + 6 ≤ L
        · exact q
        · exact absurd ((i32lt (by omega) (by omega)).mpr (by omega)) c9
      have next : ∀ (h2 : Hp) (H2 : Heap) (locs2 : List Loc), va_P D fcs (wld ads cA h2) H2 → okh h2 → Inv (i / 6 + 1) h2 → va_S (inA ads) s.heap H2 locs2 → W p l e room_1 s m #[Value.ref b] below meth c H2 locs2 kc ks (lw_Z below #[Value.ref b] s) (F0 m 1736 ls []) := by
        intro h2 H2 locs2 hP2 hh2 hI2 hS2
        refine lv_iinc (v := Int32.ofInt ((i + 6 : Nat) : Int)) (lv' := [(3, .int (Int32.ofInt ((i + 6 : Nat) : Int))), (0, .ref b), (1, .ref (ads 0)), (2, .ref (ads 84))]) hx hb dL_1736 hl (k := 3) rfl ?_ (by decide) rfl (fun ls hl => ?_)
        · rw [← Int32.ofInt_add]
          congr 1
        refine lv_goto (tgt := 18) hx hb dL_1739 (by decide) ?_
        refine va_forget (fun q hq => by obtain ⟨o, ho, e⟩ := hS2.2.2 q hq; rw [e]; exact hge o ho) ?_
        exact ih (i + 6) (by omega) H2 ls h2 (lv_sub hl [1, 2, 3, 0] rfl) (by omega) hP2 hh2 (by rw [show (i + 6) / 6 = i / 6 + 1 by omega]; exact hI2) ⟨hS2.1, hS2.2.1, fun _ h9 => absurd h9 List.not_mem_nil⟩
      refine lv_aload_n hx hb dL_27 rfl (lv_at hl 0 rfl) ?_
      refine lv_iload_n hx hb dL_28 rfl (lv_at hl 3 rfl) ?_
      refine va_sld hx hb hX hbl hbA hS (i32in (by omega) (by omega) (by omega)) dL_29 ?_
      refine lv_bipush (v := 63) hx hb dL_30 (by decide) ?_
      refine lv_iand hx hb dL_32 ?_
      obtain ⟨j, hj, ej⟩ := pk_andE (xs (Int32.ofInt (i : Int)).toNatClampNeg) (m := 63) 6 (by decide)
      rw [ej]
      have ejT : (nI j).toInt = (j : Int) := nI_toInt (by omega)
      by_cases hj49 : 49 ≤ j
      · refine lv_tableOut (tgt := 1736) hx hb dL_33 (Or.inr (by rw [ejT]; omega)) (by decide) ?_
        exact next h H [] hP hh (hst _ _ hI) hS
      · have tin : ∀ (off : Int) (tgt : Nat), (#[211, 254, 287, 310, 373, 396, 409, 432, 455, 498, 531, 574, 607, 630, 653, 676, 699, 732, 745, 778, 821, 844, 877, 920, 963, 996, 1019, 1089, 1132, 1175, 1198, 1231, 1254, 1267, 1326, 1375, 1388, 1411, 1434, 1477, 1490, 1523, 1572, 1595, 1618, 1641, 1654, 1667, 1680] : Array Int)[j]? = some off → ((33 : Nat) : Int) + off = (tgt : Int) → W p l e room_1 s m #[Value.ref b] below meth c H [] kc ks (lw_Z below #[Value.ref b] s) (F0 m tgt ls []) → W p l e room_1 s m #[Value.ref b] below meth c H [] kc ks (lw_Z below #[Value.ref b] s) (F0 m 33 ls (.int (nI j) :: [])) := by
          intro off tgt h1 h2 h3
          refine lv_tableIn hx hb dL_33 (by rw [ejT]; omega) (by rw [ejT]; omega) (off := off) ?_ h2 h3
          rw [ejT, show ((j : Int) - 0).toNat = j by omega]
          exact h1
        have hj48 : j < 49 := by omega
        match j, hj48, tin with
        | 0, _, tin => exact tin 211 244 rfl (by decide) (law_case_0 hkc hks hH p0 hiL hl hP hh hI hS next)
        | 1, _, tin => exact tin 254 287 rfl (by decide) (law_case_1 hkc hks hH p1 hiL hl hP hh hI hS next)
        | 2, _, tin => exact tin 287 320 rfl (by decide) (law_case_2 hkc hks hH p2 hiL hl hP hh hI hS next)
        | 3, _, tin => exact tin 310 343 rfl (by decide) (law_case_3 hkc hks hH p3 hiL hl hP hh hI hS next)
        | 4, _, tin => exact tin 373 406 rfl (by decide) (law_case_4 hkc hks hH p4 hiL hl hP hh hI hS next)
        | 5, _, tin => exact tin 396 429 rfl (by decide) (law_case_5 hkc hks hH p5 hiL hl hP hh hI hS next)
        | 6, _, tin => exact tin 409 442 rfl (by decide) (law_case_6 hkc hks hH p6 hiL hl hP hh hI hS next)
        | 7, _, tin => exact tin 432 465 rfl (by decide) (law_case_7 hkc hks hH p7 hiL hl hP hh hI hS next)
        | 8, _, tin => exact tin 455 488 rfl (by decide) (law_case_8 hkc hks hH p8 hiL hl hP hh hI hS next)
        | 9, _, tin => exact tin 498 531 rfl (by decide) (law_case_9 hkc hks hH p9 hiL hl hP hh hI hS next)
        | 10, _, tin => exact tin 531 564 rfl (by decide) (law_case_10 hkc hks hH p10 hiL hl hP hh hI hS next)
        | 11, _, tin => exact tin 574 607 rfl (by decide) (law_case_11 hkc hks hH p11 hiL hl hP hh hI hS next)
        | 12, _, tin => exact tin 607 640 rfl (by decide) (law_case_12 hkc hks hH p12 hiL hl hP hh hI hS next)
        | 13, _, tin => exact tin 630 663 rfl (by decide) (law_case_13 hkc hks hH p13 hiL hl hP hh hI hS next)
        | 14, _, tin => exact tin 653 686 rfl (by decide) (law_case_14 hkc hks hH p14 hiL hl hP hh hI hS next)
        | 15, _, tin => exact tin 676 709 rfl (by decide) (law_case_15 hkc hks hH p15 hiL hl hP hh hI hS next)
        | 16, _, tin => exact tin 699 732 rfl (by decide) (law_case_16 hkc hks hH p16 hiL hl hP hh hI hS next)
        | 17, _, tin => exact tin 732 765 rfl (by decide) (law_case_17 hkc hks hH p17 hiL hl hP hh hI hS next)
        | 18, _, tin => exact tin 745 778 rfl (by decide) (law_case_18 hkc hks hH p18 hiL hl hP hh hI hS next)
        | 19, _, tin => exact tin 778 811 rfl (by decide) (law_case_19 hkc hks hH p19 hiL hl hP hh hI hS next)
        | 20, _, tin => exact tin 821 854 rfl (by decide) (law_case_20 hkc hks hH p20 hiL hl hP hh hI hS next)
        | 21, _, tin => exact tin 844 877 rfl (by decide) (law_case_21 hkc hks hH p21 hiL hl hP hh hI hS next)
        | 22, _, tin => exact tin 877 910 rfl (by decide) (law_case_22 hkc hks hH p22 hiL hl hP hh hI hS next)
        | 23, _, tin => exact tin 920 953 rfl (by decide) (law_case_23 hkc hks hH p23 hiL hl hP hh hI hS next)
        | 24, _, tin => exact tin 963 996 rfl (by decide) (law_case_24 hkc hks hH p24 hiL hl hP hh hI hS next)
        | 25, _, tin => exact tin 996 1029 rfl (by decide) (law_case_25 hkc hks hH p25 hiL hl hP hh hI hS next)
        | 26, _, tin => exact tin 1019 1052 rfl (by decide) (law_case_26 hkc hks hH p26 hiL hl hP hh hI hS next)
        | 27, _, tin => exact tin 1089 1122 rfl (by decide) (law_case_27 hkc hks hH p27 hiL hl hP hh hI hS next)
        | 28, _, tin => exact tin 1132 1165 rfl (by decide) (law_case_28 hkc hks hH p28 hiL hl hP hh hI hS next)
        | 29, _, tin => exact tin 1175 1208 rfl (by decide) (law_case_29 hkc hks hH p29 hiL hl hP hh hI hS next)
        | 30, _, tin => exact tin 1198 1231 rfl (by decide) (law_case_30 hkc hks hH p30 hiL hl hP hh hI hS next)
        | 31, _, tin => exact tin 1231 1264 rfl (by decide) (law_case_31 hkc hks hH p31 hiL hl hP hh hI hS next)
        | 32, _, tin => exact tin 1254 1287 rfl (by decide) (law_case_32 hkc hks hH p32 hiL hl hP hh hI hS next)
        | 33, _, tin => exact tin 1267 1300 rfl (by decide) (law_case_33 hkc hks hH p33 hiL hl hP hh hI hS next)
        | 34, _, tin => exact tin 1326 1359 rfl (by decide) (law_case_34 hkc hks hH p34 hiL hl hP hh hI hS next)
        | 35, _, tin => exact tin 1375 1408 rfl (by decide) (law_case_35 hkc hks hH p35 hiL hl hP hh hI hS next)
        | 36, _, tin => exact tin 1388 1421 rfl (by decide) (law_case_36 hkc hks hH p36 hiL hl hP hh hI hS next)
        | 37, _, tin => exact tin 1411 1444 rfl (by decide) (law_case_37 hkc hks hH p37 hiL hl hP hh hI hS next)
        | 38, _, tin => exact tin 1434 1467 rfl (by decide) (law_case_38 hkc hks hH p38 hiL hl hP hh hI hS next)
        | 39, _, tin => exact tin 1477 1510 rfl (by decide) (law_case_39 hkc hks hH p39 hiL hl hP hh hI hS next)
        | 40, _, tin => exact tin 1490 1523 rfl (by decide) (law_case_40 hkc hks hH p40 hiL hl hP hh hI hS next)
        | 41, _, tin => exact tin 1523 1556 rfl (by decide) (law_case_41 hkc hks hH p41 hiL hl hP hh hI hS next)
        | 42, _, tin => exact tin 1572 1605 rfl (by decide) (law_case_42 hkc hks hH p42 hiL hl hP hh hI hS next)
        | 43, _, tin => exact tin 1595 1628 rfl (by decide) (law_case_43 hkc hks hH p43 hiL hl hP hh hI hS next)
        | 44, _, tin => exact tin 1618 1651 rfl (by decide) (law_case_44 hkc hks hH p44 hiL hl hP hh hI hS next)
        | 45, _, tin => exact tin 1641 1674 rfl (by decide) (law_case_45 hkc hks hH p45 hiL hl hP hh hI hS next)
        | 46, _, tin => exact tin 1654 1687 rfl (by decide) (law_case_46 hkc hks hH p46 hiL hl hP hh hI hS next)
        | 47, _, tin => exact tin 1667 1700 rfl (by decide) (law_case_47 hkc hks hH p47 hiL hl hP hh hI hS next)
        | 48, _, tin => exact tin 1680 1713 rfl (by decide) (law_case_48 hkc hks hH p48 hiL hl hP hh hI hS next)
        | j + 49, h9, _ => exact absurd h9 (by omega)
