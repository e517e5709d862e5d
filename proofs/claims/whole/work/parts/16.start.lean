theorem arrK {args : Array Value} {s : State} {ty : FieldType} (hp : ∀ C, ty ≠ .object C) (h : (Cond.arrayClass ty).before args s = true) : ∃ c : ClassId, ArrOfT s c ty ∧ va_RA s c ty := by
  obtain ⟨c, k, comp, h1, h2, h3⟩ := Cond.arrayClass_spec h
  refine ⟨c, fun N z => ⟨(fun _ h => by cases h), k, h2, comp, h3⟩, ?_⟩
  cases ty with
  | object C => exact absurd rfl (hp C)
  | _ => exact h1
theorem arrKO {s : State} {C : String} (h : va_AO C s) : ∃ c : ClassId, ArrOfT s c (.object C) ∧ va_RA s c (.object C) := by
  obtain ⟨comp, c, k, h1, h2, h3, h4, h5⟩ := Cond.arrayOver_spec h
  exact ⟨c, fun N z => ⟨(fun _ h => by cases h), k, h3, comp, h4⟩, k, comp, h3, h4, h1, h5⟩
theorem sw_lawcl7 : Cond.classLink "ThimbleLawLaw" 7 "ThimbleLaw" ∈ BIG := big_of (tpA_in (q := (1, 20)) rfl) rfl
theorem sw_lawcl10 : Cond.classLink "ThimbleLawLaw" 10 "ThimbleLawModel" ∈ BIG := big_of (tpA_in (q := (5, 120)) rfl) rfl
theorem sw_lawml9 : Cond.methodLink "ThimbleLawLaw" 9 yI_Law ∈ BIG := big_of (tpA_in (q := (1, 22)) rfl) rfl
theorem sw_lawml12 : Cond.methodLink "ThimbleLawLaw" 12 yI_Model ∈ BIG := big_of (tpA_in (q := (5, 122)) rfl) rfl
theorem nw_mn : ∀ w i a, w < 13 → (mnL w).contains (i, a) = true → Cond.methodLinkNest (ownN w) i (mNm a) "ThimbleLaw" ∈ lw_tbl := fun w i a hw h => (mn_in hw h).1
theorem nw_in : ∀ q ∈ nestI, Cond.methodLinkNest q.1 q.2.1 q.2.2 "ThimbleLaw" ∈ lw_tbl := by
  intro q hq
  simp only [nestI, List.mem_cons, List.not_mem_nil, or_false] at hq
  rcases hq with rfl | rfl | rfl | rfl | rfl | rfl
  · exact tpA_in (q := (1, 42)) rfl
  · exact tpA_in (q := (1, 70)) rfl
  · exact tpA_in (q := (1, 191)) rfl
  · exact tpA_in (q := (1, 206)) rfl
  · exact tpA_in (q := (2, 22)) rfl
  · exact tpA_in (q := (2, 40)) rfl
theorem ao_in : Cond.arrayOver (.object "ThimbleLaw$Text") ∈ lw_tbl := tpA_in (q := (1, 204)) rfl
theorem sw_lsC : Cond.laysStatic "java/lang/String" "COMPACT_STRINGS" "Z" ∈ lw_tbl := tpA_in (q := (2, 196)) rfl
theorem sw_lsS : Cond.laysStatic "jdk/internal/util/Preconditions" "SIOOBE_FORMATTER" "Ljava/util/function/BiFunction;" ∈ lw_tbl := tpA_in (q := (2, 212)) rfl
theorem sw_str : Cond.stringRef "ThimbleLaw$Reader" 88 strT ∈ lw_tbl := tpA_in (q := (2, 186)) rfl
abbrev tmS : Term := .string "ThimbleLaw$Reader" 88
set_option maxRecDepth 100000 in
theorem elS_eq : (List.range 157).map (fun j => some (Cond.eq (.elem (.field tmS "java/lang/String" "value" "[B") (.int (Int32.ofNat j))) (.int (([strB.map Int32.ofInt].getD 0 []).getD j 0)))) = (List.range 157).map (fun j => (flatC (Jvm.Cond.and given_1 narrow_1))[13 + j]?) := by decide +kernel
theorem elS : ∀ j, j < 157 → Cond.eq (.elem (.field tmS "java/lang/String" "value" "[B") (.int (Int32.ofNat j))) (.int (([strB.map Int32.ofInt].getD 0 []).getD j 0)) ∈ flatC (Jvm.Cond.and given_1 narrow_1) := fun j hj =>
  List.mem_of_getElem? (map_at elS_eq (List.mem_range.mpr hj)).symm
set_option maxHeartbeats 16000000 in
set_option maxRecDepth 100000 in
/-- THE LAW, from its entry, out of the 49 statements -/
theorem whole_of {Inv : Nat → Hp → Prop} (hI : Inv 0 hInit) (hops : allOps Inv) (hst : ∀ n h, Inv n h → Inv (n + 1) h) {p : Program} {e : Env} {s : State} {m : MethodId} {below : List Frame} {meth : Method} {c : Code} (l : Launch) {b L : Nat} {xs : Nat → Int32} (hL : L ≤ 3072) (C0 : lw_At p s m meth c b L xs) : W p l e room_1 s m #[Value.ref b] below meth c s.heap [] 0 0 (lw_Z below #[Value.ref b] s) (entryFrame m ([Value.ref b] : List Value).toArray 4) := by
  obtain ⟨hx, hb, hr, hml, hown, hts0, hX, hbl, hlocks, hgv⟩ := C0
  have hts : ∀ w ∈ BIG, w.before #[Value.ref b] s = true := fun w hw => hts0 w (List.mem_filter.mp hw).1
  have hown : s.vm.findClass "ThimbleLawLaw" = some m.cls := hown
  have hA : ∀ q : Nat, s.heap.size ≤ q → (fun q : Nat => s.heap.size ≤ q) q := fun _ h => h
  have hN : NXI s := ⟨va_AO.of (hts0 _ ao_in), fun q hq => va_Nw.of rfl (hts0 _ (nw_in q hq))⟩
  have hNX : NX s := fun w i a hw hc => va_Nw.of rfl (hts0 _ (nw_mn w i a hw hc))
  obtain ⟨a0, hA0⟩ := arrK (fun _ h => by cases h) (hts _ sw_arr_int)
  obtain ⟨a1, hA1⟩ := arrK (fun _ h => by cases h) (hts _ sw_arr_byte)
  obtain ⟨a2, hA2⟩ := arrK (fun _ h => by cases h) (hts _ sw_arr_boolean)
  obtain ⟨a3, hA3⟩ := arrK (fun _ h => by cases h) (hts _ sw_arr_long)
  obtain ⟨a4, hA4⟩ := arrKO hN.1
  obtain ⟨cA, e0, e1, e2, e3, e4⟩ : ∃ cA : Nat → ClassId, cA 0 = a0 ∧ cA 1 = a1 ∧ cA 2 = a2 ∧ cA 3 = a3 ∧ cA 4 = a4 := ⟨fun k => match k with | 0 => a0 | 1 => a1 | 2 => a2 | 3 => a3 | _ => a4, rfl, rfl, rfl, rfl, rfl⟩
  subst e0; subst e1; subst e2; subst e3; subst e4
  have kn : ∀ k, ∃ q : ClassId × (Nat → Nat), k < 10 → u_Kn s (clN k) (clT k) (clM k) q.1 q.2 := by
    intro k
    by_cases hk : k < 10
    · have hin : (Cond.instantiable (clN k) (clM k)).before #[Value.ref b] s = true := by
        match k, hk with
        | 0, _ => exact hts _ sw_is_0
        | 1, _ => exact hts _ sw_is_1
        | 2, _ => exact hts _ sw_is_2
        | 3, _ => exact hts _ sw_is_3
        | 4, _ => exact hts _ sw_is_4
        | 5, _ => exact hts _ sw_is_5
        | 6, _ => exact hts _ sw_is_6
        | 7, _ => exact hts _ sw_is_7
        | 8, _ => exact hts _ sw_is_8
        | 9, _ => exact hts _ sw_is_9
        | k + 10, h => exact absurd h (by omega)
      obtain ⟨c1, i1, h1⟩ := u_known (C := clN k) (T := clT k) (N := clM k) (n := clM k) hts (uw_in hk) hin
      exact ⟨(c1, i1), fun _ => h1⟩
    · exact ⟨(0, fun _ => 0), fun h => absurd h hk⟩
  obtain ⟨dq, hdq⟩ := Classical.axiomOfChoice kn
  obtain ⟨D, hD1, hD2⟩ : ∃ D : va_G, (∀ k, D.1 k = (dq k).1) ∧ ∀ k, D.2 k = (dq k).2 := ⟨(fun k => (dq k).1, fun k => (dq k).2), fun _ => rfl, fun _ => rfl⟩
  have hK : va_K D fcs (tysL cA) s := by
    refine ⟨fun k q hq => ?_, fun k q hq => ?_⟩
    · have hk : k < 10 := (List.getElem?_eq_some_iff.mp hq).1
      rw [fcs_at hk] at hq
      cases hq
      rw [hD1, hD2]
      exact hdq k hk
    · have hk : k < 5 := (List.getElem?_eq_some_iff.mp hq).1
      match k, hk, hq with
      | 0, _, hq => cases hq; exact hA0
      | 1, _, hq => cases hq; exact hA1
      | 2, _, hq => cases hq; exact hA2
      | 3, _, hq => cases hq; exact hA3
      | 4, _, hq => cases hq; exact hA4
      | k + 5, h, _ => exact absurd h (by omega)
  have hS : va_S (fun q : Nat => s.heap.size ≤ q) s.heap s.heap [] := va_S.rf
  have hP : va_P D fcs [] s.heap := fun k q h => by simp at h
  have hD : va_D (fun q : Nat => s.heap.size ≤ q) [] := ⟨fun i j p q h => by simp at h, fun k q h => by simp at h⟩
  have hl := lv_entry ([.ref b]) (n := 4) (Nat.le_of_ble_eq_true rfl)
  rw [lg_entry_eq]
  generalize (lg_sl ([.ref b]) ++ List.replicate (4 - (lg_sl ([.ref b])).length) Slot.unset).toArray = ls at hl ⊢
  have hl : lv_has ls 4 [(0, .ref b)] := hl
  refine va_new (ci := 8) (fs := [.null, .null, .null, .null, .null, .null, .int (Int32.ofInt 0), .int (Int32.ofInt 0), .int (Int32.ofInt 0)]) (C := clN 8) (T := clT 8) (N := clM 8) hx hb hts (uw_in (c := 8) (by decide)) (clY 8) (ckY 8 (by decide)) hown (hts _ sw_lawcl7) (hts _ sw_is_8) (hts _ sw_ini_8) hK hP hD hS hA rfl (by decide) (Nat.le_of_ble_eq_true rfl) (Nat.le_of_ble_eq_true rfl) dL_0 (fun q0 H hP hD hS => ?_)
  have hP : va_P D fcs [(q0, .inr (8, [.null, .null, .null, .null, .null, .null, .int (Int32.ofInt 0), .int (Int32.ofInt 0), .int (Int32.ofInt 0)]))] H := hP
  have hD : va_D (fun q : Nat => s.heap.size ≤ q) [(q0, .inr (8, [.null, .null, .null, .null, .null, .null, .int (Int32.ofInt 0), .int (Int32.ofInt 0), .int (Int32.ofInt 0)]))] := hD
  refine lv_dup hx hb dL_3 rfl ?_
  have hPc := hP.sub (ws' := [(q0, .inr (8, [.null, .null, .null, .null, .null, .null, .int (Int32.ofInt 0), .int (Int32.ofInt 0), .int (Int32.ofInt 0)]))]) [0] rfl
  have hDc := hD.sub (ws' := [(q0, .inr (8, [.null, .null, .null, .null, .null, .null, .int (Int32.ofInt 0), .int (Int32.ofInt 0), .int (Int32.ofInt 0)]))]) [0] (by decide) rfl
  have hFc := va_free (wc := [(q0, .inr (8, [.null, .null, .null, .null, .null, .null, .int (Int32.ofInt 0), .int (Int32.ofInt 0), .int (Int32.ofInt 0)]))]) hD hS hA [0] rfl
  refine va_callv (va_runI (As := []) (rest := [.ref q0]) ⟨hx, hb, hml, hown, hts⟩ (k_Law l D cA q0 H.size) ⟨callB_of 0 hts (wsJ_ok sw_code_iLaw) rfl rfl rfl (hts _ sw_ini_8) (hts _ sw_lawml9) (by decide +kernel) ⟨Nat.le_of_ble_eq_true rfl, Nat.le_of_ble_eq_true rfl⟩, rfl, hts _ sw_in_iLaw⟩ ⟨PcI.blind, fun U hU hW => ⟨rfl, by rw [hU], by rw [hU]; exact hPc, ⟨va_K.moved hW.alike hK, hN.kept hW⟩, hDc.weaken (fun _ _ _ _ => trivial)⟩⟩ rfl rfl hl.1 rfl (lv_room (Nat.le_of_ble_eq_true rfl)) dL_4 ⟨Nat.le_of_ble_eq_true rfl, Nat.le_of_ble_eq_true rfl⟩) hS (fun q _ h => hFc q h) hFc (fun u t H1 locs ht hvm hw hB hz1 hk1 hS => ?_)
  obtain ⟨hP1, hD1⟩ := hB
  rw [ht] at hP1
  try dsimp only at hw
  subst hw
  obtain ⟨hP, hD⟩ := va_join (wr := []) (w1 := W_Law cA u) hP hD [0] [] rfl rfl (by decide) (by decide) hk1 hFc hP1 hD1
  generalize H1 = H at hP hS ⊢
  have hP : va_P D fcs (W_Law cA u) H := hP
  have hD : va_D (fun q : Nat => s.heap.size ≤ q) (W_Law cA u) := hD
  refine lv_astore_n (lv' := [(1, .ref (u 0)), (0, .ref b)]) hx hb dL_7 rfl hl (by decide) rfl (fun ls hl => ?_)
  refine va_new (ci := 9) (fs := [.null, .null, .null, .null, .int (Int32.ofInt 0), .int (Int32.ofInt 0), .int (Int32.ofInt 0), .int (Int32.ofInt 0), .int (Int32.ofInt 0), .int (Int32.ofInt 0), .int (Int32.ofInt 0), .long (Int64.ofInt 0), .int (Int32.ofInt 0), .int (Int32.ofInt 0), .int (Int32.ofInt 0), .null, .int (Int32.ofInt 0), .int (Int32.ofInt 0), .int (Int32.ofInt 0), .int (Int32.ofInt 0), .null, .null, .null, .null, .null, .null]) (C := clN 9) (T := clT 9) (N := clM 9) hx hb hts (uw_in (c := 9) (by decide)) (clY 9) (ckY 9 (by decide)) hown (hts _ sw_lawcl10) (hts _ sw_is_9) (hts _ sw_ini_9) hK hP hD hS hA rfl (by decide) (Nat.le_of_ble_eq_true rfl) (Nat.le_of_ble_eq_true rfl) dL_8 (fun q1 H hP hD hS => ?_)
  have hP : va_P D fcs (W_Law cA u ++ [(q1, .inr (9, [.null, .null, .null, .null, .int (Int32.ofInt 0), .int (Int32.ofInt 0), .int (Int32.ofInt 0), .int (Int32.ofInt 0), .int (Int32.ofInt 0), .int (Int32.ofInt 0), .int (Int32.ofInt 0), .long (Int64.ofInt 0), .int (Int32.ofInt 0), .int (Int32.ofInt 0), .int (Int32.ofInt 0), .null, .int (Int32.ofInt 0), .int (Int32.ofInt 0), .int (Int32.ofInt 0), .int (Int32.ofInt 0), .null, .null, .null, .null, .null, .null]))]) H := hP
  have hD : va_D (fun q : Nat => s.heap.size ≤ q) (W_Law cA u ++ [(q1, .inr (9, [.null, .null, .null, .null, .int (Int32.ofInt 0), .int (Int32.ofInt 0), .int (Int32.ofInt 0), .int (Int32.ofInt 0), .int (Int32.ofInt 0), .int (Int32.ofInt 0), .int (Int32.ofInt 0), .long (Int64.ofInt 0), .int (Int32.ofInt 0), .int (Int32.ofInt 0), .int (Int32.ofInt 0), .null, .int (Int32.ofInt 0), .int (Int32.ofInt 0), .int (Int32.ofInt 0), .int (Int32.ofInt 0), .null, .null, .null, .null, .null, .null]))]) := hD
  refine lv_dup hx hb dL_11 rfl ?_
  have hPc := hP.sub (ws' := [(q1, .inr (9, [.null, .null, .null, .null, .int (Int32.ofInt 0), .int (Int32.ofInt 0), .int (Int32.ofInt 0), .int (Int32.ofInt 0), .int (Int32.ofInt 0), .int (Int32.ofInt 0), .int (Int32.ofInt 0), .long (Int64.ofInt 0), .int (Int32.ofInt 0), .int (Int32.ofInt 0), .int (Int32.ofInt 0), .null, .int (Int32.ofInt 0), .int (Int32.ofInt 0), .int (Int32.ofInt 0), .int (Int32.ofInt 0), .null, .null, .null, .null, .null, .null]))]) [84] rfl
  have hDc := hD.sub (ws' := [(q1, .inr (9, [.null, .null, .null, .null, .int (Int32.ofInt 0), .int (Int32.ofInt 0), .int (Int32.ofInt 0), .int (Int32.ofInt 0), .int (Int32.ofInt 0), .int (Int32.ofInt 0), .int (Int32.ofInt 0), .long (Int64.ofInt 0), .int (Int32.ofInt 0), .int (Int32.ofInt 0), .int (Int32.ofInt 0), .null, .int (Int32.ofInt 0), .int (Int32.ofInt 0), .int (Int32.ofInt 0), .int (Int32.ofInt 0), .null, .null, .null, .null, .null, .null]))]) [84] (by decide) rfl
  have hFc := va_free (wc := [(q1, .inr (9, [.null, .null, .null, .null, .int (Int32.ofInt 0), .int (Int32.ofInt 0), .int (Int32.ofInt 0), .int (Int32.ofInt 0), .int (Int32.ofInt 0), .int (Int32.ofInt 0), .int (Int32.ofInt 0), .long (Int64.ofInt 0), .int (Int32.ofInt 0), .int (Int32.ofInt 0), .int (Int32.ofInt 0), .null, .int (Int32.ofInt 0), .int (Int32.ofInt 0), .int (Int32.ofInt 0), .int (Int32.ofInt 0), .null, .null, .null, .null, .null, .null]))]) hD hS hA [84] rfl
  refine va_callv (va_runI (As := []) (rest := [.ref q1]) ⟨hx, hb, hml, hown, hts⟩ (k_Model l D cA q1 H.size) ⟨callB_of 0 hts (wsJ_ok sw_code_iModel) rfl rfl rfl (hts _ sw_ini_9) (hts _ sw_lawml12) (by decide +kernel) ⟨Nat.le_of_ble_eq_true rfl, Nat.le_of_ble_eq_true rfl⟩, rfl, hts _ sw_in_iModel⟩ ⟨PcI.blind, fun U hU hW => ⟨rfl, by rw [hU], by rw [hU]; exact hPc, ⟨va_K.moved hW.alike hK, hN.kept hW⟩, hDc.weaken (fun _ _ _ _ => trivial)⟩⟩ rfl rfl hl.1 rfl (lv_room (Nat.le_of_ble_eq_true rfl)) dL_12 ⟨Nat.le_of_ble_eq_true rfl, Nat.le_of_ble_eq_true rfl⟩) hS (fun q _ h => hFc q h) hFc (fun v t H1 locs ht hvm hw hB hz1 hk1 hS => ?_)
  obtain ⟨hP1, hD1⟩ := hB
  rw [ht] at hP1
  try dsimp only at hw
  subst hw
  obtain ⟨hP, hD⟩ := va_join (wr := W_Law cA u) (w1 := W_Model cA v) hP hD [84] [0, 1, 2, 3, 4, 5, 6, 7, 8, 9, 10, 11, 12, 13, 14, 15, 16, 17, 18, 19, 20, 21, 22, 23, 24, 25, 26, 27, 28, 29, 30, 31, 32, 33, 34, 35, 36, 37, 38, 39, 40, 41, 42, 43, 44, 45, 46, 47, 48, 49, 50, 51, 52, 53, 54, 55, 56, 57, 58, 59, 60, 61, 62, 63, 64, 65, 66, 67, 68, 69, 70, 71, 72, 73, 74, 75, 76, 77, 78, 79, 80, 81, 82, 83] rfl rfl (by decide) (by decide) hk1 hFc hP1 hD1
  generalize H1 = H at hP hS ⊢
  refine lv_astore_n (lv' := [(2, .ref (v 0)), (1, .ref (u 0)), (0, .ref b)]) hx hb dL_15 rfl hl (by decide) rfl (fun ls hl => ?_)
  refine lv_iconst (v := Int32.ofInt ((0 : Nat) : Int)) hx hb dL_16 rfl ?_
  refine lv_istore_n (lv' := [(3, .int (Int32.ofInt ((0 : Nat) : Int))), (2, .ref (v 0)), (1, .ref (u 0)), (0, .ref b)]) hx hb dL_17 rfl hl (by decide) rfl (fun ls hl => ?_)
  have hs := flat_of_before _ hgv
  have hlt : ∀ a : Nat, a < s.heap.size → ∀ z, ¬ inA (adsF u v z) a := by
    intro a ha z h
    obtain ⟨o, ho, eo⟩ := h
    have := (wldA cA u v z hD).2 o ho
    have : s.heap.size ≤ adsF u v z o := this
    omega
  obtain ⟨adK, adV, hvS, hvE⟩ := vk_Sof (s := s) (args := #[Value.ref b]) (N := 1) (tm := fun _ => tmS) (len := [157]) (byt := [strB.map Int32.ofInt]) (A := inA (adsF u v 0)) (fun i hi => by rw [show i = 0 by omega]; decide) (fun i hi => hs _ (by decide +kernel)) (fun i hi => hs _ (by decide +kernel)) (fun i hi => hs _ (by decide +kernel)) (fun i hi => by rw [show i = 0 by omega]; exact hs _ (by decide +kernel)) (fun i hi j hj => by rw [show i = 0 by omega] at hj ⊢; exact hs _ (elS j hj)) (fun i j hi hj hne => absurd (by omega) hne) (fun a ha => hlt a ha 0)
  have hads : ∀ z1 z2, inA (adsF u v z1) = inA (adsF u v z2) := by
    intro z1 z2
    funext q
    apply propext
    have key : ∀ z o, o < nOb → adsF u v z o = adsF u v 0 o := by
      intro z o ho
      unfold adsF
      have h96 : Nat.blt o 96 = true := Nat.ble_eq_true_of_le (show o + 1 ≤ 96 from ho)
      rw [h96]
      rfl
    constructor
    · rintro ⟨o, ho, eo⟩
      exact ⟨o, ho, by rw [eo, key z1 o ho, key z2 o ho]⟩
    · rintro ⟨o, ho, eo⟩
      exact ⟨o, ho, by rw [eo, key z2 o ho, key z1 o ho]⟩
  have hSX : SX (adsF u v (adK 0)) s := by
    have e96 : adsF u v (adK 0) 96 = adK 0 := rfl
    refine ⟨?_, ⟨adV 0, ?_⟩, ?_, ?_⟩
    · rw [e96]
      exact vk_R.of (A := #[Value.ref b]) (hts0 _ sw_str) (hvE 0 (by decide))
    · rw [hads (adK 0) 0]
      refine ⟨fun i hi => ?_, fun i j hi hj _ => by omega⟩
      have := hvS.1 i hi
      rw [show i = 0 by omega] at this ⊢
      exact this
    · exact va_Zof (hts0 _ sw_lsC) (hts _ sw_ini_S) (va_eqt (hs _ (by decide +kernel))) (fun a ha => hlt a ha _)
    · exact va_Zqof (hts0 _ sw_lsS) (hts _ sw_ini_P) (hs _ (by decide +kernel)) (fun a ha => hlt a ha _)
  obtain ⟨hap, hge⟩ := wldA cA u v (adK 0) hD
  have hP := wldI cA u v (adK 0) hP
  refine va_forget (fun q hq => hS.2.2 q hq) ?_
  refine W.widen (k := 96) (n := 20619) (by decide) (by decide) ?_
  exact law_loop (ads := adsF u v (adK 0)) (Inv := Inv) (by decide) (by decide) ⟨hx, hb, hml, hown, hts, hX, hbl, hL, hap, hK, hNX, hSX, hge⟩ hr hlocks hops hst (L + 1) 0 (by omega) H ls hInit (lv_sub hl [3, 2, 1, 0] rfl) (by omega) hP hInit_ok hI ⟨hS.1, fun q h1 h2 => hS.2.1 q h1 (by show ¬ s.heap.size ≤ q; omega), fun _ h9 => absurd h9 List.not_mem_nil⟩
