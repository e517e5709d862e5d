theorem arrV_cong {c : ClassId} {N : Nat} {f g : Nat → Value} (h : ∀ j, j < N → f j = g j) : arrV c N f = arrV c N g := by
  unfold arrV
  congr 2
  funext j
  exact h j.val j.isLt
theorem cell_cong {c : ClassId} {N : Nat} {f g : Nat → Int32} (h : ∀ j, j < N → f j = g j) : vp_cell c (N, .inl f) = vp_cell c (N, .inl g) := by
  rw [vp_cell_i, vp_cell_i]
  exact arrV_cong (fun j hj => by rw [h j hj])
theorem va_P.cong {D : va_G} {cl : List vw_C} {ws ws2 : va_W} {H : Heap} (hP : va_P D cl ws H) (h : ∀ (k : Nat) (q : Nat × va_E), ws2[k]? = some q → ∃ q2 : Nat × va_E, ws[k]? = some q2 ∧ (va_at D cl q2 H → va_at D cl q H)) : va_P D cl ws2 H := by
  intro k q hq
  obtain ⟨q2, h1, h2⟩ := h k q hq
  exact h2 (hP k q2 h1)
abbrev cC_copy : ByteArray := prog_14_method_2_code
theorem dC_copy_0 : decode cC_copy 0 = .ok (.iconst 0, 1) := by decide +kernel
theorem dC_copy_1 : decode cC_copy 1 = .ok (.istore_n 2, 1) := by decide +kernel
theorem dC_copy_2 : decode cC_copy 2 = .ok (.iload_n 2, 1) := by decide +kernel
theorem dC_copy_3 : decode cC_copy 3 = .ok (.sipush 3856, 3) := by decide +kernel
theorem dC_copy_6 : decode cC_copy 6 = .ok (.if_icmp .ge 15, 3) := by decide +kernel
theorem dC_copy_9 : decode cC_copy 9 = .ok (.aload_n 1, 1) := by decide +kernel
theorem dC_copy_10 : decode cC_copy 10 = .ok (.iload_n 2, 1) := by decide +kernel
theorem dC_copy_11 : decode cC_copy 11 = .ok (.aload_n 0, 1) := by decide +kernel
theorem dC_copy_12 : decode cC_copy 12 = .ok (.iload_n 2, 1) := by decide +kernel
theorem dC_copy_13 : decode cC_copy 13 = .ok (.iaload, 1) := by decide +kernel
theorem dC_copy_14 : decode cC_copy 14 = .ok (.iastore, 1) := by decide +kernel
theorem dC_copy_15 : decode cC_copy 15 = .ok (.iinc 2 1, 3) := by decide +kernel
theorem dC_copy_18 : decode cC_copy 18 = .ok (.goto (-16), 3) := by decide +kernel
theorem dC_copy_21 : decode cC_copy 21 = .ok (.return_, 1) := by decide +kernel
def PcC (D : va_G) (cA : Nat → ClassId) (ws : va_W) (av : List Value) (sz : Nat) : Array Value → State → Prop := va_Pc av (fun U => U.heap.size = sz ∧ va_P D fcs ws U.heap ∧ va_K D fcs (tysL cA) U ∧ va_D (fun _ => True) ws)
theorem PcI.blind2 {D : va_G} {cA : Nat → ClassId} {ws : va_W} {av : List Value} {sz : Nat} : FrameBlind (PcC D cA ws av sz) := by
  intro a U g mk q
  obtain ⟨q0, q1, qP, qK, qD⟩ := q
  exact ⟨q0, q1, qP, va_K.moved (u := U) (U := U.calling g mk a) (Vm.Alike.refl U.vm) qK, qD⟩
def cpf (f : Nat → Int32) (i : Nat) : Nat → Int32 := fun j => if j < i then f j else Int32.ofInt 0
theorem cpf_s (f : Nat → Int32) (i : Nat) : upd (cpf f i) i (f i) = cpf f (i + 1) := by
  funext j
  unfold upd cpf
  by_cases h : j = i
  · subst h
    rw [if_pos rfl, if_pos (by omega)]
  · rw [if_neg h]
    by_cases h2 : j < i
    · rw [if_pos h2, if_pos (by omega)]
    · rw [if_neg h2, if_neg (by omega)]
abbrev wsC (cA : Nat → ClassId) (h0 h1 : Nat) (f g : Nat → Int32) : va_W := [(h0, .inl (cA 0, 3856, .inl f)), (h1, .inl (cA 0, 3856, .inl g))]
set_option maxHeartbeats 16000000 in
set_option maxRecDepth 100000 in
theorem k_copy (l : Launch) (D : va_G) (cA : Nat → ClassId) (h0 h1 sz : Nat) (f : Nat → Int32) : Met l (mNm 163) (wsJ (mNm 163) (mBy 163) 3 none) ({ frames := 0, cells := 0, slots := 0, locals := 0 }) (PcC D cA (wsC cA h0 h1 f (fun _ => Int32.ofInt 0)) [.ref h0, .ref h1] sz) (va_Qv (fun _ : Unit => True) (fun _ t => va_P D fcs (wsC cA h0 h1 f f) t.heap ∧ va_D (va_A (wsC cA h0 h1 f (fun _ => Int32.ofInt 0)) sz) (wsC cA h0 h1 f f)) (va_A (wsC cA h0 h1 f (fun _ => Int32.ofInt 0)) sz)) 0 0 (va_A (wsC cA h0 h1 f (fun _ => Int32.ofInt 0)) sz) := by
  refine Met.ofW (cc := cC_copy) (maxL := 3) (ret := none) (by decide) rfl ?_
  intro p e s m args below meth c s₁ B hml hv
  obtain ⟨rfl, hsz, hP, hK, hD0⟩ := hv
  have hx := B.exec
  have hb := B.bytes
  have hr := B.returns
  have hlocks := B.notSynchronized
  subst hsz
  have hD := hD0.self (sz := s.heap.size)
  generalize hAe : va_A (wsC cA h0 h1 f (fun _ => Int32.ofInt 0)) s.heap.size = A at hD ⊢
  have hS : va_S A s.heap s.heap [] := va_S.rf
  have hl := lv_entry ([.ref h0, .ref h1]) (n := 3) (Nat.le_of_ble_eq_true rfl)
  rw [lg_entry_eq]
  generalize (lg_sl ([.ref h0, .ref h1]) ++ List.replicate (3 - (lg_sl ([.ref h0, .ref h1])).length) Slot.unset).toArray = ls at hl ⊢
  have hl : lv_has ls 3 [(0, .ref h0), (1, .ref h1)] := hl
  have loop : ∀ (n i : Nat) (H : Heap) (locs : List Loc) (ls : Array Slot), i + n = 3856 → va_P D fcs (wsC cA h0 h1 f (cpf f i)) H → va_D A (wsC cA h0 h1 f (cpf f i)) → va_S A s.heap H locs → lv_has ls 3 [(2, .int (Int32.ofInt (i : Int))), (0, .ref h0), (1, .ref h1)] →
      W p l e (headSpec (wsJ (mNm 163) (mBy 163) 3 none) ({ frames := 0, cells := 0, slots := 0, locals := 0 })).room s m #[Value.ref h0, Value.ref h1] below meth c H locs 0 0 (MQ below (va_Qv (fun _ : Unit => True) (fun _ t => va_P D fcs (wsC cA h0 h1 f f) t.heap ∧ va_D A (wsC cA h0 h1 f f)) A) #[Value.ref h0, Value.ref h1] s 0 0 A) (F0 m 2 ls []) := by
    intro n
    induction n with
    | zero =>
      intro i H locs ls hi hP hD hS hl
      refine lv_iload_n hx hb dC_copy_2 rfl (lv_at hl 0 rfl) ?_
      refine lv_sipush (v := Int32.ofInt 3856) hx hb dC_copy_3 (by decide) ?_
      refine lv_icmp_ge (tgt := 21) hx hb dC_copy_6 (by decide) (fun _ => ?_) (fun c9 => absurd ((i32le (by omega) (by omega)).mpr (by omega)) c9)
      have hPf : va_P D fcs (wsC cA h0 h1 f f) H := by
        refine hP.cong (fun k q hq => ?_)
        match k, hq with
        | 0, hq => exact ⟨_, rfl, fun z => by cases hq; exact z⟩
        | 1, hq =>
          refine ⟨_, rfl, fun z => ?_⟩
          cases hq
          refine Eq.trans (show H[h1]? = some (vp_cell (cA 0) (3856, .inl (cpf f i))) from z) (congrArg some (cell_cong (fun j hj => ?_)))
          exact if_pos (by omega)
        | k + 2, hq => simp at hq
      have hDf : va_D A (wsC cA h0 h1 f f) := by
        refine ⟨fun i j p q hp hq e => ?_, fun k q hq => ?_⟩
        · have hi2 : i < 2 := (List.getElem?_eq_some_iff.mp hp).1
          have hj2 : j < 2 := (List.getElem?_eq_some_iff.mp hq).1
          have key : h0 ≠ h1 := fun q => absurd (hD.1 0 1 _ _ rfl rfl q) (by decide)
          match i, j, hi2, hj2, hp, hq with
          | 0, 0, _, _, _, _ => rfl
          | 1, 1, _, _, _, _ => rfl
          | 0, 1, _, _, hp, hq => cases hp; cases hq; exact absurd e key
          | 1, 0, _, _, hp, hq => cases hp; cases hq; exact absurd e.symm key
        · have hk2 : k < 2 := (List.getElem?_eq_some_iff.mp hq).1
          match k, hk2, hq with
          | 0, _, hq => cases hq; exact hD.2 0 (h0, .inl (cA 0, 3856, .inl f)) rfl
          | 1, _, hq => cases hq; exact hD.2 1 (h1, .inl (cA 0, 3856, .inl (cpf f i))) rfl
      exact W.vret hx hb hr (fun t ht hW => ⟨⟨(), rfl, trivial, by rw [ht]; exact hPf, hDf⟩, hS.F ht⟩) hS.2.2 dC_copy_21
    | succ n ih =>
      intro i H locs ls hi hP hD hS hl
      refine lv_iload_n hx hb dC_copy_2 rfl (lv_at hl 0 rfl) ?_
      refine lv_sipush (v := Int32.ofInt 3856) hx hb dC_copy_3 (by decide) ?_
      refine lv_icmp_ge (tgt := 21) hx hb dC_copy_6 (by decide) (fun c9 => absurd ((i32le (by omega) (by omega)).mp c9) (by omega)) (fun _ => ?_)
      refine lv_aload_n hx hb dC_copy_9 rfl (lv_at hl 2 rfl) ?_
      refine lv_iload_n hx hb dC_copy_10 rfl (lv_at hl 0 rfl) ?_
      refine lv_aload_n hx hb dC_copy_11 rfl (lv_at hl 1 rfl) ?_
      refine lv_iload_n hx hb dC_copy_12 rfl (lv_at hl 0 rfl) ?_
      refine va_iald hx hb hK hP 0 0 (cA := cA 0) (n := 3856) (f := f) rfl rfl (i32in (n := 3856) (by omega) (by omega) (by decide)) dC_copy_13 ?_
      refine va_iast hx hb hK hP hD hS 1 0 (cA := cA 0) (n := 3856) (f := cpf f i) rfl rfl (i32in (n := 3856) (by omega) (by omega) (by decide)) dC_copy_14 (fun H locs hP hD hS => ?_)
      rw [i32clamp (by omega) (by omega), Int.toNat_natCast, cpf_s] at hP hD
      have hP : va_P D fcs (wsC cA h0 h1 f (cpf f (i + 1))) H := hP
      have hD : va_D A (wsC cA h0 h1 f (cpf f (i + 1))) := hD
      refine lv_iinc (v := Int32.ofInt ((i + 1 : Nat) : Int)) (lv' := [(2, .int (Int32.ofInt ((i + 1 : Nat) : Int))), (0, .ref h0), (1, .ref h1)]) hx hb dC_copy_15 hl (k := 0) rfl ?_ (by decide) rfl (fun ls hl => ?_)
      · rw [← Int32.ofInt_add]
        congr 1
      refine lv_goto (tgt := 2) hx hb dC_copy_18 (by decide) ?_
      exact ih (i + 1) H locs ls (by omega) hP hD hS hl
  refine lv_iconst (v := Int32.ofInt 0) hx hb dC_copy_0 rfl ?_
  refine lv_istore_n (lv' := [(2, .int (Int32.ofInt 0)), (0, .ref h0), (1, .ref h1)]) hx hb dC_copy_1 rfl hl (by decide) rfl (fun ls hl => ?_)
  have e0 : cpf f 0 = (fun _ => Int32.ofInt 0) := by
    funext j
    unfold cpf
    rw [if_neg (by omega)]
  exact loop 3856 0 _ _ ls (by omega) (by rw [e0]; exact hP) (by rw [e0]; exact hD) hS hl
