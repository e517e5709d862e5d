def mi (m : Nat) : cMi := nth2 (⟨"", "", ""⟩, ⟨#[]⟩, 0, none, false, []) mtT m
def mNm (m : Nat) : MethodName := (mi m).1
def mBy (m : Nat) : ByteArray := (mi m).2.1
def mRt (m : Nat) : Option FieldType := (mi m).2.2.2.1
def mSt (m : Nat) : Bool := (mi m).2.2.2.2.1
def mOw (m : Nat) : Nat := nth2 99 mOT m
def mCi (m : Nat) : Nat := nth2 99 mCT m
def ownN (w : Nat) : String := nth "" ownT w
def clN (c : Nat) : String := (nth ("", (fun _ => ("", "", "", false)), 0) fcs c).1
def clT (c : Nat) : u_T := (nth ("", (fun _ => ("", "", "", false)), 0) fcs c).2.1
def clM (c : Nat) : Nat := (nth ("", (fun _ => ("", "", "", false)), 0) fcs c).2.2
def clY (c : Nat) : Nat → FieldType := nth (fun _ => .int) fys c
/-- the words by their parts -/
def tpW (k : Nat) : List Cond := match k with
  | 0 => k2_sels lw_privs
  | 1 => tables_1_1
  | 2 => tables_1_2
  | 3 => tables_1_3
  | 4 => tables_1_4
  | 5 => tables_1_5
  | 6 => tables_1_6
  | 7 => tables_1_7
  | 8 => tables_1_8
  | _ => []
theorem tpW_in {k : Nat} {w : Cond} (h : w ∈ tpW k) : w ∈ lw_tbl := by
  unfold tpW at h
  show w ∈ k2_sels lw_privs ++ (tables_1_1 ++ (tables_1_2 ++ (tables_1_3 ++ (tables_1_4 ++ (tables_1_5 ++ (tables_1_6 ++ (tables_1_7 ++ tables_1_8)))))))
  simp only [List.mem_append]
  split at h <;> first | (simp only [h, true_or, or_true]; done) | cases h
def tpA (q : Nat × Nat) : Option Cond := (tpW q.1)[q.2]?
theorem tpA_in {q : Nat × Nat} {w : Cond} (h : tpA q = some w) : w ∈ lw_tbl := tpW_in (List.mem_of_getElem? h)
def flL (w : Nat) : List (Nat × Nat × Nat) := (nth [] flW w).map (fun e => e.1)
def mlL (w : Nat) : List (Nat × Nat) := (nth [] mlW w).map (fun e => e.1)
def mnL (w : Nat) : List (Nat × Nat) := (nth [] mnW w).map (fun e => e.1)
def acL : List (Nat × Nat) := acW.map (fun e => e.1)
def kcL : List (Nat × Nat × Int) := kcW.map (fun e => e.1)
def klL : List (Nat × Nat × Int) := klW.map (fun e => e.1)
def miC (m : Nat) (q : cMi) : Cond := .code q.1 q.2.1 q.2.2.1 q.2.2.2.1
def miH (q : cMi) (i : Nat) : Option Cond := tpA (nth (99, 0) q.2.2.2.2.2 i)
def miO (q : cMi) : List (Option Cond) := match q.2.2.2.2.1 with
  | true => [miH q 0, miH q 1, miH q 2]
  | false => [miH q 0, miH q 1, miH q 2, miH q 3]
def miR (q : cMi) : List (Option Cond) := match q.2.2.2.2.1 with
  | true => [some (.code q.1 q.2.1 q.2.2.1 q.2.2.2.1), some (.initialized q.1.cls), some (.static q.1)]
  | false => [some (.code q.1 q.2.1 q.2.2.1 q.2.2.2.1), some (.initialized q.1.cls), some (.instanceMethod q.1), some (.selects q.1.cls q.1 q.1)]
set_option maxRecDepth 100000 in
theorem ckC0 : (nth [] mtT 0).map miO = (nth [] mtT 0).map miR := rfl
set_option maxRecDepth 100000 in
theorem ckC1 : (nth [] mtT 1).map miO = (nth [] mtT 1).map miR := rfl
set_option maxRecDepth 100000 in
theorem ckC2 : (nth [] mtT 2).map miO = (nth [] mtT 2).map miR := rfl
set_option maxRecDepth 100000 in
theorem ckC3 : (nth [] mtT 3).map miO = (nth [] mtT 3).map miR := rfl
set_option maxRecDepth 100000 in
theorem ckC4 : (nth [] mtT 4).map miO = (nth [] mtT 4).map miR := rfl
set_option maxRecDepth 100000 in
theorem ckC5 : (nth [] mtT 5).map miO = (nth [] mtT 5).map miR := rfl
set_option maxRecDepth 100000 in
theorem ckC6 : (nth [] mtT 6).map miO = (nth [] mtT 6).map miR := rfl
set_option maxRecDepth 100000 in
theorem ckC7 : (nth [] mtT 7).map miO = (nth [] mtT 7).map miR := rfl
set_option maxRecDepth 100000 in
theorem ckC8 : (nth [] mtT 8).map miO = (nth [] mtT 8).map miR := rfl
set_option maxRecDepth 100000 in
theorem ckC9 : (nth [] mtT 9).map miO = (nth [] mtT 9).map miR := rfl
set_option maxRecDepth 100000 in
theorem ckC10 : (nth [] mtT 10).map miO = (nth [] mtT 10).map miR := rfl
set_option maxRecDepth 100000 in
theorem ckC11 : (nth [] mtT 11).map miO = (nth [] mtT 11).map miR := rfl
set_option maxRecDepth 100000 in
theorem ckC12 : (nth [] mtT 12).map miO = (nth [] mtT 12).map miR := rfl
set_option maxRecDepth 100000 in
theorem ckC13 : (nth [] mtT 13).map miO = (nth [] mtT 13).map miR := rfl
set_option maxRecDepth 100000 in
theorem ckC14 : (nth [] mtT 14).map miO = (nth [] mtT 14).map miR := rfl
set_option maxRecDepth 100000 in
theorem ckC15 : (nth [] mtT 15).map miO = (nth [] mtT 15).map miR := rfl
set_option maxRecDepth 100000 in
theorem ckC16 : (nth [] mtT 16).map miO = (nth [] mtT 16).map miR := rfl
set_option maxRecDepth 100000 in
theorem ckC17 : (nth [] mtT 17).map miO = (nth [] mtT 17).map miR := rfl
set_option maxRecDepth 100000 in
theorem ckC18 : (nth [] mtT 18).map miO = (nth [] mtT 18).map miR := rfl
set_option maxRecDepth 100000 in
theorem ckC19 : (nth [] mtT 19).map miO = (nth [] mtT 19).map miR := rfl
set_option maxRecDepth 100000 in
theorem ckF0 : (nth [] flW 0).map (fun e => tpA e.2) = (nth [] flW 0).map (fun e => some (Cond.fieldLink (ownN 0) e.1.1 (clN e.1.2.1) ((clT e.1.2.1) e.1.2.2).2.1 ((clT e.1.2.1) e.1.2.2).2.2.1)) := rfl
set_option maxRecDepth 100000 in
theorem ckL0 : (nth [] mlW 0).map (fun e => tpA e.2) = (nth [] mlW 0).map (fun e => some (Cond.methodLink (ownN 0) e.1.1 (mNm e.1.2))) := rfl
set_option maxRecDepth 100000 in
theorem ckN0 : (nth [] mnW 0).map (fun e => tpA e.2) = (nth [] mnW 0).map (fun e => some (Cond.methodLinkNest (ownN 0) e.1.1 (mNm e.1.2) "ThimbleLaw")) := rfl
set_option maxRecDepth 100000 in
theorem ckF1 : (nth [] flW 1).map (fun e => tpA e.2) = (nth [] flW 1).map (fun e => some (Cond.fieldLink (ownN 1) e.1.1 (clN e.1.2.1) ((clT e.1.2.1) e.1.2.2).2.1 ((clT e.1.2.1) e.1.2.2).2.2.1)) := rfl
set_option maxRecDepth 100000 in
theorem ckL1 : (nth [] mlW 1).map (fun e => tpA e.2) = (nth [] mlW 1).map (fun e => some (Cond.methodLink (ownN 1) e.1.1 (mNm e.1.2))) := rfl
set_option maxRecDepth 100000 in
theorem ckN1 : (nth [] mnW 1).map (fun e => tpA e.2) = (nth [] mnW 1).map (fun e => some (Cond.methodLinkNest (ownN 1) e.1.1 (mNm e.1.2) "ThimbleLaw")) := rfl
set_option maxRecDepth 100000 in
theorem ckF2 : (nth [] flW 2).map (fun e => tpA e.2) = (nth [] flW 2).map (fun e => some (Cond.fieldLink (ownN 2) e.1.1 (clN e.1.2.1) ((clT e.1.2.1) e.1.2.2).2.1 ((clT e.1.2.1) e.1.2.2).2.2.1)) := rfl
set_option maxRecDepth 100000 in
theorem ckL2 : (nth [] mlW 2).map (fun e => tpA e.2) = (nth [] mlW 2).map (fun e => some (Cond.methodLink (ownN 2) e.1.1 (mNm e.1.2))) := rfl
set_option maxRecDepth 100000 in
theorem ckN2 : (nth [] mnW 2).map (fun e => tpA e.2) = (nth [] mnW 2).map (fun e => some (Cond.methodLinkNest (ownN 2) e.1.1 (mNm e.1.2) "ThimbleLaw")) := rfl
set_option maxRecDepth 100000 in
theorem ckF3 : (nth [] flW 3).map (fun e => tpA e.2) = (nth [] flW 3).map (fun e => some (Cond.fieldLink (ownN 3) e.1.1 (clN e.1.2.1) ((clT e.1.2.1) e.1.2.2).2.1 ((clT e.1.2.1) e.1.2.2).2.2.1)) := rfl
set_option maxRecDepth 100000 in
theorem ckL3 : (nth [] mlW 3).map (fun e => tpA e.2) = (nth [] mlW 3).map (fun e => some (Cond.methodLink (ownN 3) e.1.1 (mNm e.1.2))) := rfl
set_option maxRecDepth 100000 in
theorem ckN3 : (nth [] mnW 3).map (fun e => tpA e.2) = (nth [] mnW 3).map (fun e => some (Cond.methodLinkNest (ownN 3) e.1.1 (mNm e.1.2) "ThimbleLaw")) := rfl
set_option maxRecDepth 100000 in
theorem ckF4 : (nth [] flW 4).map (fun e => tpA e.2) = (nth [] flW 4).map (fun e => some (Cond.fieldLink (ownN 4) e.1.1 (clN e.1.2.1) ((clT e.1.2.1) e.1.2.2).2.1 ((clT e.1.2.1) e.1.2.2).2.2.1)) := rfl
set_option maxRecDepth 100000 in
theorem ckL4 : (nth [] mlW 4).map (fun e => tpA e.2) = (nth [] mlW 4).map (fun e => some (Cond.methodLink (ownN 4) e.1.1 (mNm e.1.2))) := rfl
set_option maxRecDepth 100000 in
theorem ckN4 : (nth [] mnW 4).map (fun e => tpA e.2) = (nth [] mnW 4).map (fun e => some (Cond.methodLinkNest (ownN 4) e.1.1 (mNm e.1.2) "ThimbleLaw")) := rfl
set_option maxRecDepth 100000 in
theorem ckF5 : (nth [] flW 5).map (fun e => tpA e.2) = (nth [] flW 5).map (fun e => some (Cond.fieldLink (ownN 5) e.1.1 (clN e.1.2.1) ((clT e.1.2.1) e.1.2.2).2.1 ((clT e.1.2.1) e.1.2.2).2.2.1)) := rfl
set_option maxRecDepth 100000 in
theorem ckL5 : (nth [] mlW 5).map (fun e => tpA e.2) = (nth [] mlW 5).map (fun e => some (Cond.methodLink (ownN 5) e.1.1 (mNm e.1.2))) := rfl
set_option maxRecDepth 100000 in
theorem ckN5 : (nth [] mnW 5).map (fun e => tpA e.2) = (nth [] mnW 5).map (fun e => some (Cond.methodLinkNest (ownN 5) e.1.1 (mNm e.1.2) "ThimbleLaw")) := rfl
set_option maxRecDepth 100000 in
theorem ckF6 : (nth [] flW 6).map (fun e => tpA e.2) = (nth [] flW 6).map (fun e => some (Cond.fieldLink (ownN 6) e.1.1 (clN e.1.2.1) ((clT e.1.2.1) e.1.2.2).2.1 ((clT e.1.2.1) e.1.2.2).2.2.1)) := rfl
set_option maxRecDepth 100000 in
theorem ckL6 : (nth [] mlW 6).map (fun e => tpA e.2) = (nth [] mlW 6).map (fun e => some (Cond.methodLink (ownN 6) e.1.1 (mNm e.1.2))) := rfl
set_option maxRecDepth 100000 in
theorem ckN6 : (nth [] mnW 6).map (fun e => tpA e.2) = (nth [] mnW 6).map (fun e => some (Cond.methodLinkNest (ownN 6) e.1.1 (mNm e.1.2) "ThimbleLaw")) := rfl
set_option maxRecDepth 100000 in
theorem ckF7 : (nth [] flW 7).map (fun e => tpA e.2) = (nth [] flW 7).map (fun e => some (Cond.fieldLink (ownN 7) e.1.1 (clN e.1.2.1) ((clT e.1.2.1) e.1.2.2).2.1 ((clT e.1.2.1) e.1.2.2).2.2.1)) := rfl
set_option maxRecDepth 100000 in
theorem ckL7 : (nth [] mlW 7).map (fun e => tpA e.2) = (nth [] mlW 7).map (fun e => some (Cond.methodLink (ownN 7) e.1.1 (mNm e.1.2))) := rfl
set_option maxRecDepth 100000 in
theorem ckN7 : (nth [] mnW 7).map (fun e => tpA e.2) = (nth [] mnW 7).map (fun e => some (Cond.methodLinkNest (ownN 7) e.1.1 (mNm e.1.2) "ThimbleLaw")) := rfl
set_option maxRecDepth 100000 in
theorem ckF8 : (nth [] flW 8).map (fun e => tpA e.2) = (nth [] flW 8).map (fun e => some (Cond.fieldLink (ownN 8) e.1.1 (clN e.1.2.1) ((clT e.1.2.1) e.1.2.2).2.1 ((clT e.1.2.1) e.1.2.2).2.2.1)) := rfl
set_option maxRecDepth 100000 in
theorem ckL8 : (nth [] mlW 8).map (fun e => tpA e.2) = (nth [] mlW 8).map (fun e => some (Cond.methodLink (ownN 8) e.1.1 (mNm e.1.2))) := rfl
set_option maxRecDepth 100000 in
theorem ckN8 : (nth [] mnW 8).map (fun e => tpA e.2) = (nth [] mnW 8).map (fun e => some (Cond.methodLinkNest (ownN 8) e.1.1 (mNm e.1.2) "ThimbleLaw")) := rfl
set_option maxRecDepth 100000 in
theorem ckF9 : (nth [] flW 9).map (fun e => tpA e.2) = (nth [] flW 9).map (fun e => some (Cond.fieldLink (ownN 9) e.1.1 (clN e.1.2.1) ((clT e.1.2.1) e.1.2.2).2.1 ((clT e.1.2.1) e.1.2.2).2.2.1)) := rfl
set_option maxRecDepth 100000 in
theorem ckL9 : (nth [] mlW 9).map (fun e => tpA e.2) = (nth [] mlW 9).map (fun e => some (Cond.methodLink (ownN 9) e.1.1 (mNm e.1.2))) := rfl
set_option maxRecDepth 100000 in
theorem ckN9 : (nth [] mnW 9).map (fun e => tpA e.2) = (nth [] mnW 9).map (fun e => some (Cond.methodLinkNest (ownN 9) e.1.1 (mNm e.1.2) "ThimbleLaw")) := rfl
set_option maxRecDepth 100000 in
theorem ckF10 : (nth [] flW 10).map (fun e => tpA e.2) = (nth [] flW 10).map (fun e => some (Cond.fieldLink (ownN 10) e.1.1 (clN e.1.2.1) ((clT e.1.2.1) e.1.2.2).2.1 ((clT e.1.2.1) e.1.2.2).2.2.1)) := rfl
set_option maxRecDepth 100000 in
theorem ckL10 : (nth [] mlW 10).map (fun e => tpA e.2) = (nth [] mlW 10).map (fun e => some (Cond.methodLink (ownN 10) e.1.1 (mNm e.1.2))) := rfl
set_option maxRecDepth 100000 in
theorem ckN10 : (nth [] mnW 10).map (fun e => tpA e.2) = (nth [] mnW 10).map (fun e => some (Cond.methodLinkNest (ownN 10) e.1.1 (mNm e.1.2) "ThimbleLaw")) := rfl
set_option maxRecDepth 100000 in
theorem ckF11 : (nth [] flW 11).map (fun e => tpA e.2) = (nth [] flW 11).map (fun e => some (Cond.fieldLink (ownN 11) e.1.1 (clN e.1.2.1) ((clT e.1.2.1) e.1.2.2).2.1 ((clT e.1.2.1) e.1.2.2).2.2.1)) := rfl
set_option maxRecDepth 100000 in
theorem ckL11 : (nth [] mlW 11).map (fun e => tpA e.2) = (nth [] mlW 11).map (fun e => some (Cond.methodLink (ownN 11) e.1.1 (mNm e.1.2))) := rfl
set_option maxRecDepth 100000 in
theorem ckN11 : (nth [] mnW 11).map (fun e => tpA e.2) = (nth [] mnW 11).map (fun e => some (Cond.methodLinkNest (ownN 11) e.1.1 (mNm e.1.2) "ThimbleLaw")) := rfl
set_option maxRecDepth 100000 in
theorem ckF12 : (nth [] flW 12).map (fun e => tpA e.2) = (nth [] flW 12).map (fun e => some (Cond.fieldLink (ownN 12) e.1.1 (clN e.1.2.1) ((clT e.1.2.1) e.1.2.2).2.1 ((clT e.1.2.1) e.1.2.2).2.2.1)) := rfl
set_option maxRecDepth 100000 in
theorem ckL12 : (nth [] mlW 12).map (fun e => tpA e.2) = (nth [] mlW 12).map (fun e => some (Cond.methodLink (ownN 12) e.1.1 (mNm e.1.2))) := rfl
set_option maxRecDepth 100000 in
theorem ckN12 : (nth [] mnW 12).map (fun e => tpA e.2) = (nth [] mnW 12).map (fun e => some (Cond.methodLinkNest (ownN 12) e.1.1 (mNm e.1.2) "ThimbleLaw")) := rfl
theorem ckA : acW.map (fun e => tpA e.2) = acW.map (fun e => some (Cond.methodLink (ownN e.1.1) e.1.2 arraycopyName)) := rfl
def maN (i : Nat) : MethodName := match i with
  | 0 => Lib.Math.max.name
  | 1 => Lib.Math.min.name
  | _ => Lib.Math.abs.name
theorem ckMa : maW.map (fun e => tpA e.2) = maW.map (fun e => some (Cond.methodLink (ownN e.1.1) e.1.2.1 (maN e.1.2.2))) := rfl
theorem ckMa2 : maH.map tpA = [some (Cond.initialized "java/lang/Math"), some (Cond.static Lib.Math.max.name), some (Cond.static Lib.Math.min.name), some (Cond.static Lib.Math.abs.name), some (Cond.code Lib.Math.max.name Lib.Math.max.code 2 (some .int)), some (Cond.code Lib.Math.min.name Lib.Math.min.code 2 (some .int)), some (Cond.code Lib.Math.abs.name Lib.Math.abs.code 1 (some .int))] := rfl
def maL : List (Nat × Nat × Nat) := maW.map (fun e => e.1)
theorem ckA2 : acH.map tpA = [some (Cond.native arraycopyName), some (Cond.static arraycopyName), some (Cond.initialized "java/lang/System")] := rfl
theorem ckK : kcW.map (fun e => tpA e.2) = kcW.map (fun e => some (Cond.constant (ownN e.1.1) e.1.2.1 (Int32.ofInt e.1.2.2))) := by decide +kernel
theorem ckJ : klW.map (fun e => tpA e.2) = klW.map (fun e => some (Cond.constantLong (ownN e.1.1) e.1.2.1 (Int64.ofInt e.1.2.2))) := by decide +kernel
theorem ckK2 : kcW.all (fun e => decide (-2147483648 ≤ e.1.2.2 ∧ e.1.2.2 < 2147483648)) = true := by decide +kernel
theorem ckJ2 : klW.all (fun e => decide (-9223372036854775808 ≤ e.1.2.2 ∧ e.1.2.2 < 9223372036854775808)) = true := by decide +kernel
set_option maxRecDepth 100000 in
theorem ckW0 : (nth [] uwH 0).map tpA = (u_ws (clN 0) (clT 0) (clM 0)).map some := rfl
set_option maxRecDepth 100000 in
theorem ckW1 : (nth [] uwH 1).map tpA = (u_ws (clN 1) (clT 1) (clM 1)).map some := rfl
set_option maxRecDepth 100000 in
theorem ckW2 : (nth [] uwH 2).map tpA = (u_ws (clN 2) (clT 2) (clM 2)).map some := rfl
set_option maxRecDepth 100000 in
theorem ckW3 : (nth [] uwH 3).map tpA = (u_ws (clN 3) (clT 3) (clM 3)).map some := rfl
set_option maxRecDepth 100000 in
theorem ckW4 : (nth [] uwH 4).map tpA = (u_ws (clN 4) (clT 4) (clM 4)).map some := rfl
set_option maxRecDepth 100000 in
theorem ckW5 : (nth [] uwH 5).map tpA = (u_ws (clN 5) (clT 5) (clM 5)).map some := rfl
set_option maxRecDepth 100000 in
theorem ckW6 : (nth [] uwH 6).map tpA = (u_ws (clN 6) (clT 6) (clM 6)).map some := rfl
set_option maxRecDepth 100000 in
theorem ckW7 : (nth [] uwH 7).map tpA = (u_ws (clN 7) (clT 7) (clM 7)).map some := rfl
set_option maxRecDepth 100000 in
theorem ckW8 : (nth [] uwH 8).map tpA = (u_ws (clN 8) (clT 8) (clM 8)).map some := rfl
set_option maxRecDepth 100000 in
theorem ckW9 : (nth [] uwH 9).map tpA = (u_ws (clN 9) (clT 9) (clM 9)).map some := rfl
theorem ckY : ∀ c, c < 10 → ∀ k, k < clM c → parseFieldDescriptor ((clT c) k).2.2.1 = some (clY c k) := by decide +kernel
theorem ckX : ∀ c, c < 10 → ∀ a, a < clM c → ∀ b, b < clM c → a ≠ b → ((clT c) a).2.1 ≠ ((clT c) b).2.1 := by decide +kernel
theorem ckD : ∀ c, c < 10 → ∀ k, k < clM c → ((clT c) k).1 = clN c := by decide +kernel
theorem ckFb : ∀ w, w < 13 → (flL w).all (fun e => decide (e.2.1 < 10 ∧ e.2.2 < clM e.2.1)) = true := by decide +kernel
theorem ckLb : ∀ w, w < 13 → (mlL w).all (fun e => decide (e.2 < nMe)) = true := by decide +kernel
theorem ckNb : ∀ w, w < 13 → (mnL w).all (fun e => decide (e.2 < nMe)) = true := by decide +kernel
def rtOK (m : Nat) : Bool := match rBo m with
  | 0 => decide (mRt m = none)
  | 1 => decide (mRt m = some .int)
  | 2 => decide (mRt m = some .boolean)
  | 3 => decide (mRt m = some .long)
  | 4 => decide (mRt m = some (.object "ThimbleLaw$Text"))
  | _ => false
def goodM (m : Nat) : Bool := decide (ownN (mOw m) = (mNm m).cls) && (Jvm.plainName (mNm m).cls && (decide ((mNm m).cls ≠ "java/lang/invoke/MethodHandle" ∧ (mNm m).cls ≠ "java/lang/invoke/VarHandle") && (rtOK m && (decide (mLo m ≤ 12 ∧ mLo m = (mi m).2.2.1 ∧ mOw m < 13) && (match mSt m with
  | true => decide ((parseMethodDescriptor (mNm m).desc).map (fun d => d.parameters.length) = some (nAr m))
  | false => (decide (mCi m < 10 ∧ clN (mCi m) = (mNm m).cls) && decide ((parseMethodDescriptor (mNm m).desc).map (fun d => d.parameters.length + 1) = some (nAr m))))))))
set_option maxRecDepth 100000 in
theorem ckM : (List.range nMe).all goodM = true := by decide +kernel
/-- the kinds of fields: the type, and whether it is final -/
def fkOK (c k : Nat) : Bool := match fkOf c k with
  | 0 => decide (clY c k = .int) && !((clT c) k).2.2.2
  | 1 => decide (clY c k = .boolean) && !((clT c) k).2.2.2
  | 2 => decide (clY c k = .long) && !((clT c) k).2.2.2
  | 3 => true
  | _ => false
theorem ckT : ∀ c, c < 10 → ∀ k, k < clM c → fkOK c k = true := by decide +kernel
/-- the objects: an object has as many fields as its kind -/
theorem ckO : ∀ o, o < nOb → (shK o < 10 ∧ shN o = clM (shK o)) ∨ (100 ≤ shK o ∧ shK o ≤ 104 ∧ shN o < 2147483648) := by decide +kernel
def swOK (pc : Nat) (a : Nat) (d lo hi : Int) (offs : List Int) : Bool :=
  decide (((nth (0, []) swT a).1 : Int) = (pc : Int) + d ∧ (nth (0, []) swT a).2.map (fun q => (q.1, (q.2 : Int))) = offs.zipIdx.map (fun q => (lo + (q.2 : Int), (pc : Int) + q.1)) ∧ hi + 1 = lo + (offs.length : Int))
def lkOK (pc : Nat) (a : Nat) (d : Int) (ps : List (Int × Int)) : Bool :=
  decide (((nth (0, []) swT a).1 : Int) = (pc : Int) + d ∧ (nth (0, []) swT a).2.map (fun q => (q.1, (q.2 : Int))) = ps.map (fun q => (q.1, (pc : Int) + q.2))) && (ps.zip (ps.drop 1)).all (fun (x, y) => x.1 < y.1)
def goodI (m pc : Nat) (ins : Instr) (nxt a : Nat) (b : Int) : Bool := match ins with
  | .iconst n => decide (nxt = pc + 1 ∧ -2147483648 ≤ n ∧ n < 2147483648)
  | .bipush n => decide (nxt = pc + 2 ∧ (-2147483648 ≤ n ∧ n < 2147483648) ∧ (Int8.ofInt n).toInt32 = Int32.ofInt n)
  | .sipush n => decide (nxt = pc + 3 ∧ (-2147483648 ≤ n ∧ n < 2147483648) ∧ (Int16.ofInt n).toInt32 = Int32.ofInt n)
  | .ldc i => decide (nxt = pc + 2) && (match a with
    | 0 => kcL.contains (mOw m, i, b)
    | _ => decide (mOw m = 5 ∧ i = 88))
  | .ldc_w i => decide (nxt = pc + 3) && kcL.contains (mOw m, i, b)
  | .ldc2_w i => decide (nxt = pc + 3) && klL.contains (mOw m, i, b)
  | .iload _ | .lload _ | .aload _ => decide (nxt = pc + 2)
  | .istore_n k => decide (nxt = pc + 1 ∧ k.val < mLo m)
  | .astore_n k => decide (nxt = pc + 1 ∧ k.val < mLo m)
  | .istore k => decide (nxt = pc + 2 ∧ k < mLo m)
  | .astore k => decide (nxt = pc + 2 ∧ k < mLo m)
  | .lstore_n k => decide (nxt = pc + 1 ∧ k.val + 1 < mLo m)
  | .lstore k => decide (nxt = pc + 2 ∧ k + 1 < mLo m)
  | .iinc k _ => decide (nxt = pc + 3 ∧ k < mLo m)
  | .ifCond _ o => decide (nxt = pc + 3 ∧ (pc : Int) + o = (a : Int))
  | .if_icmp _ o => decide (nxt = pc + 3 ∧ (pc : Int) + o = (a : Int))
  | .ifnull o => decide (nxt = pc + 3 ∧ (pc : Int) + o = (a : Int))
  | .goto o => decide (nxt = pc + 3 ∧ (pc : Int) + o = (a : Int))
  | .tableswitch d lo hi offs => swOK pc a d lo hi offs.toList
  | .lookupswitch d ps => lkOK pc a d ps.toList
  | .getfield i => decide (nxt = pc + 3 ∧ 0 ≤ b) && (flL (mOw m)).contains (i, a, b.toNat)
  | .putfield i => decide (nxt = pc + 3 ∧ 0 ≤ b) && (flL (mOw m)).contains (i, a, b.toNat)
  | .invokestatic i => decide (nxt = pc + 3) && (bif Nat.ble 1000 a then (match a - 1000 with | 0 => acL.contains (mOw m, i) | 3 => maL.contains (mOw m, i, 0) | 4 => maL.contains (mOw m, i, 1) | 5 => maL.contains (mOw m, i, 2) | _ => false) else mSt a && ((mlL (mOw m)).contains (i, a) || (mnL (mOw m)).contains (i, a)))
  | .invokevirtual i => decide (nxt = pc + 3) && (bif Nat.beq a 1001 then decide (mOw m = 5 ∧ i = 90) else bif Nat.beq a 1002 then decide (mOw m = 5 ∧ i = 95) else !mSt a && (mlL (mOw m)).contains (i, a))
  | _ => decide (nxt = pc + 1)
def goodE (m : Nat) (e : cEn) : Bool := decide (decode (mBy m) e.1 = .ok (e.2.1, e.2.2.1 - e.1)) && goodI m e.1 e.2.1 e.2.2.1 e.2.2.2.1 e.2.2.2.2
def goodC (m : Nat) : Bool := (nth2 [] cdT m).all (fun c => c.all (goodE m))
