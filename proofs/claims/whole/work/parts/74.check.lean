/-! CALLS: even, the first check -/
theorem shr_n {P : Int} (n : Nat) (m : Int) (e : ∀ x : Int32, (x >>> (Int32.ofInt m &&& 31)).toInt = (BitVec.sshiftRight x.toBitVec n).toInt) (hP : 0 ≤ P ∧ P < 2147483648) : iShr P m = P / (2 ^ n : Nat) := by
  unfold iShr
  rw [e, BitVec.toInt_sshiftRight, Int.shiftRight_eq_div_pow]
  have q : (Int32.ofInt P).toBitVec.toInt = P := Int32.toInt_ofInt_of_le (by omega) (by omega)
  rw [q]
theorem shr_lt {P n : Int} (hP : 0 ≤ P ∧ P < 2147483648) (hn : 0 ≤ n ∧ n ≤ 6) : iShr P n = 0 ↔ P < iShl 1 n := by
  have c : n = 0 ∨ n = 1 ∨ n = 2 ∨ n = 3 ∨ n = 4 ∨ n = 5 ∨ n = 6 := by omega
  rcases c with c | c | c | c | c | c | c <;> subst c
  · rw [shr_n 0 0 (fun x => rfl) hP, show iShl 1 0 = 1 by decide]; omega
  · rw [shr_n 1 1 (fun x => rfl) hP, show iShl 1 1 = 2 by decide]; omega
  · rw [shr_n 2 2 (fun x => rfl) hP, show iShl 1 2 = 4 by decide]; omega
  · rw [shr_n 3 3 (fun x => rfl) hP, show iShl 1 3 = 8 by decide]; omega
  · rw [shr_n 4 4 (fun x => rfl) hP, show iShl 1 4 = 16 by decide]; omega
  · rw [shr_n 5 5 (fun x => rfl) hP, show iShl 1 5 = 32 by decide]; omega
  · rw [shr_n 6 6 (fun x => rfl) hP, show iShl 1 6 = 64 by decide]; omega
