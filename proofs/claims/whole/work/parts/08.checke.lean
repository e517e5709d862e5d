set_option maxRecDepth 100000 in
theorem ckE0 : (List.range' 0 40).all goodC = true := by decide +kernel
set_option maxRecDepth 100000 in
theorem ckE1 : (List.range' 40 40).all goodC = true := by decide +kernel
set_option maxRecDepth 100000 in
theorem ckE2 : (List.range' 80 40).all goodC = true := by decide +kernel
set_option maxRecDepth 100000 in
theorem ckE3 : (List.range' 120 40).all goodC = true := by decide +kernel
set_option maxRecDepth 100000 in
theorem ckE4 : (List.range' 160 40).all goodC = true := by decide +kernel
set_option maxRecDepth 100000 in
theorem ckE5 : (List.range' 200 40).all goodC = true := by decide +kernel
set_option maxRecDepth 100000 in
theorem ckE6 : (List.range' 240 40).all goodC = true := by decide +kernel
set_option maxRecDepth 100000 in
theorem ckE7 : (List.range' 280 31).all goodC = true := by decide +kernel
theorem ckE {m : Nat} (h : m < nMe) : goodC m = true := by
  have h : m < 311 := h
  by_cases c0 : m < 40
  · exact List.all_eq_true.mp ckE0 m (List.mem_range'_1.mpr ⟨by omega, by omega⟩)
  by_cases c1 : m < 80
  · exact List.all_eq_true.mp ckE1 m (List.mem_range'_1.mpr ⟨by omega, by omega⟩)
  by_cases c2 : m < 120
  · exact List.all_eq_true.mp ckE2 m (List.mem_range'_1.mpr ⟨by omega, by omega⟩)
  by_cases c3 : m < 160
  · exact List.all_eq_true.mp ckE3 m (List.mem_range'_1.mpr ⟨by omega, by omega⟩)
  by_cases c4 : m < 200
  · exact List.all_eq_true.mp ckE4 m (List.mem_range'_1.mpr ⟨by omega, by omega⟩)
  by_cases c5 : m < 240
  · exact List.all_eq_true.mp ckE5 m (List.mem_range'_1.mpr ⟨by omega, by omega⟩)
  by_cases c6 : m < 280
  · exact List.all_eq_true.mp ckE6 m (List.mem_range'_1.mpr ⟨by omega, by omega⟩)
  by_cases c7 : m < 311
  · exact List.all_eq_true.mp ckE7 m (List.mem_range'_1.mpr ⟨by omega, by omega⟩)
  · omega
