set_option maxRecDepth 100000 in
theorem ckE49 : (List.range' 293 6).all goodC = true := by decide +kernel
set_option maxRecDepth 100000 in
theorem ckE50 : (List.range' 299 4).all goodC = true := by decide +kernel
set_option maxRecDepth 100000 in
theorem ckE51 : (List.range' 303 5).all goodC = true := by decide +kernel
theorem ckE {m : Nat} (h : m < nMe) : goodC m = true := by
  have h : m < 308 := h
  by_cases c0 : m < 5
  · exact List.all_eq_true.mp ckE0 m (List.mem_range'_1.mpr ⟨by omega, by omega⟩)
  by_cases c1 : m < 20
  · exact List.all_eq_true.mp ckE1 m (List.mem_range'_1.mpr ⟨by omega, by omega⟩)
  by_cases c2 : m < 26
  · exact List.all_eq_true.mp ckE2 m (List.mem_range'_1.mpr ⟨by omega, by omega⟩)
  by_cases c3 : m < 33
  · exact List.all_eq_true.mp ckE3 m (List.mem_range'_1.mpr ⟨by omega, by omega⟩)
  by_cases c4 : m < 40
  · exact List.all_eq_true.mp ckE4 m (List.mem_range'_1.mpr ⟨by omega, by omega⟩)
  by_cases c5 : m < 50
  · exact List.all_eq_true.mp ckE5 m (List.mem_range'_1.mpr ⟨by omega, by omega⟩)
  by_cases c6 : m < 55
  · exact List.all_eq_true.mp ckE6 m (List.mem_range'_1.mpr ⟨by omega, by omega⟩)
  by_cases c7 : m < 59
  · exact List.all_eq_true.mp ckE7 m (List.mem_range'_1.mpr ⟨by omega, by omega⟩)
  by_cases c8 : m < 65
  · exact List.all_eq_true.mp ckE8 m (List.mem_range'_1.mpr ⟨by omega, by omega⟩)
  by_cases c9 : m < 66
  · exact List.all_eq_true.mp ckE9 m (List.mem_range'_1.mpr ⟨by omega, by omega⟩)
  by_cases c10 : m < 70
  · exact List.all_eq_true.mp ckE10 m (List.mem_range'_1.mpr ⟨by omega, by omega⟩)
  by_cases c11 : m < 75
  · exact List.all_eq_true.mp ckE11 m (List.mem_range'_1.mpr ⟨by omega, by omega⟩)
  by_cases c12 : m < 84
  · exact List.all_eq_true.mp ckE12 m (List.mem_range'_1.mpr ⟨by omega, by omega⟩)
  by_cases c13 : m < 85
  · exact List.all_eq_true.mp ckE13 m (List.mem_range'_1.mpr ⟨by omega, by omega⟩)
  by_cases c14 : m < 91
  · exact List.all_eq_true.mp ckE14 m (List.mem_range'_1.mpr ⟨by omega, by omega⟩)
  by_cases c15 : m < 95
  · exact List.all_eq_true.mp ckE15 m (List.mem_range'_1.mpr ⟨by omega, by omega⟩)
  by_cases c16 : m < 98
  · exact List.all_eq_true.mp ckE16 m (List.mem_range'_1.mpr ⟨by omega, by omega⟩)
  by_cases c17 : m < 99
  · exact List.all_eq_true.mp ckE17 m (List.mem_range'_1.mpr ⟨by omega, by omega⟩)
  by_cases c18 : m < 107
  · exact List.all_eq_true.mp ckE18 m (List.mem_range'_1.mpr ⟨by omega, by omega⟩)
  by_cases c19 : m < 126
  · exact List.all_eq_true.mp ckE19 m (List.mem_range'_1.mpr ⟨by omega, by omega⟩)
  by_cases c20 : m < 135
  · exact List.all_eq_true.mp ckE20 m (List.mem_range'_1.mpr ⟨by omega, by omega⟩)
  by_cases c21 : m < 142
  · exact List.all_eq_true.mp ckE21 m (List.mem_range'_1.mpr ⟨by omega, by omega⟩)
  by_cases c22 : m < 155
  · exact List.all_eq_true.mp ckE22 m (List.mem_range'_1.mpr ⟨by omega, by omega⟩)
  by_cases c23 : m < 176
  · exact List.all_eq_true.mp ckE23 m (List.mem_range'_1.mpr ⟨by omega, by omega⟩)
  by_cases c24 : m < 188
  · exact List.all_eq_true.mp ckE24 m (List.mem_range'_1.mpr ⟨by omega, by omega⟩)
  by_cases c25 : m < 189
  · exact List.all_eq_true.mp ckE25 m (List.mem_range'_1.mpr ⟨by omega, by omega⟩)
  by_cases c26 : m < 197
  · exact List.all_eq_true.mp ckE26 m (List.mem_range'_1.mpr ⟨by omega, by omega⟩)
  by_cases c27 : m < 204
  · exact List.all_eq_true.mp ckE27 m (List.mem_range'_1.mpr ⟨by omega, by omega⟩)
  by_cases c28 : m < 206
  · exact List.all_eq_true.mp ckE28 m (List.mem_range'_1.mpr ⟨by omega, by omega⟩)
  by_cases c29 : m < 209
  · exact List.all_eq_true.mp ckE29 m (List.mem_range'_1.mpr ⟨by omega, by omega⟩)
  by_cases c30 : m < 216
  · exact List.all_eq_true.mp ckE30 m (List.mem_range'_1.mpr ⟨by omega, by omega⟩)
  by_cases c31 : m < 217
  · exact List.all_eq_true.mp ckE31 m (List.mem_range'_1.mpr ⟨by omega, by omega⟩)
  by_cases c32 : m < 218
  · exact List.all_eq_true.mp ckE32 m (List.mem_range'_1.mpr ⟨by omega, by omega⟩)
  by_cases c33 : m < 219
  · exact List.all_eq_true.mp ckE33 m (List.mem_range'_1.mpr ⟨by omega, by omega⟩)
  by_cases c34 : m < 226
  · exact List.all_eq_true.mp ckE34 m (List.mem_range'_1.mpr ⟨by omega, by omega⟩)
  by_cases c35 : m < 230
  · exact List.all_eq_true.mp ckE35 m (List.mem_range'_1.mpr ⟨by omega, by omega⟩)
  by_cases c36 : m < 231
  · exact List.all_eq_true.mp ckE36 m (List.mem_range'_1.mpr ⟨by omega, by omega⟩)
  by_cases c37 : m < 238
  · exact List.all_eq_true.mp ckE37 m (List.mem_range'_1.mpr ⟨by omega, by omega⟩)
  by_cases c38 : m < 239
  · exact List.all_eq_true.mp ckE38 m (List.mem_range'_1.mpr ⟨by omega, by omega⟩)
  by_cases c39 : m < 246
  · exact List.all_eq_true.mp ckE39 m (List.mem_range'_1.mpr ⟨by omega, by omega⟩)
  by_cases c40 : m < 253
  · exact List.all_eq_true.mp ckE40 m (List.mem_range'_1.mpr ⟨by omega, by omega⟩)
  by_cases c41 : m < 255
  · exact List.all_eq_true.mp ckE41 m (List.mem_range'_1.mpr ⟨by omega, by omega⟩)
  by_cases c42 : m < 258
  · exact List.all_eq_true.mp ckE42 m (List.mem_range'_1.mpr ⟨by omega, by omega⟩)
  by_cases c43 : m < 265
  · exact List.all_eq_true.mp ckE43 m (List.mem_range'_1.mpr ⟨by omega, by omega⟩)
  by_cases c44 : m < 272
  · exact List.all_eq_true.mp ckE44 m (List.mem_range'_1.mpr ⟨by omega, by omega⟩)
  by_cases c45 : m < 277
  · exact List.all_eq_true.mp ckE45 m (List.mem_range'_1.mpr ⟨by omega, by omega⟩)
  by_cases c46 : m < 284
  · exact List.all_eq_true.mp ckE46 m (List.mem_range'_1.mpr ⟨by omega, by omega⟩)
  by_cases c47 : m < 288
  · exact List.all_eq_true.mp ckE47 m (List.mem_range'_1.mpr ⟨by omega, by omega⟩)
  by_cases c48 : m < 293
  · exact List.all_eq_true.mp ckE48 m (List.mem_range'_1.mpr ⟨by omega, by omega⟩)
  by_cases c49 : m < 299
  · exact List.all_eq_true.mp ckE49 m (List.mem_range'_1.mpr ⟨by omega, by omega⟩)
  by_cases c50 : m < 303
  · exact List.all_eq_true.mp ckE50 m (List.mem_range'_1.mpr ⟨by omega, by omega⟩)
  by_cases c51 : m < 308
  · exact List.all_eq_true.mp ckE51 m (List.mem_range'_1.mpr ⟨by omega, by omega⟩)
  omega
