set_option maxRecDepth 100000 in
theorem ckE31 : (List.range' 216 1).all goodC = true := by decide +kernel
set_option maxRecDepth 100000 in
theorem ckE32 : (List.range' 217 1).all goodC = true := by decide +kernel
set_option maxRecDepth 100000 in
theorem ckE33 : (List.range' 218 1).all goodC = true := by decide +kernel
set_option maxRecDepth 100000 in
theorem ckE34 : (List.range' 219 7).all goodC = true := by decide +kernel
set_option maxRecDepth 100000 in
theorem ckE35 : (List.range' 226 4).all goodC = true := by decide +kernel
set_option maxRecDepth 100000 in
theorem ckE36 : (List.range' 230 1).all goodC = true := by decide +kernel
set_option maxRecDepth 100000 in
theorem ckE37 : (List.range' 231 7).all goodC = true := by decide +kernel
set_option maxRecDepth 100000 in
theorem ckE38 : (List.range' 238 1).all goodC = true := by decide +kernel
set_option maxRecDepth 100000 in
theorem ckE39 : (List.range' 239 7).all goodC = true := by decide +kernel
set_option maxRecDepth 100000 in
theorem ckE40 : (List.range' 246 7).all goodC = true := by decide +kernel
