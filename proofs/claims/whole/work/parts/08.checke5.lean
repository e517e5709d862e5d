set_option maxRecDepth 100000 in
theorem ckE41 : (List.range' 253 2).all goodC = true := by decide +kernel
set_option maxRecDepth 100000 in
theorem ckE42 : (List.range' 255 3).all goodC = true := by decide +kernel
set_option maxRecDepth 100000 in
theorem ckE43 : (List.range' 258 7).all goodC = true := by decide +kernel
set_option maxRecDepth 100000 in
theorem ckE44 : (List.range' 265 7).all goodC = true := by decide +kernel
set_option maxRecDepth 100000 in
theorem ckE45 : (List.range' 272 5).all goodC = true := by decide +kernel
set_option maxRecDepth 100000 in
theorem ckE46 : (List.range' 277 7).all goodC = true := by decide +kernel
set_option maxRecDepth 100000 in
theorem ckE47 : (List.range' 284 4).all goodC = true := by decide +kernel
set_option maxRecDepth 100000 in
theorem ckE48 : (List.range' 288 5).all goodC = true := by decide +kernel
