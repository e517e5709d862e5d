set_option maxRecDepth 100000 in
theorem ckE15 : (List.range' 91 4).all goodC = true := by decide +kernel
set_option maxRecDepth 100000 in
theorem ckE16 : (List.range' 95 3).all goodC = true := by decide +kernel
set_option maxRecDepth 100000 in
theorem ckE17 : (List.range' 98 1).all goodC = true := by decide +kernel
set_option maxRecDepth 100000 in
theorem ckE18 : (List.range' 99 8).all goodC = true := by decide +kernel
set_option maxRecDepth 100000 in
theorem ckE19 : (List.range' 107 19).all goodC = true := by decide +kernel
set_option maxRecDepth 100000 in
theorem ckE20 : (List.range' 126 9).all goodC = true := by decide +kernel
set_option maxRecDepth 100000 in
theorem ckE21 : (List.range' 135 7).all goodC = true := by decide +kernel
set_option maxRecDepth 100000 in
theorem ckE22 : (List.range' 142 13).all goodC = true := by decide +kernel
