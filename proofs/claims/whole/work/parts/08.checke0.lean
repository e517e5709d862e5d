set_option maxRecDepth 100000 in
theorem ckE0 : (List.range' 0 5).all goodC = true := by decide +kernel
set_option maxRecDepth 100000 in
theorem ckE1 : (List.range' 5 15).all goodC = true := by decide +kernel
set_option maxRecDepth 100000 in
theorem ckE2 : (List.range' 20 6).all goodC = true := by decide +kernel
set_option maxRecDepth 100000 in
theorem ckE3 : (List.range' 26 7).all goodC = true := by decide +kernel
set_option maxRecDepth 100000 in
theorem ckE4 : (List.range' 33 7).all goodC = true := by decide +kernel
set_option maxRecDepth 100000 in
theorem ckE5 : (List.range' 40 10).all goodC = true := by decide +kernel
set_option maxRecDepth 100000 in
theorem ckE6 : (List.range' 50 5).all goodC = true := by decide +kernel
