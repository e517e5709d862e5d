set_option maxRecDepth 100000 in
theorem ckE7 : (List.range' 55 4).all goodC = true := by decide +kernel
set_option maxRecDepth 100000 in
theorem ckE8 : (List.range' 59 6).all goodC = true := by decide +kernel
set_option maxRecDepth 100000 in
theorem ckE9 : (List.range' 65 1).all goodC = true := by decide +kernel
set_option maxRecDepth 100000 in
theorem ckE10 : (List.range' 66 4).all goodC = true := by decide +kernel
set_option maxRecDepth 100000 in
theorem ckE11 : (List.range' 70 5).all goodC = true := by decide +kernel
set_option maxRecDepth 100000 in
theorem ckE12 : (List.range' 75 9).all goodC = true := by decide +kernel
set_option maxRecDepth 100000 in
theorem ckE13 : (List.range' 84 1).all goodC = true := by decide +kernel
set_option maxRecDepth 100000 in
theorem ckE14 : (List.range' 85 6).all goodC = true := by decide +kernel
