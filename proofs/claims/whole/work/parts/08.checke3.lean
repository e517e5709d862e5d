set_option maxRecDepth 100000 in
theorem ckE23 : (List.range' 155 21).all goodC = true := by decide +kernel
set_option maxRecDepth 100000 in
theorem ckE24 : (List.range' 176 12).all goodC = true := by decide +kernel
set_option maxRecDepth 100000 in
theorem ckE25 : (List.range' 188 1).all goodC = true := by decide +kernel
set_option maxRecDepth 100000 in
theorem ckE26 : (List.range' 189 8).all goodC = true := by decide +kernel
set_option maxRecDepth 100000 in
theorem ckE27 : (List.range' 197 7).all goodC = true := by decide +kernel
set_option maxRecDepth 100000 in
theorem ckE28 : (List.range' 204 2).all goodC = true := by decide +kernel
set_option maxRecDepth 100000 in
theorem ckE29 : (List.range' 206 3).all goodC = true := by decide +kernel
set_option maxRecDepth 100000 in
theorem ckE30 : (List.range' 209 7).all goodC = true := by decide +kernel
