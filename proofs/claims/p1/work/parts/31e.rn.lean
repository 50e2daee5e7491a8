/-! ===== runs of the law, 4 ===== -/
set_option maxRecDepth 100000 in
theorem gy_24 : sYes (pGo 1077 (eY 24)) = true := by decide +kernel
set_option maxRecDepth 100000 in
theorem gy_25 : sYes (pGo 1108 (eY 25)) = true := by decide +kernel
set_option maxRecDepth 100000 in
theorem gy_26 : sYes (pGo 1139 (eY 26)) = true := by decide +kernel
set_option maxRecDepth 100000 in
theorem gy_27 : sYes (pGo 1170 (eY 27)) = true := by decide +kernel
set_option maxRecDepth 100000 in
theorem gy_28 : sYes (pGo 1201 (eY 28)) = true := by decide +kernel
set_option maxRecDepth 100000 in
theorem gy_29 : sYes (pGo 1232 (eY 29)) = true := by decide +kernel
