/-! ===== runs of the law, 5 ===== -/
set_option maxRecDepth 100000 in
theorem gy_30 : sYes (pGo 1263 (eY 30)) = true := by decide +kernel
set_option maxRecDepth 100000 in
theorem gy_31 : sYes (pGo 1294 (eY 31)) = true := by decide +kernel
set_option maxRecDepth 100000 in
theorem gy_32 : sYes (pGo 1325 (eY 32)) = true := by decide +kernel
set_option maxRecDepth 100000 in
theorem gy_33 : sYes (pGo 1356 (eY 33)) = true := by decide +kernel
set_option maxRecDepth 100000 in
theorem gy_34 : sYes (pGo 1387 (eY 34)) = true := by decide +kernel
