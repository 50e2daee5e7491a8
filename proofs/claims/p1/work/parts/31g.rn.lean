/-! ===== runs of the law, 6 ===== -/
set_option maxRecDepth 100000 in
theorem gy_35 : sYes (pGo 1424 (eY 35)) = true := by decide +kernel
set_option maxRecDepth 100000 in
theorem gy_36 : sYes (pGo 1462 (eY 36)) = true := by decide +kernel
set_option maxRecDepth 100000 in
theorem gy_37 : sYes (pGo 1500 (eY 37)) = true := by decide +kernel
set_option maxRecDepth 100000 in
theorem gy_38 : sYes (pGo 1538 (eY 38)) = true := by decide +kernel
set_option maxRecDepth 100000 in
theorem gy_39 : sYes (pGo 1576 (eY 39)) = true := by decide +kernel
