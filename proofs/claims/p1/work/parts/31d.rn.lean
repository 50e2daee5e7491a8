/-! ===== runs of the law, 3 ===== -/
set_option maxRecDepth 100000 in
theorem gy_17 : sYes (pGo 860 (eY 17)) = true := by decide +kernel
set_option maxRecDepth 100000 in
theorem gy_18 : sYes (pGo 891 (eY 18)) = true := by decide +kernel
set_option maxRecDepth 100000 in
theorem gy_19 : sYes (pGo 922 (eY 19)) = true := by decide +kernel
set_option maxRecDepth 100000 in
theorem gy_20 : sYes (pGo 953 (eY 20)) = true := by decide +kernel
set_option maxRecDepth 100000 in
theorem gy_21 : sYes (pGo 984 (eY 21)) = true := by decide +kernel
set_option maxRecDepth 100000 in
theorem gy_22 : sYes (pGo 1015 (eY 22)) = true := by decide +kernel
set_option maxRecDepth 100000 in
theorem gy_23 : sYes (pGo 1046 (eY 23)) = true := by decide +kernel
