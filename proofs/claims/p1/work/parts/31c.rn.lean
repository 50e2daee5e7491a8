/-! ===== runs of the law, 2 ===== -/
set_option maxRecDepth 100000 in
theorem gy_7 : sYes (pGo 550 (eY 7)) = true := by decide +kernel
set_option maxRecDepth 100000 in
theorem gy_8 : sYes (pGo 581 (eY 8)) = true := by decide +kernel
set_option maxRecDepth 100000 in
theorem gy_9 : sYes (pGo 612 (eY 9)) = true := by decide +kernel
set_option maxRecDepth 100000 in
theorem gy_10 : sYes (pGo 643 (eY 10)) = true := by decide +kernel
set_option maxRecDepth 100000 in
theorem gy_11 : sYes (pGo 674 (eY 11)) = true := by decide +kernel
set_option maxRecDepth 100000 in
theorem gy_12 : sYes (pGo 705 (eY 12)) = true := by decide +kernel
set_option maxRecDepth 100000 in
theorem gy_13 : sYes (pGo 736 (eY 13)) = true := by decide +kernel
set_option maxRecDepth 100000 in
theorem gy_14 : sYes (pGo 767 (eY 14)) = true := by decide +kernel
set_option maxRecDepth 100000 in
theorem gy_15 : sYes (pGo 798 (eY 15)) = true := by decide +kernel
set_option maxRecDepth 100000 in
theorem gy_16 : sYes (pGo 829 (eY 16)) = true := by decide +kernel
