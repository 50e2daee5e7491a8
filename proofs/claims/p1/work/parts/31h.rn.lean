/-! ===== runs of the law, 7 ===== -/
set_option maxRecDepth 100000 in
theorem gy_40 : sYes (pGo 1614 (eY 40)) = true := by decide +kernel
set_option maxRecDepth 100000 in
theorem gy_p : sYes (pGo 223 (eYp)) = true := by decide +kernel
