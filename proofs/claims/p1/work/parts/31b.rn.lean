/-! ===== runs of the law, 1 ===== -/
set_option maxRecDepth 100000 in
theorem go_21 : sYes (pGo 223 (eK 21)) = true := by decide +kernel
set_option maxRecDepth 100000 in
theorem go_22 : sYes (pGo 278 (eK 22)) = true := by decide +kernel
set_option maxRecDepth 100000 in
theorem go_23 : sYes (pGo 223 (eK 23)) = true := by decide +kernel
set_option maxRecDepth 100000 in
theorem go_24 : sYes (pGo 223 (eK 24)) = true := by decide +kernel
set_option maxRecDepth 100000 in
theorem go_25 : sYes (pGo 223 (eK 25)) = true := by decide +kernel
set_option maxRecDepth 100000 in
theorem go_26 : sYes (pGo 223 (eK 26)) = true := by decide +kernel
set_option maxRecDepth 100000 in
theorem go_27 : sYes (pGo 223 (eK 27)) = true := by decide +kernel
set_option maxRecDepth 100000 in
theorem go_28 : sYes (pGo 223 (eK 28)) = true := by decide +kernel
set_option maxRecDepth 100000 in
theorem go_30 : sYes (pGo 8223 (eK 30)) = true := by decide +kernel
set_option maxRecDepth 100000 in
theorem go_31 : sYes (pGo 223 (eK 31)) = true := by decide +kernel
set_option maxRecDepth 100000 in
theorem gy_n : sYes (pGo 223 (eYn)) = true := by decide +kernel
set_option maxRecDepth 100000 in
theorem gy_0 : sYes (pGo 334 (eY 0)) = true := by decide +kernel
set_option maxRecDepth 100000 in
theorem gy_1 : sYes (pGo 364 (eY 1)) = true := by decide +kernel
set_option maxRecDepth 100000 in
theorem gy_2 : sYes (pGo 395 (eY 2)) = true := by decide +kernel
set_option maxRecDepth 100000 in
theorem gy_3 : sYes (pGo 426 (eY 3)) = true := by decide +kernel
set_option maxRecDepth 100000 in
theorem gy_4 : sYes (pGo 457 (eY 4)) = true := by decide +kernel
set_option maxRecDepth 100000 in
theorem gy_5 : sYes (pGo 488 (eY 5)) = true := by decide +kernel
set_option maxRecDepth 100000 in
theorem gy_6 : sYes (pGo 519 (eY 6)) = true := by decide +kernel
