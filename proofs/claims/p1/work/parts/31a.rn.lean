/-! ===== runs of the law, 0 ===== -/
set_option maxRecDepth 100000 in
theorem gs_0 : sYes (pGo 223 (eS 0)) = true := by decide +kernel
set_option maxRecDepth 100000 in
theorem gs_1 : sYes (pGo 223 (eS 1)) = true := by decide +kernel
set_option maxRecDepth 100000 in
theorem gs_2 : sYes (pGo 223 (eS 2)) = true := by decide +kernel
set_option maxRecDepth 100000 in
theorem gs_3 : sYes (pGo 223 (eS 3)) = true := by decide +kernel
set_option maxRecDepth 100000 in
theorem gs_4 : sYes (pGo 223 (eS 4)) = true := by decide +kernel
set_option maxRecDepth 100000 in
theorem gs_5 : sYes (pGo 223 (eS 5)) = true := by decide +kernel
set_option maxRecDepth 100000 in
theorem go_0 : sYes (pGo 863 (eK 0)) = true := by decide +kernel
set_option maxRecDepth 100000 in
theorem go_1 : sYes (pGo 13517 (eK 1)) = true := by decide +kernel
set_option maxRecDepth 100000 in
theorem go_2 : sYes (pGo 223 (eK 2)) = true := by decide +kernel
set_option maxRecDepth 100000 in
theorem go_3 : sYes (pGo 223 (eK 3)) = true := by decide +kernel
set_option maxRecDepth 100000 in
theorem go_4 : sYes (pGo 223 (eK 4)) = true := by decide +kernel
set_option maxRecDepth 100000 in
theorem go_5 : sYes (pGo 223 (eK 5)) = true := by decide +kernel
set_option maxRecDepth 100000 in
theorem go_6 : sYes (pGo 223 (eK 6)) = true := by decide +kernel
set_option maxRecDepth 100000 in
theorem go_7 : sYes (pGo 223 (eK 7)) = true := by decide +kernel
set_option maxRecDepth 100000 in
theorem go_8 : sYes (pGo 223 (eK 8)) = true := by decide +kernel
set_option maxRecDepth 100000 in
theorem go_9 : sYes (pGo 223 (eK 9)) = true := by decide +kernel
set_option maxRecDepth 100000 in
theorem go_10 : sYes (pGo 223 (eK 10)) = true := by decide +kernel
set_option maxRecDepth 100000 in
theorem go_11 : sYes (pGo 223 (eK 11)) = true := by decide +kernel
set_option maxRecDepth 100000 in
theorem go_12 : sYes (pGo 223 (eK 12)) = true := by decide +kernel
set_option maxRecDepth 100000 in
theorem go_13 : sYes (pGo 223 (eK 13)) = true := by decide +kernel
set_option maxRecDepth 100000 in
theorem go_14 : sYes (pGo 223 (eK 14)) = true := by decide +kernel
set_option maxRecDepth 100000 in
theorem go_15 : sYes (pGo 223 (eK 15)) = true := by decide +kernel
set_option maxRecDepth 100000 in
theorem go_16 : sYes (pGo 223 (eK 16)) = true := by decide +kernel
set_option maxRecDepth 100000 in
theorem go_17 : sYes (pGo 223 (eK 17)) = true := by decide +kernel
set_option maxRecDepth 100000 in
theorem go_18 : sYes (pGo 223 (eK 18)) = true := by decide +kernel
set_option maxRecDepth 100000 in
theorem go_19 : sYes (pGo 223 (eK 19)) = true := by decide +kernel
set_option maxRecDepth 100000 in
theorem go_20 : sYes (pGo 223 (eK 20)) = true := by decide +kernel
