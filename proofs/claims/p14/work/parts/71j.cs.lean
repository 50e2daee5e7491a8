/-! ===== the law's calls ===== -/
set_option maxRecDepth 100000 in
theorem cs_23 : sCas pPT [i_388, i_389] [] 21 500 lU lC 1075 = true := by decide +kernel
set_option maxRecDepth 100000 in
theorem cs_24 : sCas pPT [i_390, i_391] [] 11 500 lU lC 1100 = true := by decide +kernel
set_option maxRecDepth 100000 in
theorem cs_25 : sCas pPT [i_392] [] 99 500 lU lC 1113 = true := by decide +kernel
set_option maxRecDepth 100000 in
theorem cs_26 : sCas pPT [i_400, i_409] [] 32 500 lU lC 1193 = true := by decide +kernel
set_option maxRecDepth 100000 in
theorem cs_27 : sCas pPT [] [] 13 500 lU lC 1233 = true := by decide +kernel
set_option maxRecDepth 100000 in
theorem cs_28 : sCas pPT [i_416, i_419] [] 22 500 lU lC 1244 = true := by decide +kernel
