/-! ===== the law's calls ===== -/
set_option maxRecDepth 100000 in
theorem cs_23 : sCas pPT [i_386, i_387] [] 21 500 lU lC 1068 = true := by decide +kernel
set_option maxRecDepth 100000 in
theorem cs_24 : sCas pPT [i_388, i_389] [] 11 500 lU lC 1093 = true := by decide +kernel
set_option maxRecDepth 100000 in
theorem cs_25 : sCas pPT [i_390] [] 99 500 lU lC 1106 = true := by decide +kernel
set_option maxRecDepth 100000 in
theorem cs_26 : sCas pPT [i_398, i_407] [] 32 500 lU lC 1186 = true := by decide +kernel
set_option maxRecDepth 100000 in
theorem cs_27 : sCas pPT [] [] 13 500 lU lC 1226 = true := by decide +kernel
set_option maxRecDepth 100000 in
theorem cs_28 : sCas pPT [i_414, i_417] [] 22 500 lU lC 1237 = true := by decide +kernel
