/-! ===== the law's calls ===== -/
set_option maxRecDepth 100000 in
theorem cs_0 : sCas pPT [] 837 500 lU lC 184 = true := by decide +kernel
set_option maxRecDepth 100000 in
theorem cs_1 : sCas pPT [i_86, i_230] 22 500 lU lC 257 = true := by decide +kernel
set_option maxRecDepth 100000 in
theorem cs_2 : sCas pPT [] 13 500 lU lC 285 = true := by decide +kernel
set_option maxRecDepth 100000 in
theorem cs_3 : sCas pPT [i_238, i_248] 22 500 lU lC 298 = true := by decide +kernel
set_option maxRecDepth 100000 in
theorem cs_4 : sCas pPT [i_251, i_253] 32 500 lU lC 326 = true := by decide +kernel
set_option maxRecDepth 100000 in
theorem cs_5 : sCas pPT [i_256, i_258] 32 500 lU lC 366 = true := by decide +kernel
set_option maxRecDepth 100000 in
theorem cs_6 : sCas pPT [i_261, i_262] 32 500 lU lC 406 = true := by decide +kernel
set_option maxRecDepth 100000 in
theorem cs_7 : sCas pPT [i_265, i_267] 42 500 lU lC 446 = true := by decide +kernel
set_option maxRecDepth 100000 in
theorem cs_8 : sCas pPT [i_270, i_271] 42 500 lU lC 498 = true := by decide +kernel
set_option maxRecDepth 100000 in
theorem cs_9 : sCas pPT [i_273, i_274] 32 500 lU lC 550 = true := by decide +kernel
set_option maxRecDepth 100000 in
theorem cs_10 : sCas pPT [i_277, i_280] 22 500 lU lC 590 = true := by decide +kernel
set_option maxRecDepth 100000 in
theorem cs_11 : sCas pPT [i_283, i_284] 22 500 lU lC 618 = true := by decide +kernel
set_option maxRecDepth 100000 in
theorem cs_12 : sCas pPT [i_287, i_288] 38 500 lU lC 646 = true := by decide +kernel
set_option maxRecDepth 100000 in
theorem cs_13 : sCas pPT [i_291, i_292] 38 500 lU lC 702 = true := by decide +kernel
set_option maxRecDepth 100000 in
theorem cs_14 : sCas pPT [i_294, i_295] 42 500 lU lC 758 = true := by decide +kernel
set_option maxRecDepth 100000 in
theorem cs_15 : sCas pPT [i_296, i_298] 11 500 lU lC 810 = true := by decide +kernel
set_option maxRecDepth 100000 in
theorem cs_16 : sCas pPT [i_309, i_311] 32 500 lU lC 823 = true := by decide +kernel
set_option maxRecDepth 100000 in
theorem cs_17 : sCas pPT [i_318, i_320] 22 500 lU lC 863 = true := by decide +kernel
set_option maxRecDepth 100000 in
theorem cs_18 : sCas pPT [i_321, i_322] 11 500 lU lC 891 = true := by decide +kernel
set_option maxRecDepth 100000 in
theorem cs_19 : sCas pPT [i_324, i_325] 32 500 lU lC 904 = true := by decide +kernel
set_option maxRecDepth 100000 in
theorem cs_20 : sCas pPT [i_330, i_331] 32 500 lU lC 944 = true := by decide +kernel
set_option maxRecDepth 100000 in
theorem cs_21 : sCas pPT [i_334, i_335] 22 500 lU lC 984 = true := by decide +kernel
set_option maxRecDepth 100000 in
theorem cs_22 : sCas pPT [i_338, i_342] 22 500 lU lC 1012 = true := by decide +kernel
set_option maxRecDepth 100000 in
theorem cs_23 : sCas pPT [i_344, i_345] 21 500 lU lC 1040 = true := by decide +kernel
set_option maxRecDepth 100000 in
theorem cs_24 : sCas pPT [i_346, i_347] 11 500 lU lC 1065 = true := by decide +kernel
set_option maxRecDepth 100000 in
theorem cs_25 : sCas pPT [i_348] 99 500 lU lC 1078 = true := by decide +kernel
set_option maxRecDepth 100000 in
theorem cs_26 : sCas pPT [i_356, i_365] 32 500 lU lC 1158 = true := by decide +kernel
set_option maxRecDepth 100000 in
theorem cs_27 : sCas pPT [] 13 500 lU lC 1198 = true := by decide +kernel
set_option maxRecDepth 100000 in
theorem cs_28 : sCas pPT [i_372, i_375] 22 500 lU lC 1209 = true := by decide +kernel
set_option maxRecDepth 100000 in
theorem cs_29 : sCas pPT [i_378, i_381] 42 500 lU lC 1237 = true := by decide +kernel
set_option maxRecDepth 100000 in
theorem cs_30 : sCas pPT [i_389] 62 500 lU lC 1289 = true := by decide +kernel
set_option maxRecDepth 100000 in
theorem cs_31 : sCas pPT [i_390, i_398] 11 500 lU lC 1300 = true := by decide +kernel
