/-! ===== the law's calls ===== -/
set_option maxRecDepth 100000 in
theorem cs_17 : sCas pPT [i_362, i_364] [(0, 23, [(40, [n_25, n_50, n_51, n_52, n_98, n_54, (0, Int.ofNat 697), (0, Int.ofNat 0), n_25, n_50, n_51, n_52, n_53, n_54, (0, Int.ofNat 697), (0, Int.ofNat 0)], [43, 44, 101, 100, 0, 0])])] 22 500 lU lC 891 = true := by decide +kernel
set_option maxRecDepth 100000 in
theorem cs_18 : sCas pPT [i_365, i_366] [(0, 23, [(40, [n_25, n_50, n_51, n_52, n_96, n_54, (0, Int.ofNat 697), (0, Int.ofNat 0), n_25, n_50, n_51, n_52, n_53, n_54, (0, Int.ofNat 697), (0, Int.ofNat 0)], [43, 44, 101, 100, 0, 0])])] 11 500 lU lC 919 = true := by decide +kernel
set_option maxRecDepth 100000 in
theorem cs_19 : sCas pPT [i_368, i_369] [] 32 500 lU lC 932 = true := by decide +kernel
set_option maxRecDepth 100000 in
theorem cs_20 : sCas pPT [i_374, i_375] [] 32 500 lU lC 972 = true := by decide +kernel
set_option maxRecDepth 100000 in
theorem cs_21 : sCas pPT [i_378, i_379] [] 22 500 lU lC 1012 = true := by decide +kernel
set_option maxRecDepth 100000 in
theorem cs_22 : sCas pPT [i_382, i_384] [] 22 500 lU lC 1040 = true := by decide +kernel
