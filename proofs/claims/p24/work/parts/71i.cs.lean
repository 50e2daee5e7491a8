/-! ===== the law's calls ===== -/
set_option maxRecDepth 100000 in
theorem cs_17 : sCas pPT [i_362, i_364] [(0, 23, [(40, [n_25, n_50, n_51, n_52, n_98, n_54, (0, Int.ofNat 697), (0, Int.ofNat 0), n_25, n_50, n_51, n_52, n_53, n_54, (0, Int.ofNat 697), (0, Int.ofNat 0)], [43, 44, 101, 100, 0, 0])])] 22 500 lU lC 863 = true := by decide +kernel
set_option maxRecDepth 100000 in
theorem cs_18 : sCas pPT [i_365, i_366] [(0, 23, [(40, [n_25, n_50, n_51, n_52, n_96, n_54, (0, Int.ofNat 697), (0, Int.ofNat 0), n_25, n_50, n_51, n_52, n_53, n_54, (0, Int.ofNat 697), (0, Int.ofNat 0)], [43, 44, 101, 100, 0, 0])])] 11 500 lU lC 891 = true := by decide +kernel
set_option maxRecDepth 100000 in
theorem cs_19 : sCas pPT [i_368, i_369] [] 32 500 lU lC 904 = true := by decide +kernel
set_option maxRecDepth 100000 in
theorem cs_20 : sCas pPT [i_374, i_375] [] 32 500 lU lC 944 = true := by decide +kernel
set_option maxRecDepth 100000 in
theorem cs_21 : sCas pPT [i_378, i_379] [] 22 500 lU lC 984 = true := by decide +kernel
set_option maxRecDepth 100000 in
theorem cs_22 : sCas pPT [i_382, i_384] [(0, 1059, [(52, [n_63, n_66, (0, Int.ofNat 16), n_90, n_3, n_6, (0, Int.ofNat 16), n_90], [4, 0, 4, 6, 3, 6, 37, 38, 13, 14]), (84, [n_63, n_66, (0, Int.ofNat 16), n_91, n_90], [3, 6, 37, 38, 13, 14]), (52, [n_63, n_66, n_90, n_3, n_6, n_90], [3, 0, 6, 6, 3, 6, 37, 38, 13, 14]), (85, [n_63, n_66, n_91, n_90], [3, 6, 37, 38, 13, 14])])] 35 500 lU lC 1012 = true := by decide +kernel
