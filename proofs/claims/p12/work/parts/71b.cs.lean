/-! ===== the law's calls ===== -/
set_option maxRecDepth 100000 in
theorem cs_5 : sCas pPT [i_322, i_324] [] 32 500 lU lC 366 = true := by decide +kernel
set_option maxRecDepth 100000 in
theorem cs_6 : sCas pPT [i_327, i_328] [] 32 500 lU lC 406 = true := by decide +kernel
set_option maxRecDepth 100000 in
theorem cs_7 : sCas pPT [i_331, i_333] [] 42 500 lU lC 446 = true := by decide +kernel
set_option maxRecDepth 100000 in
theorem cs_8 : sCas pPT [i_336, i_337] [] 42 500 lU lC 498 = true := by decide +kernel
set_option maxRecDepth 100000 in
theorem cs_9 : sCas pPT [i_339, i_340] [] 32 500 lU lC 550 = true := by decide +kernel
set_option maxRecDepth 100000 in
theorem cs_10 : sCas pPT [i_110, i_341, i_342, i_434] [(203, 41, [(86, [n_51, n_63, n_85, n_90], [38])]), (120, 45, [(87, [n_51, n_85, n_90, n_92, n_93], [])]), (0, 23, [(32, [n_25, n_50, n_51, n_52, n_53, n_54, (0, Int.ofNat 0), n_85, n_50, n_95, n_52, n_53, n_54, (0, Int.ofNat 12), n_94], [43, 44, 101, 100, 0, 0]), (23, [n_95, n_51, n_94, n_63, n_85], [38, 0]), (24, [n_95, n_63, n_95, n_63, (0, Int.ofNat 0)], [38, 0]), (32, [(0, Int.ofNat 39), n_50, n_51, n_52, n_53, n_54, (0, Int.ofNat 0), n_85, n_50, n_95, n_52, n_53, n_54, (0, Int.ofNat 12), n_94], [43, 44, 101, 100, 0, 0])])] 83 500 lU lC 590 = true := by decide +kernel
