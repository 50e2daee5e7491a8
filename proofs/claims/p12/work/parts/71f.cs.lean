/-! ===== the law's calls ===== -/
set_option maxRecDepth 100000 in
theorem cs_14 : sCas pPT [i_110, i_341, i_342, i_434] [(100, 11, [(49, [n_22, n_54], [])]), (0, 23, [(32, [n_25, n_50, n_51, n_52, n_53, n_54, (0, Int.ofNat 4), n_86, n_50, n_51, n_52, n_53, (124, Int.ofNat 1), n_90, (0, Int.ofNat 0)], [43, 44, 101, 100, 0, 0]), (32, [(0, Int.ofNat 39), n_50, n_51, n_52, n_53, n_54, (0, Int.ofNat 4), n_86, n_50, n_51, n_52, n_53, (124, Int.ofNat 1), n_90, (0, Int.ofNat 0)], [43, 44, 101, 100, 0, 0])])] 101 500 lU lC 786 = true := by decide +kernel
