/-! ===== the law's calls ===== -/
set_option maxRecDepth 100000 in
theorem cs_0 : sCas pPT [] [(259, 30, [(20, [n_0, (16, Int.ofNat 20), n_85, n_84, n_79], [1, 1, 24]), (20, [(16, Int.ofNat 1), (16, Int.ofNat 20), n_87, n_86, n_79], [1, 1, 16]), (20, [(16, Int.ofNat 2), (16, Int.ofNat 20), n_89, n_88, n_79], [1, 1, 8]), (20, [(16, Int.ofNat 3), (16, Int.ofNat 20), n_91, n_90, n_79], [1, 1, 0]), (20, [(16, Int.ofNat 4), (16, Int.ofNat 20), n_93, n_92, n_80], [1, 1, 24]), (20, [(16, Int.ofNat 5), (16, Int.ofNat 20), n_95, n_94, n_80], [1, 1, 16]), (20, [(16, Int.ofNat 6), (16, Int.ofNat 20), n_97, n_96, n_80], [1, 1, 8]), (20, [(16, Int.ofNat 7), (16, Int.ofNat 20), n_99, n_98, n_80], [1, 1, 0]), (20, [(16, Int.ofNat 8), (16, Int.ofNat 20), n_101, n_100, n_81], [1, 1, 24]), (20, [(16, Int.ofNat 9), (16, Int.ofNat 20), n_103, n_102, n_81], [1, 1, 16]), (20, [(16, Int.ofNat 10), (16, Int.ofNat 20), n_105, n_104, n_81], [1, 1, 8]), (20, [(16, Int.ofNat 11), (16, Int.ofNat 20), n_107, n_106, n_81], [1, 1, 0]), (20, [(16, Int.ofNat 12), (16, Int.ofNat 20), n_109, n_108, n_82], [1, 1, 24]), (20, [(16, Int.ofNat 13), (16, Int.ofNat 20), n_111, n_110, n_82], [1, 1, 16]), (20, [(16, Int.ofNat 14), (16, Int.ofNat 20), n_113, n_112, n_82], [1, 1, 8]), (20, [(16, Int.ofNat 15), (16, Int.ofNat 20), n_115, n_114, n_82], [1, 1, 0]), (20, [(16, Int.ofNat 16), (16, Int.ofNat 20), n_117, n_116, n_83], [1, 1, 24]), (20, [(16, Int.ofNat 17), (16, Int.ofNat 20), n_119, n_118, n_83], [1, 1, 16]), (20, [(16, Int.ofNat 18), (16, Int.ofNat 20), n_121, n_120, n_83], [1, 1, 8]), (20, [(16, Int.ofNat 19), (16, Int.ofNat 20), n_123, n_122, n_83], [1, 1, 0])]), (49, 104, [(20, [n_0, (16, Int.ofNat 20), n_125, n_124, n_79], [99, 0, 24]), (20, [(16, Int.ofNat 19), (16, Int.ofNat 20), n_123, n_122, n_83], [1, 1, 0]), (20, [(16, Int.ofNat 1), (16, Int.ofNat 20), n_127, n_126, n_79], [99, 0, 16]), (20, [(16, Int.ofNat 2), (16, Int.ofNat 20), n_129, n_128, n_79], [99, 0, 8]), (20, [(16, Int.ofNat 3), (16, Int.ofNat 20), n_131, n_130, n_79], [99, 0, 0]), (20, [(16, Int.ofNat 4), (16, Int.ofNat 20), n_133, n_132, n_80], [99, 0, 24]), (20, [(16, Int.ofNat 5), (16, Int.ofNat 20), n_135, n_134, n_80], [99, 0, 16]), (20, [(16, Int.ofNat 6), (16, Int.ofNat 20), n_137, n_136, n_80], [99, 0, 8]), (20, [(16, Int.ofNat 7), (16, Int.ofNat 20), n_139, n_138, n_80], [99, 0, 0]), (20, [(16, Int.ofNat 8), (16, Int.ofNat 20), (298, Int.ofNat 0), (296, Int.ofNat 0), n_81], [99, 0, 24]), (20, [(16, Int.ofNat 9), (16, Int.ofNat 20), (302, Int.ofNat 0), (300, Int.ofNat 0), n_81], [99, 0, 16]), (20, [(16, Int.ofNat 10), (16, Int.ofNat 20), (306, Int.ofNat 0), (304, Int.ofNat 0), n_81], [99, 0, 8]), (20, [(16, Int.ofNat 11), (16, Int.ofNat 20), (310, Int.ofNat 0), (308, Int.ofNat 0), n_81], [99, 0, 0]), (20, [(16, Int.ofNat 12), (16, Int.ofNat 20), (314, Int.ofNat 0), (312, Int.ofNat 0), n_82], [99, 0, 24]), (20, [(16, Int.ofNat 13), (16, Int.ofNat 20), (318, Int.ofNat 0), (316, Int.ofNat 0), n_82], [99, 0, 16]), (20, [(16, Int.ofNat 14), (16, Int.ofNat 20), (322, Int.ofNat 0), (320, Int.ofNat 0), n_82], [99, 0, 8]), (20, [(16, Int.ofNat 15), (16, Int.ofNat 20), (326, Int.ofNat 0), (324, Int.ofNat 0), n_82], [99, 0, 0]), (20, [(16, Int.ofNat 16), (16, Int.ofNat 20), (330, Int.ofNat 0), (328, Int.ofNat 0), n_83], [99, 0, 24]), (20, [(16, Int.ofNat 17), (16, Int.ofNat 20), (334, Int.ofNat 0), (332, Int.ofNat 0), n_83], [99, 0, 16]), (20, [(16, Int.ofNat 18), (16, Int.ofNat 20), (338, Int.ofNat 0), (336, Int.ofNat 0), n_83], [99, 0, 8]), (20, [(16, Int.ofNat 19), (16, Int.ofNat 20), (342, Int.ofNat 0), (340, Int.ofNat 0), n_83], [99, 0, 0])]), (0, 23, [(21, [(16, Int.ofNat 20), (16, Int.ofNat 20)], [1, 1]), (21, [(16, Int.ofNat 20), (16, Int.ofNat 20)], [99, 0])])] 838 500 lU lF 184 = true := by decide +kernel
set_option maxRecDepth 100000 in
theorem cs_32 : sCas pPT [] [] 68 500 lU lG 184 = true := by decide +kernel
set_option maxRecDepth 100000 in
theorem cs_1 : sCas pPT [i_296, i_113, i_295] [] 22 500 lU lC 257 = true := by decide +kernel
set_option maxRecDepth 100000 in
theorem cs_2 : sCas pPT [] [] 13 500 lU lC 285 = true := by decide +kernel
set_option maxRecDepth 100000 in
theorem cs_3 : sCas pPT [i_304, i_314] [] 22 500 lU lC 298 = true := by decide +kernel
set_option maxRecDepth 100000 in
theorem cs_4 : sCas pPT [i_317, i_319] [] 32 500 lU lC 326 = true := by decide +kernel
set_option maxRecDepth 100000 in
theorem cs_5 : sCas pPT [i_322, i_324] [] 32 500 lU lC 366 = true := by decide +kernel
set_option maxRecDepth 100000 in
theorem cs_6 : sCas pPT [i_327, i_328] [] 32 500 lU lC 406 = true := by decide +kernel
set_option maxRecDepth 100000 in
theorem cs_7 : sCas pPT [i_331, i_333] [] 42 500 lU lC 446 = true := by decide +kernel
set_option maxRecDepth 100000 in
theorem cs_8 : sCas pPT [i_336, i_337] [] 42 500 lU lC 498 = true := by decide +kernel
set_option maxRecDepth 100000 in
theorem cs_9 : sCas pPT [i_339, i_340] [] 32 500 lU lC 550 = true := by decide +kernel
set_option maxRecDepth 100000 in
theorem cs_10 : sCas pPT [i_343, i_346] [] 22 500 lU lC 590 = true := by decide +kernel
set_option maxRecDepth 100000 in
theorem cs_11 : sCas pPT [i_349, i_350] [] 22 500 lU lC 618 = true := by decide +kernel
set_option maxRecDepth 100000 in
theorem cs_12 : sCas pPT [i_353, i_354] [] 38 500 lU lC 646 = true := by decide +kernel
set_option maxRecDepth 100000 in
theorem cs_13 : sCas pPT [i_357, i_358] [] 38 500 lU lC 702 = true := by decide +kernel
set_option maxRecDepth 100000 in
theorem cs_14 : sCas pPT [i_360, i_361] [] 42 500 lU lC 758 = true := by decide +kernel
set_option maxRecDepth 100000 in
theorem cs_15 : sCas pPT [i_362, i_364] [] 11 500 lU lC 810 = true := by decide +kernel
set_option maxRecDepth 100000 in
theorem cs_16 : sCas pPT [i_375, i_377] [] 32 500 lU lC 823 = true := by decide +kernel
set_option maxRecDepth 100000 in
theorem cs_17 : sCas pPT [i_384, i_386] [] 22 500 lU lC 863 = true := by decide +kernel
set_option maxRecDepth 100000 in
theorem cs_18 : sCas pPT [i_387, i_388] [] 11 500 lU lC 891 = true := by decide +kernel
set_option maxRecDepth 100000 in
theorem cs_19 : sCas pPT [i_390, i_391] [] 32 500 lU lC 904 = true := by decide +kernel
set_option maxRecDepth 100000 in
theorem cs_20 : sCas pPT [i_396, i_397] [] 32 500 lU lC 944 = true := by decide +kernel
set_option maxRecDepth 100000 in
theorem cs_21 : sCas pPT [i_400, i_401] [] 22 500 lU lC 984 = true := by decide +kernel
set_option maxRecDepth 100000 in
theorem cs_22 : sCas pPT [i_404, i_408] [] 22 500 lU lC 1012 = true := by decide +kernel
set_option maxRecDepth 100000 in
theorem cs_23 : sCas pPT [i_410, i_411] [] 21 500 lU lC 1040 = true := by decide +kernel
set_option maxRecDepth 100000 in
theorem cs_24 : sCas pPT [i_412, i_413] [] 11 500 lU lC 1065 = true := by decide +kernel
set_option maxRecDepth 100000 in
theorem cs_25 : sCas pPT [i_414] [] 99 500 lU lC 1078 = true := by decide +kernel
set_option maxRecDepth 100000 in
theorem cs_26 : sCas pPT [i_422, i_431] [] 32 500 lU lC 1158 = true := by decide +kernel
set_option maxRecDepth 100000 in
theorem cs_27 : sCas pPT [] [] 13 500 lU lC 1198 = true := by decide +kernel
set_option maxRecDepth 100000 in
theorem cs_28 : sCas pPT [i_438, i_441] [] 22 500 lU lC 1209 = true := by decide +kernel
set_option maxRecDepth 100000 in
theorem cs_29 : sCas pPT [i_444, i_447] [] 42 500 lU lC 1237 = true := by decide +kernel
set_option maxRecDepth 100000 in
theorem cs_30 : sCas pPT [i_455] [] 62 500 lU lC 1289 = true := by decide +kernel
set_option maxRecDepth 100000 in
theorem cs_31 : sCas pPT [i_456, i_464] [] 9 500 lU lC 1300 = true := by decide +kernel
