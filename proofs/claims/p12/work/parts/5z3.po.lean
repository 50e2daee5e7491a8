/-! ===== the rows are what the code says: methods 70 and on ===== -/
set_option maxRecDepth 100000 in
theorem po_70 : sOkT pPT pm_70 = true := by decide +kernel
set_option maxRecDepth 100000 in
theorem po_71 : sOkT pPT pm_71 = true := by decide +kernel
set_option maxRecDepth 100000 in
theorem po_72 : sOkT pPT pm_72 = true := by decide +kernel
set_option maxRecDepth 100000 in
theorem po_73 : sOkT pPT pm_73 = true := by decide +kernel
set_option maxRecDepth 100000 in
theorem po_74 : sOkT pPT pm_74 = true := by decide +kernel
set_option maxRecDepth 100000 in
theorem po_75 : sOkT pPT pm_75 = true := by decide +kernel
set_option maxRecDepth 100000 in
theorem po_76 : sOkT pPT pm_76 = true := by decide +kernel
set_option maxRecDepth 100000 in
theorem po_77 : sOkT pPT pm_77 = true := by decide +kernel
set_option maxRecDepth 100000 in
theorem po_78 : sOkT pPT pm_78 = true := by decide +kernel
set_option maxRecDepth 100000 in
theorem po_79 : sOkT pPT pm_79 = true := by decide +kernel
set_option maxRecDepth 100000 in
theorem po_80 : sOkT pPT pm_80 = true := by decide +kernel
set_option maxRecDepth 100000 in
theorem po_81 : sOkT pPT pm_81 = true := by decide +kernel
set_option maxRecDepth 100000 in
theorem po_82 : sOkT pPT pm_82 = true := by decide +kernel
set_option maxRecDepth 100000 in
theorem po_83 : sOkT pPT pm_83 = true := by decide +kernel
set_option maxRecDepth 100000 in
theorem po_84 : sOkT pPT pm_84 = true := by decide +kernel
set_option maxRecDepth 100000 in
theorem po_85_0 : (((mT pm_85).drop 0).take 5).all (fun c => c.2.all (sOkE pPT pm_85)) = true := by decide +kernel
set_option maxRecDepth 100000 in
theorem po_85_5 : (((mT pm_85).drop 5).take 5).all (fun c => c.2.all (sOkE pPT pm_85)) = true := by decide +kernel
set_option maxRecDepth 100000 in
theorem po_85 : sOkT pPT pm_85 = true := fPc 0 5 (b := 5) rfl po_85_0 (fPc 5 5 (b := 10) rfl po_85_5 (rfl))
set_option maxRecDepth 100000 in
theorem po_86 : sOkT pPT pm_86 = true := by decide +kernel
set_option maxRecDepth 100000 in
theorem po_87 : sOkT pPT pm_87 = true := by decide +kernel
set_option maxRecDepth 100000 in
theorem po_88 : sOkT pPT pm_88 = true := by decide +kernel
set_option maxRecDepth 100000 in
theorem po_89 : sOkT pPT pm_89 = true := by decide +kernel
set_option maxRecDepth 100000 in
theorem po_90 : sOkT pPT pm_90 = true := by decide +kernel
set_option maxRecDepth 100000 in
theorem po_91 : sOkT pPT pm_91 = true := by decide +kernel
set_option maxRecDepth 100000 in
theorem po_92 : sOkT pPT pm_92 = true := by decide +kernel
set_option maxRecDepth 100000 in
theorem po_93 : sOkT pPT pm_93 = true := by decide +kernel
set_option maxRecDepth 100000 in
theorem po_94 : sOkT pPT pm_94 = true := by decide +kernel
set_option maxRecDepth 100000 in
theorem po_95 : sOkT pPT pm_95 = true := by decide +kernel
set_option maxRecDepth 100000 in
theorem po_96 : sOkT pPT pm_96 = true := by decide +kernel
set_option maxRecDepth 100000 in
theorem po_97 : sOkT pPT pm_97 = true := by decide +kernel
set_option maxRecDepth 100000 in
theorem po_98 : sOkT pPT pm_98 = true := by decide +kernel
set_option maxRecDepth 100000 in
theorem po_99 : sOkT pPT pm_99 = true := by decide +kernel
set_option maxRecDepth 100000 in
theorem po_100 : sOkT pPT pm_100 = true := by decide +kernel
set_option maxRecDepth 100000 in
theorem po_101 : sOkT pPT pm_101 = true := by decide +kernel
set_option maxRecDepth 100000 in
theorem po_102 : sOkT pPT pm_102 = true := by decide +kernel
set_option maxRecDepth 100000 in
theorem po_103 : sOkT pPT pm_103 = true := by decide +kernel
set_option maxRecDepth 100000 in
theorem po_104_0 : (((mT pm_104).drop 0).take 5).all (fun c => c.2.all (sOkE pPT pm_104)) = true := by decide +kernel
set_option maxRecDepth 100000 in
theorem po_104_5 : (((mT pm_104).drop 5).take 5).all (fun c => c.2.all (sOkE pPT pm_104)) = true := by decide +kernel
set_option maxRecDepth 100000 in
theorem po_104 : sOkT pPT pm_104 = true := fPc 0 5 (b := 5) rfl po_104_0 (fPc 5 5 (b := 10) rfl po_104_5 (rfl))
set_option maxRecDepth 100000 in
theorem po_105_0 : (((mT pm_105).drop 0).take 5).all (fun c => c.2.all (sOkE pPT pm_105)) = true := by decide +kernel
set_option maxRecDepth 100000 in
theorem po_105_5 : (((mT pm_105).drop 5).take 5).all (fun c => c.2.all (sOkE pPT pm_105)) = true := by decide +kernel
set_option maxRecDepth 100000 in
theorem po_105 : sOkT pPT pm_105 = true := fPc 0 5 (b := 5) rfl po_105_0 (fPc 5 5 (b := 10) rfl po_105_5 (rfl))
set_option maxRecDepth 100000 in
theorem po_106 : sOkT pPT pm_106 = true := by decide +kernel
set_option maxRecDepth 100000 in
theorem po_107_0 : (((mT pm_107).drop 0).take 5).all (fun c => c.2.all (sOkE pPT pm_107)) = true := by decide +kernel
set_option maxRecDepth 100000 in
theorem po_107_5 : (((mT pm_107).drop 5).take 5).all (fun c => c.2.all (sOkE pPT pm_107)) = true := by decide +kernel
set_option maxRecDepth 100000 in
theorem po_107 : sOkT pPT pm_107 = true := fPc 0 5 (b := 5) rfl po_107_0 (fPc 5 5 (b := 10) rfl po_107_5 (rfl))
set_option maxRecDepth 100000 in
theorem po_108 : sOkT pPT pm_108 = true := by decide +kernel
set_option maxRecDepth 100000 in
theorem po_109_0 : (((mT pm_109).drop 0).take 5).all (fun c => c.2.all (sOkE pPT pm_109)) = true := by decide +kernel
set_option maxRecDepth 100000 in
theorem po_109_5 : (((mT pm_109).drop 5).take 5).all (fun c => c.2.all (sOkE pPT pm_109)) = true := by decide +kernel
set_option maxRecDepth 100000 in
theorem po_109 : sOkT pPT pm_109 = true := fPc 0 5 (b := 5) rfl po_109_0 (fPc 5 5 (b := 10) rfl po_109_5 (rfl))
set_option maxRecDepth 100000 in
theorem po_110_0 : (((mT pm_110).drop 0).take 5).all (fun c => c.2.all (sOkE pPT pm_110)) = true := by decide +kernel
set_option maxRecDepth 100000 in
theorem po_110_5 : (((mT pm_110).drop 5).take 5).all (fun c => c.2.all (sOkE pPT pm_110)) = true := by decide +kernel
set_option maxRecDepth 100000 in
theorem po_110 : sOkT pPT pm_110 = true := fPc 0 5 (b := 5) rfl po_110_0 (fPc 5 5 (b := 10) rfl po_110_5 (rfl))
set_option maxRecDepth 100000 in
theorem po_111 : sOkT pPT pm_111 = true := by decide +kernel
set_option maxRecDepth 100000 in
theorem po_112 : sOkT pPT pm_112 = true := by decide +kernel
set_option maxRecDepth 100000 in
theorem po_113_0 : (((mT pm_113).drop 0).take 5).all (fun c => c.2.all (sOkE pPT pm_113)) = true := by decide +kernel
set_option maxRecDepth 100000 in
theorem po_113_5 : (((mT pm_113).drop 5).take 5).all (fun c => c.2.all (sOkE pPT pm_113)) = true := by decide +kernel
set_option maxRecDepth 100000 in
theorem po_113 : sOkT pPT pm_113 = true := fPc 0 5 (b := 5) rfl po_113_0 (fPc 5 5 (b := 10) rfl po_113_5 (rfl))
set_option maxRecDepth 100000 in
theorem po_114 : sOkT pPT pm_114 = true := by decide +kernel
set_option maxRecDepth 100000 in
theorem po_115 : sOkT pPT pm_115 = true := by decide +kernel
set_option maxRecDepth 100000 in
theorem po_116_0 : (((mT pm_116).drop 0).take 5).all (fun c => c.2.all (sOkE pPT pm_116)) = true := by decide +kernel
set_option maxRecDepth 100000 in
theorem po_116_5 : (((mT pm_116).drop 5).take 5).all (fun c => c.2.all (sOkE pPT pm_116)) = true := by decide +kernel
set_option maxRecDepth 100000 in
theorem po_116_10 : (((mT pm_116).drop 10).take 5).all (fun c => c.2.all (sOkE pPT pm_116)) = true := by decide +kernel
set_option maxRecDepth 100000 in
theorem po_116 : sOkT pPT pm_116 = true := fPc 0 5 (b := 5) rfl po_116_0 (fPc 5 5 (b := 10) rfl po_116_5 (fPc 10 5 (b := 15) rfl po_116_10 (rfl)))
set_option maxRecDepth 100000 in
theorem po_117_0 : (((mT pm_117).drop 0).take 5).all (fun c => c.2.all (sOkE pPT pm_117)) = true := by decide +kernel
set_option maxRecDepth 100000 in
theorem po_117_5 : (((mT pm_117).drop 5).take 5).all (fun c => c.2.all (sOkE pPT pm_117)) = true := by decide +kernel
set_option maxRecDepth 100000 in
theorem po_117_10 : (((mT pm_117).drop 10).take 5).all (fun c => c.2.all (sOkE pPT pm_117)) = true := by decide +kernel
set_option maxRecDepth 100000 in
theorem po_117 : sOkT pPT pm_117 = true := fPc 0 5 (b := 5) rfl po_117_0 (fPc 5 5 (b := 10) rfl po_117_5 (fPc 10 5 (b := 15) rfl po_117_10 (rfl)))
set_option maxRecDepth 100000 in
theorem po_118 : sOkT pPT pm_118 = true := by decide +kernel
set_option maxRecDepth 100000 in
theorem po_119 : sOkT pPT pm_119 = true := by decide +kernel
set_option maxRecDepth 100000 in
theorem po_120 : sOkT pPT pm_120 = true := by decide +kernel
set_option maxRecDepth 100000 in
theorem po_121 : sOkT pPT pm_121 = true := by decide +kernel
set_option maxRecDepth 100000 in
theorem po_122 : sOkT pPT pm_122 = true := by decide +kernel
set_option maxRecDepth 100000 in
theorem po_123_0 : (((mT pm_123).drop 0).take 5).all (fun c => c.2.all (sOkE pPT pm_123)) = true := by decide +kernel
set_option maxRecDepth 100000 in
theorem po_123_5 : (((mT pm_123).drop 5).take 5).all (fun c => c.2.all (sOkE pPT pm_123)) = true := by decide +kernel
set_option maxRecDepth 100000 in
theorem po_123 : sOkT pPT pm_123 = true := fPc 0 5 (b := 5) rfl po_123_0 (fPc 5 5 (b := 10) rfl po_123_5 (rfl))
set_option maxRecDepth 100000 in
theorem po_124 : sOkT pPT pm_124 = true := by decide +kernel
set_option maxRecDepth 100000 in
theorem po_125 : sOkT pPT pm_125 = true := by decide +kernel
set_option maxRecDepth 100000 in
theorem po_126_0 : (((mT pm_126).drop 0).take 5).all (fun c => c.2.all (sOkE pPT pm_126)) = true := by decide +kernel
set_option maxRecDepth 100000 in
theorem po_126_5 : (((mT pm_126).drop 5).take 5).all (fun c => c.2.all (sOkE pPT pm_126)) = true := by decide +kernel
set_option maxRecDepth 100000 in
theorem po_126 : sOkT pPT pm_126 = true := fPc 0 5 (b := 5) rfl po_126_0 (fPc 5 5 (b := 10) rfl po_126_5 (rfl))
set_option maxRecDepth 100000 in
theorem po_127 : sOkT pPT pm_127 = true := by decide +kernel
set_option maxRecDepth 100000 in
theorem po_128 : sOkT pPT pm_128 = true := by decide +kernel
set_option maxRecDepth 100000 in
theorem po_129_0 : (((mT pm_129).drop 0).take 5).all (fun c => c.2.all (sOkE pPT pm_129)) = true := by decide +kernel
set_option maxRecDepth 100000 in
theorem po_129_5 : (((mT pm_129).drop 5).take 5).all (fun c => c.2.all (sOkE pPT pm_129)) = true := by decide +kernel
set_option maxRecDepth 100000 in
theorem po_129 : sOkT pPT pm_129 = true := fPc 0 5 (b := 5) rfl po_129_0 (fPc 5 5 (b := 10) rfl po_129_5 (rfl))
set_option maxRecDepth 100000 in
theorem po_130 : sOkT pPT pm_130 = true := by decide +kernel
set_option maxRecDepth 100000 in
theorem po_131 : sOkT pPT pm_131 = true := by decide +kernel
set_option maxRecDepth 100000 in
theorem po_132 : sOkT pPT pm_132 = true := by decide +kernel
set_option maxRecDepth 100000 in
theorem po_133 : sOkT pPT pm_133 = true := by decide +kernel
set_option maxRecDepth 100000 in
theorem po_134 : sOkT pPT pm_134 = true := by decide +kernel
set_option maxRecDepth 100000 in
theorem po_135 : sOkT pPT pm_135 = true := by decide +kernel
set_option maxRecDepth 100000 in
theorem po_136 : sOkT pPT pm_136 = true := by decide +kernel
set_option maxRecDepth 100000 in
theorem po_137 : sOkT pPT pm_137 = true := by decide +kernel
set_option maxRecDepth 100000 in
theorem po_138 : sOkT pPT pm_138 = true := by decide +kernel
set_option maxRecDepth 100000 in
theorem po_139 : sOkT pPT pm_139 = true := by decide +kernel
