/-! ===== the rows are what the code says: methods 100 and on ===== -/
set_option maxRecDepth 100000 in
theorem po_100 : sOkT pPT pm_100 = true := by decide +kernel
set_option maxRecDepth 100000 in
theorem po_101 : sOkT pPT pm_101 = true := by decide +kernel
set_option maxRecDepth 100000 in
theorem po_102 : sOkT pPT pm_102 = true := by decide +kernel
set_option maxRecDepth 100000 in
theorem po_103 : sOkT pPT pm_103 = true := by decide +kernel
set_option maxRecDepth 100000 in
theorem po_104 : sOkT pPT pm_104 = true := by decide +kernel
set_option maxRecDepth 100000 in
theorem po_105 : sOkT pPT pm_105 = true := by decide +kernel
set_option maxRecDepth 100000 in
theorem po_106 : sOkT pPT pm_106 = true := by decide +kernel
set_option maxRecDepth 100000 in
theorem po_107 : sOkT pPT pm_107 = true := by decide +kernel
set_option maxRecDepth 100000 in
theorem po_108 : sOkT pPT pm_108 = true := by decide +kernel
set_option maxRecDepth 100000 in
theorem po_109 : sOkT pPT pm_109 = true := by decide +kernel
set_option maxRecDepth 100000 in
theorem po_110 : sOkT pPT pm_110 = true := by decide +kernel
set_option maxRecDepth 100000 in
theorem po_111_0 : (((mT pm_111).drop 0).take 5).all (fun c => c.2.all (sOkE pPT pm_111)) = true := by decide +kernel
set_option maxRecDepth 100000 in
theorem po_111_5 : (((mT pm_111).drop 5).take 5).all (fun c => c.2.all (sOkE pPT pm_111)) = true := by decide +kernel
set_option maxRecDepth 100000 in
theorem po_111 : sOkT pPT pm_111 = true := fPc 0 5 (b := 5) rfl po_111_0 (fPc 5 5 (b := 10) rfl po_111_5 (rfl))
set_option maxRecDepth 100000 in
theorem po_112 : sOkT pPT pm_112 = true := by decide +kernel
set_option maxRecDepth 100000 in
theorem po_113 : sOkT pPT pm_113 = true := by decide +kernel
set_option maxRecDepth 100000 in
theorem po_114 : sOkT pPT pm_114 = true := by decide +kernel
set_option maxRecDepth 100000 in
theorem po_115 : sOkT pPT pm_115 = true := by decide +kernel
set_option maxRecDepth 100000 in
theorem po_116 : sOkT pPT pm_116 = true := by decide +kernel
set_option maxRecDepth 100000 in
theorem po_117 : sOkT pPT pm_117 = true := by decide +kernel
set_option maxRecDepth 100000 in
theorem po_118 : sOkT pPT pm_118 = true := by decide +kernel
set_option maxRecDepth 100000 in
theorem po_119_0 : (((mT pm_119).drop 0).take 5).all (fun c => c.2.all (sOkE pPT pm_119)) = true := by decide +kernel
set_option maxRecDepth 100000 in
theorem po_119_5 : (((mT pm_119).drop 5).take 5).all (fun c => c.2.all (sOkE pPT pm_119)) = true := by decide +kernel
set_option maxRecDepth 100000 in
theorem po_119 : sOkT pPT pm_119 = true := fPc 0 5 (b := 5) rfl po_119_0 (fPc 5 5 (b := 10) rfl po_119_5 (rfl))
set_option maxRecDepth 100000 in
theorem po_120 : sOkT pPT pm_120 = true := by decide +kernel
set_option maxRecDepth 100000 in
theorem po_121 : sOkT pPT pm_121 = true := by decide +kernel
set_option maxRecDepth 100000 in
theorem po_122 : sOkT pPT pm_122 = true := by decide +kernel
set_option maxRecDepth 100000 in
theorem po_123 : sOkT pPT pm_123 = true := by decide +kernel
set_option maxRecDepth 100000 in
theorem po_124 : sOkT pPT pm_124 = true := by decide +kernel
set_option maxRecDepth 100000 in
theorem po_125 : sOkT pPT pm_125 = true := by decide +kernel
set_option maxRecDepth 100000 in
theorem po_126 : sOkT pPT pm_126 = true := by decide +kernel
set_option maxRecDepth 100000 in
theorem po_127 : sOkT pPT pm_127 = true := by decide +kernel
set_option maxRecDepth 100000 in
theorem po_128 : sOkT pPT pm_128 = true := by decide +kernel
set_option maxRecDepth 100000 in
theorem po_129 : sOkT pPT pm_129 = true := by decide +kernel
set_option maxRecDepth 100000 in
theorem po_130 : sOkT pPT pm_130 = true := by decide +kernel
set_option maxRecDepth 100000 in
theorem po_131 : sOkT pPT pm_131 = true := by decide +kernel
set_option maxRecDepth 100000 in
theorem po_132 : sOkT pPT pm_132 = true := by decide +kernel
set_option maxRecDepth 100000 in
theorem po_133 : sOkT pPT pm_133 = true := by decide +kernel
set_option maxRecDepth 100000 in
theorem po_134 : sOkT pPT pm_134 = true := by decide +kernel
set_option maxRecDepth 100000 in
theorem po_135 : sOkT pPT pm_135 = true := by decide +kernel
set_option maxRecDepth 100000 in
theorem po_136 : sOkT pPT pm_136 = true := by decide +kernel
set_option maxRecDepth 100000 in
theorem po_137 : sOkT pPT pm_137 = true := by decide +kernel
set_option maxRecDepth 100000 in
theorem po_138 : sOkT pPT pm_138 = true := by decide +kernel
set_option maxRecDepth 100000 in
theorem po_139 : sOkT pPT pm_139 = true := by decide +kernel
set_option maxRecDepth 100000 in
theorem po_140 : sOkT pPT pm_140 = true := by decide +kernel
set_option maxRecDepth 100000 in
theorem po_141 : sOkT pPT pm_141 = true := by decide +kernel
set_option maxRecDepth 100000 in
theorem po_142 : sOkT pPT pm_142 = true := by decide +kernel
set_option maxRecDepth 100000 in
theorem po_143 : sOkT pPT pm_143 = true := by decide +kernel
set_option maxRecDepth 100000 in
theorem po_144 : sOkT pPT pm_144 = true := by decide +kernel
set_option maxRecDepth 100000 in
theorem po_145 : sOkT pPT pm_145 = true := by decide +kernel
set_option maxRecDepth 100000 in
theorem po_146 : sOkT pPT pm_146 = true := by decide +kernel
set_option maxRecDepth 100000 in
theorem po_147 : sOkT pPT pm_147 = true := by decide +kernel
set_option maxRecDepth 100000 in
theorem po_148 : sOkT pPT pm_148 = true := by decide +kernel
set_option maxRecDepth 100000 in
theorem po_149 : sOkT pPT pm_149 = true := by decide +kernel
set_option maxRecDepth 100000 in
theorem po_150 : sOkT pPT pm_150 = true := by decide +kernel
set_option maxRecDepth 100000 in
theorem po_151 : sOkT pPT pm_151 = true := by decide +kernel
set_option maxRecDepth 100000 in
theorem po_152 : sOkT pPT pm_152 = true := by decide +kernel
set_option maxRecDepth 100000 in
theorem po_153 : sOkT pPT pm_153 = true := by decide +kernel
