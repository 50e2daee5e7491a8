/-! ===== the rows are what the code says: methods 140 and on ===== -/
set_option maxRecDepth 100000 in
theorem po_140 : sOkT pPT pm_140 = true := by decide +kernel
set_option maxRecDepth 100000 in
theorem po_141 : sOkT pPT pm_141 = true := by decide +kernel
set_option maxRecDepth 100000 in
theorem po_142 : sOkT pPT pm_142 = true := by decide +kernel
set_option maxRecDepth 100000 in
theorem po_143 : sOkT pPT pm_143 = true := by decide +kernel
set_option maxRecDepth 100000 in
theorem po_144 : sOkT pPT pm_144 = true := by decide +kernel
set_option maxRecDepth 100000 in
theorem po_145 : sOkT pPT pm_145 = true := by decide +kernel
set_option maxRecDepth 100000 in
theorem po_146_0 : (((mT pm_146).drop 0).take 5).all (fun c => c.2.all (sOkE pPT pm_146)) = true := by decide +kernel
set_option maxRecDepth 100000 in
theorem po_146_5 : (((mT pm_146).drop 5).take 5).all (fun c => c.2.all (sOkE pPT pm_146)) = true := by decide +kernel
set_option maxRecDepth 100000 in
theorem po_146 : sOkT pPT pm_146 = true := fPc 0 5 (b := 5) rfl po_146_0 (fPc 5 5 (b := 10) rfl po_146_5 (rfl))
set_option maxRecDepth 100000 in
theorem po_147 : sOkT pPT pm_147 = true := by decide +kernel
set_option maxRecDepth 100000 in
theorem po_148 : sOkT pPT pm_148 = true := by decide +kernel
set_option maxRecDepth 100000 in
theorem po_149_0 : (((mT pm_149).drop 0).take 5).all (fun c => c.2.all (sOkE pPT pm_149)) = true := by decide +kernel
set_option maxRecDepth 100000 in
theorem po_149_5 : (((mT pm_149).drop 5).take 5).all (fun c => c.2.all (sOkE pPT pm_149)) = true := by decide +kernel
set_option maxRecDepth 100000 in
theorem po_149 : sOkT pPT pm_149 = true := fPc 0 5 (b := 5) rfl po_149_0 (fPc 5 5 (b := 10) rfl po_149_5 (rfl))
set_option maxRecDepth 100000 in
theorem po_150 : sOkT pPT pm_150 = true := by decide +kernel
set_option maxRecDepth 100000 in
theorem po_151 : sOkT pPT pm_151 = true := by decide +kernel
set_option maxRecDepth 100000 in
theorem po_152_0 : (((mT pm_152).drop 0).take 5).all (fun c => c.2.all (sOkE pPT pm_152)) = true := by decide +kernel
set_option maxRecDepth 100000 in
theorem po_152_5 : (((mT pm_152).drop 5).take 5).all (fun c => c.2.all (sOkE pPT pm_152)) = true := by decide +kernel
set_option maxRecDepth 100000 in
theorem po_152_10 : (((mT pm_152).drop 10).take 5).all (fun c => c.2.all (sOkE pPT pm_152)) = true := by decide +kernel
set_option maxRecDepth 100000 in
theorem po_152 : sOkT pPT pm_152 = true := fPc 0 5 (b := 5) rfl po_152_0 (fPc 5 5 (b := 10) rfl po_152_5 (fPc 10 5 (b := 15) rfl po_152_10 (rfl)))
set_option maxRecDepth 100000 in
theorem po_153 : sOkT pPT pm_153 = true := by decide +kernel
set_option maxRecDepth 100000 in
theorem po_154_0 : (((mT pm_154).drop 0).take 5).all (fun c => c.2.all (sOkE pPT pm_154)) = true := by decide +kernel
set_option maxRecDepth 100000 in
theorem po_154_5 : (((mT pm_154).drop 5).take 5).all (fun c => c.2.all (sOkE pPT pm_154)) = true := by decide +kernel
set_option maxRecDepth 100000 in
theorem po_154 : sOkT pPT pm_154 = true := fPc 0 5 (b := 5) rfl po_154_0 (fPc 5 5 (b := 10) rfl po_154_5 (rfl))
set_option maxRecDepth 100000 in
theorem po_155 : sOkT pPT pm_155 = true := by decide +kernel
set_option maxRecDepth 100000 in
theorem po_156 : sOkT pPT pm_156 = true := by decide +kernel
set_option maxRecDepth 100000 in
theorem po_157 : sOkT pPT pm_157 = true := by decide +kernel
set_option maxRecDepth 100000 in
theorem po_158 : sOkT pPT pm_158 = true := by decide +kernel
set_option maxRecDepth 100000 in
theorem po_159 : sOkT pPT pm_159 = true := by decide +kernel
set_option maxRecDepth 100000 in
theorem po_160 : sOkT pPT pm_160 = true := by decide +kernel
set_option maxRecDepth 100000 in
theorem po_161_0 : (((mT pm_161).drop 0).take 5).all (fun c => c.2.all (sOkE pPT pm_161)) = true := by decide +kernel
set_option maxRecDepth 100000 in
theorem po_161_5 : (((mT pm_161).drop 5).take 5).all (fun c => c.2.all (sOkE pPT pm_161)) = true := by decide +kernel
set_option maxRecDepth 100000 in
theorem po_161 : sOkT pPT pm_161 = true := fPc 0 5 (b := 5) rfl po_161_0 (fPc 5 5 (b := 10) rfl po_161_5 (rfl))
set_option maxRecDepth 100000 in
theorem po_162 : sOkT pPT pm_162 = true := by decide +kernel
set_option maxRecDepth 100000 in
theorem po_163 : sOkT pPT pm_163 = true := by decide +kernel
set_option maxRecDepth 100000 in
theorem po_164 : sOkT pPT pm_164 = true := by decide +kernel
set_option maxRecDepth 100000 in
theorem po_165 : sOkT pPT pm_165 = true := by decide +kernel
set_option maxRecDepth 100000 in
theorem po_166 : sOkT pPT pm_166 = true := by decide +kernel
set_option maxRecDepth 100000 in
theorem po_167 : sOkT pPT pm_167 = true := by decide +kernel
set_option maxRecDepth 100000 in
theorem po_168 : sOkT pPT pm_168 = true := by decide +kernel
set_option maxRecDepth 100000 in
theorem po_169 : sOkT pPT pm_169 = true := by decide +kernel
set_option maxRecDepth 100000 in
theorem po_170 : sOkT pPT pm_170 = true := by decide +kernel
set_option maxRecDepth 100000 in
theorem po_171 : sOkT pPT pm_171 = true := by decide +kernel
set_option maxRecDepth 100000 in
theorem po_172 : sOkT pPT pm_172 = true := by decide +kernel
set_option maxRecDepth 100000 in
theorem po_173 : sOkT pPT pm_173 = true := by decide +kernel
set_option maxRecDepth 100000 in
theorem po_174 : sOkT pPT pm_174 = true := by decide +kernel
set_option maxRecDepth 100000 in
theorem po_175 : sOkT pPT pm_175 = true := by decide +kernel
set_option maxRecDepth 100000 in
theorem po_176 : sOkT pPT pm_176 = true := by decide +kernel
set_option maxRecDepth 100000 in
theorem po_177_0 : (((mT pm_177).drop 0).take 5).all (fun c => c.2.all (sOkE pPT pm_177)) = true := by decide +kernel
set_option maxRecDepth 100000 in
theorem po_177_5 : (((mT pm_177).drop 5).take 5).all (fun c => c.2.all (sOkE pPT pm_177)) = true := by decide +kernel
set_option maxRecDepth 100000 in
theorem po_177 : sOkT pPT pm_177 = true := fPc 0 5 (b := 5) rfl po_177_0 (fPc 5 5 (b := 10) rfl po_177_5 (rfl))
set_option maxRecDepth 100000 in
theorem po_178 : sOkT pPT pm_178 = true := by decide +kernel
set_option maxRecDepth 100000 in
theorem po_179 : sOkT pPT pm_179 = true := by decide +kernel
set_option maxRecDepth 100000 in
theorem po_180 : sOkT pPT pm_180 = true := by decide +kernel
set_option maxRecDepth 100000 in
theorem po_181 : sOkT pPT pm_181 = true := by decide +kernel
set_option maxRecDepth 100000 in
theorem po_182 : sOkT pPT pm_182 = true := by decide +kernel
set_option maxRecDepth 100000 in
theorem po_183_0 : (((mT pm_183).drop 0).take 5).all (fun c => c.2.all (sOkE pPT pm_183)) = true := by decide +kernel
set_option maxRecDepth 100000 in
theorem po_183_5 : (((mT pm_183).drop 5).take 5).all (fun c => c.2.all (sOkE pPT pm_183)) = true := by decide +kernel
set_option maxRecDepth 100000 in
theorem po_183 : sOkT pPT pm_183 = true := fPc 0 5 (b := 5) rfl po_183_0 (fPc 5 5 (b := 10) rfl po_183_5 (rfl))
set_option maxRecDepth 100000 in
theorem po_184 : sOkT pPT pm_184 = true := by decide +kernel
set_option maxRecDepth 100000 in
theorem po_185 : sOkT pPT pm_185 = true := by decide +kernel
set_option maxRecDepth 100000 in
theorem po_186 : sOkT pPT pm_186 = true := by decide +kernel
set_option maxRecDepth 100000 in
theorem po_187 : sOkT pPT pm_187 = true := by decide +kernel
set_option maxRecDepth 100000 in
theorem po_188 : sOkT pPT pm_188 = true := by decide +kernel
set_option maxRecDepth 100000 in
theorem po_189 : sOkT pPT pm_189 = true := by decide +kernel
set_option maxRecDepth 100000 in
theorem po_190 : sOkT pPT pm_190 = true := by decide +kernel
set_option maxRecDepth 100000 in
theorem po_191 : sOkT pPT pm_191 = true := by decide +kernel
set_option maxRecDepth 100000 in
theorem po_192 : sOkT pPT pm_192 = true := by decide +kernel
set_option maxRecDepth 100000 in
theorem po_193_0 : (((mT pm_193).drop 0).take 5).all (fun c => c.2.all (sOkE pPT pm_193)) = true := by decide +kernel
set_option maxRecDepth 100000 in
theorem po_193_5 : (((mT pm_193).drop 5).take 5).all (fun c => c.2.all (sOkE pPT pm_193)) = true := by decide +kernel
set_option maxRecDepth 100000 in
theorem po_193_10 : (((mT pm_193).drop 10).take 5).all (fun c => c.2.all (sOkE pPT pm_193)) = true := by decide +kernel
set_option maxRecDepth 100000 in
theorem po_193_15 : (((mT pm_193).drop 15).take 5).all (fun c => c.2.all (sOkE pPT pm_193)) = true := by decide +kernel
set_option maxRecDepth 100000 in
theorem po_193 : sOkT pPT pm_193 = true := fPc 0 5 (b := 5) rfl po_193_0 (fPc 5 5 (b := 10) rfl po_193_5 (fPc 10 5 (b := 15) rfl po_193_10 (fPc 15 5 (b := 20) rfl po_193_15 (rfl))))
set_option maxRecDepth 100000 in
theorem po_194 : sOkT pPT pm_194 = true := by decide +kernel
set_option maxRecDepth 100000 in
theorem po_195 : sOkT pPT pm_195 = true := by decide +kernel
set_option maxRecDepth 100000 in
theorem po_196 : sOkT pPT pm_196 = true := by decide +kernel
set_option maxRecDepth 100000 in
theorem po_197 : sOkT pPT pm_197 = true := by decide +kernel
set_option maxRecDepth 100000 in
theorem po_198 : sOkT pPT pm_198 = true := by decide +kernel
set_option maxRecDepth 100000 in
theorem po_199 : sOkT pPT pm_199 = true := by decide +kernel
set_option maxRecDepth 100000 in
theorem po_200 : sOkT pPT pm_200 = true := by decide +kernel
set_option maxRecDepth 100000 in
theorem po_201 : sOkT pPT pm_201 = true := by decide +kernel
set_option maxRecDepth 100000 in
theorem po_202 : sOkT pPT pm_202 = true := by decide +kernel
set_option maxRecDepth 100000 in
theorem po_203 : sOkT pPT pm_203 = true := by decide +kernel
set_option maxRecDepth 100000 in
theorem po_204 : sOkT pPT pm_204 = true := by decide +kernel
set_option maxRecDepth 100000 in
theorem po_205 : sOkT pPT pm_205 = true := by decide +kernel
set_option maxRecDepth 100000 in
theorem po_206 : sOkT pPT pm_206 = true := by decide +kernel
set_option maxRecDepth 100000 in
theorem po_207 : sOkT pPT pm_207 = true := by decide +kernel
set_option maxRecDepth 100000 in
theorem po_208 : sOkT pPT pm_208 = true := by decide +kernel
set_option maxRecDepth 100000 in
theorem po_209 : sOkT pPT pm_209 = true := by decide +kernel
set_option maxRecDepth 100000 in
theorem po_210 : sOkT pPT pm_210 = true := by decide +kernel
set_option maxRecDepth 100000 in
theorem po_211 : sOkT pPT pm_211 = true := by decide +kernel
set_option maxRecDepth 100000 in
theorem po_212 : sOkT pPT pm_212 = true := by decide +kernel
set_option maxRecDepth 100000 in
theorem po_213 : sOkT pPT pm_213 = true := by decide +kernel
set_option maxRecDepth 100000 in
theorem po_214 : sOkT pPT pm_214 = true := by decide +kernel
