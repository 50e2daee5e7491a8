/-! ===== the rows are what the code says: methods 215 and on ===== -/
set_option maxRecDepth 100000 in
theorem po_215 : sOkT pPT pm_215 = true := by decide +kernel
set_option maxRecDepth 100000 in
theorem po_216 : sOkT pPT pm_216 = true := by decide +kernel
set_option maxRecDepth 100000 in
theorem po_217 : sOkT pPT pm_217 = true := by decide +kernel
set_option maxRecDepth 100000 in
theorem po_218 : sOkT pPT pm_218 = true := by decide +kernel
set_option maxRecDepth 100000 in
theorem po_219 : sOkT pPT pm_219 = true := by decide +kernel
set_option maxRecDepth 100000 in
theorem po_220 : sOkT pPT pm_220 = true := by decide +kernel
set_option maxRecDepth 100000 in
theorem po_221 : sOkT pPT pm_221 = true := by decide +kernel
set_option maxRecDepth 100000 in
theorem po_222 : sOkT pPT pm_222 = true := by decide +kernel
set_option maxRecDepth 100000 in
theorem po_223 : sOkT pPT pm_223 = true := by decide +kernel
set_option maxRecDepth 100000 in
theorem po_224_0 : (((mT pm_224).drop 0).take 5).all (fun c => c.2.all (sOkE pPT pm_224)) = true := by decide +kernel
set_option maxRecDepth 100000 in
theorem po_224_5 : (((mT pm_224).drop 5).take 5).all (fun c => c.2.all (sOkE pPT pm_224)) = true := by decide +kernel
set_option maxRecDepth 100000 in
theorem po_224 : sOkT pPT pm_224 = true := fPc 0 5 (b := 5) rfl po_224_0 (fPc 5 5 (b := 10) rfl po_224_5 (rfl))
set_option maxRecDepth 100000 in
theorem po_225 : sOkT pPT pm_225 = true := by decide +kernel
set_option maxRecDepth 100000 in
theorem po_226 : sOkT pPT pm_226 = true := by decide +kernel
set_option maxRecDepth 100000 in
theorem po_227 : sOkT pPT pm_227 = true := by decide +kernel
set_option maxRecDepth 100000 in
theorem po_228 : sOkT pPT pm_228 = true := by decide +kernel
set_option maxRecDepth 100000 in
theorem po_229 : sOkT pPT pm_229 = true := by decide +kernel
set_option maxRecDepth 100000 in
theorem po_230_0 : (((mT pm_230).drop 0).take 5).all (fun c => c.2.all (sOkE pPT pm_230)) = true := by decide +kernel
set_option maxRecDepth 100000 in
theorem po_230_5 : (((mT pm_230).drop 5).take 5).all (fun c => c.2.all (sOkE pPT pm_230)) = true := by decide +kernel
set_option maxRecDepth 100000 in
theorem po_230 : sOkT pPT pm_230 = true := fPc 0 5 (b := 5) rfl po_230_0 (fPc 5 5 (b := 10) rfl po_230_5 (rfl))
set_option maxRecDepth 100000 in
theorem po_231 : sOkT pPT pm_231 = true := by decide +kernel
set_option maxRecDepth 100000 in
theorem po_232 : sOkT pPT pm_232 = true := by decide +kernel
set_option maxRecDepth 100000 in
theorem po_233 : sOkT pPT pm_233 = true := by decide +kernel
set_option maxRecDepth 100000 in
theorem po_234 : sOkT pPT pm_234 = true := by decide +kernel
set_option maxRecDepth 100000 in
theorem po_235 : sOkT pPT pm_235 = true := by decide +kernel
set_option maxRecDepth 100000 in
theorem po_236 : sOkT pPT pm_236 = true := by decide +kernel
set_option maxRecDepth 100000 in
theorem po_237_0 : (((mT pm_237).drop 0).take 5).all (fun c => c.2.all (sOkE pPT pm_237)) = true := by decide +kernel
set_option maxRecDepth 100000 in
theorem po_237_5 : (((mT pm_237).drop 5).take 5).all (fun c => c.2.all (sOkE pPT pm_237)) = true := by decide +kernel
set_option maxRecDepth 100000 in
theorem po_237 : sOkT pPT pm_237 = true := fPc 0 5 (b := 5) rfl po_237_0 (fPc 5 5 (b := 10) rfl po_237_5 (rfl))
set_option maxRecDepth 100000 in
theorem po_238 : sOkT pPT pm_238 = true := by decide +kernel
set_option maxRecDepth 100000 in
theorem po_239 : sOkT pPT pm_239 = true := by decide +kernel
set_option maxRecDepth 100000 in
theorem po_240 : sOkT pPT pm_240 = true := by decide +kernel
set_option maxRecDepth 100000 in
theorem po_241 : sOkT pPT pm_241 = true := by decide +kernel
set_option maxRecDepth 100000 in
theorem po_242 : sOkT pPT pm_242 = true := by decide +kernel
set_option maxRecDepth 100000 in
theorem po_243 : sOkT pPT pm_243 = true := by decide +kernel
set_option maxRecDepth 100000 in
theorem po_244 : sOkT pPT pm_244 = true := by decide +kernel
set_option maxRecDepth 100000 in
theorem po_245 : sOkT pPT pm_245 = true := by decide +kernel
set_option maxRecDepth 100000 in
theorem po_246 : sOkT pPT pm_246 = true := by decide +kernel
set_option maxRecDepth 100000 in
theorem po_247 : sOkT pPT pm_247 = true := by decide +kernel
set_option maxRecDepth 100000 in
theorem po_248 : sOkT pPT pm_248 = true := by decide +kernel
set_option maxRecDepth 100000 in
theorem po_249 : sOkT pPT pm_249 = true := by decide +kernel
set_option maxRecDepth 100000 in
theorem po_250 : sOkT pPT pm_250 = true := by decide +kernel
set_option maxRecDepth 100000 in
theorem po_251 : sOkT pPT pm_251 = true := by decide +kernel
set_option maxRecDepth 100000 in
theorem po_252 : sOkT pPT pm_252 = true := by decide +kernel
set_option maxRecDepth 100000 in
theorem po_253 : sOkT pPT pm_253 = true := by decide +kernel
set_option maxRecDepth 100000 in
theorem po_254 : sOkT pPT pm_254 = true := by decide +kernel
set_option maxRecDepth 100000 in
theorem po_255 : sOkT pPT pm_255 = true := by decide +kernel
set_option maxRecDepth 100000 in
theorem po_256 : sOkT pPT pm_256 = true := by decide +kernel
set_option maxRecDepth 100000 in
theorem po_257 : sOkT pPT pm_257 = true := by decide +kernel
set_option maxRecDepth 100000 in
theorem po_258 : sOkT pPT pm_258 = true := by decide +kernel
set_option maxRecDepth 100000 in
theorem po_259 : sOkT pPT pm_259 = true := by decide +kernel
set_option maxRecDepth 100000 in
theorem po_260 : sOkT pPT pm_260 = true := by decide +kernel
set_option maxRecDepth 100000 in
theorem po_261 : sOkT pPT pm_261 = true := by decide +kernel
set_option maxRecDepth 100000 in
theorem po_262 : sOkT pPT pm_262 = true := by decide +kernel
set_option maxRecDepth 100000 in
theorem po_263 : sOkT pPT pm_263 = true := by decide +kernel
set_option maxRecDepth 100000 in
theorem po_264 : sOkT pPT pm_264 = true := by decide +kernel
set_option maxRecDepth 100000 in
theorem po_265 : sOkT pPT pm_265 = true := by decide +kernel
set_option maxRecDepth 100000 in
theorem po_266 : sOkT pPT pm_266 = true := by decide +kernel
set_option maxRecDepth 100000 in
theorem po_267 : sOkT pPT pm_267 = true := by decide +kernel
set_option maxRecDepth 100000 in
theorem po_268 : sOkT pPT pm_268 = true := by decide +kernel
set_option maxRecDepth 100000 in
theorem po_269 : sOkT pPT pm_269 = true := by decide +kernel
set_option maxRecDepth 100000 in
theorem po_270 : sOkT pPT pm_270 = true := by decide +kernel
set_option maxRecDepth 100000 in
theorem po_271 : sOkT pPT pm_271 = true := by decide +kernel
set_option maxRecDepth 100000 in
theorem po_272 : sOkT pPT pm_272 = true := by decide +kernel
set_option maxRecDepth 100000 in
theorem po_273 : sOkT pPT pm_273 = true := by decide +kernel
set_option maxRecDepth 100000 in
theorem po_274 : sOkT pPT pm_274 = true := by decide +kernel
set_option maxRecDepth 100000 in
theorem po_275 : sOkT pPT pm_275 = true := by decide +kernel
set_option maxRecDepth 100000 in
theorem po_276 : sOkT pPT pm_276 = true := by decide +kernel
set_option maxRecDepth 100000 in
theorem po_277 : sOkT pPT pm_277 = true := by decide +kernel
set_option maxRecDepth 100000 in
theorem po_278 : sOkT pPT pm_278 = true := by decide +kernel
set_option maxRecDepth 100000 in
theorem po_279 : sOkT pPT pm_279 = true := by decide +kernel
set_option maxRecDepth 100000 in
theorem po_280 : sOkT pPT pm_280 = true := by decide +kernel
set_option maxRecDepth 100000 in
theorem po_281 : sOkT pPT pm_281 = true := by decide +kernel
set_option maxRecDepth 100000 in
theorem po_282 : sOkT pPT pm_282 = true := by decide +kernel
set_option maxRecDepth 100000 in
theorem po_283 : sOkT pPT pm_283 = true := by decide +kernel
set_option maxRecDepth 100000 in
theorem po_284 : sOkT pPT pm_284 = true := by decide +kernel
set_option maxRecDepth 100000 in
theorem po_285 : sOkT pPT pm_285 = true := by decide +kernel
set_option maxRecDepth 100000 in
theorem po_286 : sOkT pPT pm_286 = true := by decide +kernel
