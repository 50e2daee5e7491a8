/-! ===== the law's calls ===== -/
set_option maxRecDepth 100000 in
theorem cs_16 : sCas pPT [i_353, i_355] [] 32 500 lU lC 851 = true := by decide +kernel
