/-! ===== the rows are what the code says: methods 52 and on ===== -/
set_option maxRecDepth 100000 in
theorem po_52 : sOkT pPT pm_52 = true := by decide +kernel
set_option maxRecDepth 100000 in
theorem po_53 : sOkT pPT pm_53 = true := by decide +kernel
set_option maxRecDepth 100000 in
theorem po_54 : sOkT pPT pm_54 = true := by decide +kernel
set_option maxRecDepth 100000 in
theorem po_55 : sOkT pPT pm_55 = true := by decide +kernel
set_option maxRecDepth 100000 in
theorem po_56 : sOkT pPT pm_56 = true := by decide +kernel
set_option maxRecDepth 100000 in
theorem po_57 : sOkT pPT pm_57 = true := by decide +kernel
set_option maxRecDepth 100000 in
theorem po_58 : sOkT pPT pm_58 = true := by decide +kernel
set_option maxRecDepth 100000 in
theorem po_59 : sOkT pPT pm_59 = true := by decide +kernel
set_option maxRecDepth 100000 in
theorem po_60 : sOkT pPT pm_60 = true := by decide +kernel
set_option maxRecDepth 100000 in
theorem po_61 : sOkT pPT pm_61 = true := by decide +kernel
set_option maxRecDepth 100000 in
theorem po_62_0 : (((mT pm_62).drop 0).take 5).all (fun c => c.2.all (sOkE pPT pm_62)) = true := by decide +kernel
set_option maxRecDepth 100000 in
theorem po_62_5 : (((mT pm_62).drop 5).take 5).all (fun c => c.2.all (sOkE pPT pm_62)) = true := by decide +kernel
set_option maxRecDepth 100000 in
theorem po_62 : sOkT pPT pm_62 = true := fPc 0 5 (b := 5) rfl po_62_0 (fPc 5 5 (b := 10) rfl po_62_5 (rfl))
set_option maxRecDepth 100000 in
theorem po_63 : sOkT pPT pm_63 = true := by decide +kernel
set_option maxRecDepth 100000 in
theorem po_64 : sOkT pPT pm_64 = true := by decide +kernel
set_option maxRecDepth 100000 in
theorem po_65 : sOkT pPT pm_65 = true := by decide +kernel
set_option maxRecDepth 100000 in
theorem po_66 : sOkT pPT pm_66 = true := by decide +kernel
set_option maxRecDepth 100000 in
theorem po_67_0 : (((mT pm_67).drop 0).take 5).all (fun c => c.2.all (sOkE pPT pm_67)) = true := by decide +kernel
set_option maxRecDepth 100000 in
theorem po_67_5 : (((mT pm_67).drop 5).take 5).all (fun c => c.2.all (sOkE pPT pm_67)) = true := by decide +kernel
set_option maxRecDepth 100000 in
theorem po_67 : sOkT pPT pm_67 = true := fPc 0 5 (b := 5) rfl po_67_0 (fPc 5 5 (b := 10) rfl po_67_5 (rfl))
set_option maxRecDepth 100000 in
theorem po_68 : sOkT pPT pm_68 = true := by decide +kernel
set_option maxRecDepth 100000 in
theorem po_69_0 : (((mT pm_69).drop 0).take 5).all (fun c => c.2.all (sOkE pPT pm_69)) = true := by decide +kernel
set_option maxRecDepth 100000 in
theorem po_69_5 : (((mT pm_69).drop 5).take 5).all (fun c => c.2.all (sOkE pPT pm_69)) = true := by decide +kernel
set_option maxRecDepth 100000 in
theorem po_69 : sOkT pPT pm_69 = true := fPc 0 5 (b := 5) rfl po_69_0 (fPc 5 5 (b := 10) rfl po_69_5 (rfl))
set_option maxRecDepth 100000 in
theorem po_70_0 : (((mT pm_70).drop 0).take 5).all (fun c => c.2.all (sOkE pPT pm_70)) = true := by decide +kernel
set_option maxRecDepth 100000 in
theorem po_70_5 : (((mT pm_70).drop 5).take 5).all (fun c => c.2.all (sOkE pPT pm_70)) = true := by decide +kernel
set_option maxRecDepth 100000 in
theorem po_70 : sOkT pPT pm_70 = true := fPc 0 5 (b := 5) rfl po_70_0 (fPc 5 5 (b := 10) rfl po_70_5 (rfl))
set_option maxRecDepth 100000 in
theorem po_71 : sOkT pPT pm_71 = true := by decide +kernel
set_option maxRecDepth 100000 in
theorem po_72 : sOkT pPT pm_72 = true := by decide +kernel
set_option maxRecDepth 100000 in
theorem po_73_0 : (((mT pm_73).drop 0).take 5).all (fun c => c.2.all (sOkE pPT pm_73)) = true := by decide +kernel
set_option maxRecDepth 100000 in
theorem po_73_5 : (((mT pm_73).drop 5).take 5).all (fun c => c.2.all (sOkE pPT pm_73)) = true := by decide +kernel
set_option maxRecDepth 100000 in
theorem po_73 : sOkT pPT pm_73 = true := fPc 0 5 (b := 5) rfl po_73_0 (fPc 5 5 (b := 10) rfl po_73_5 (rfl))
set_option maxRecDepth 100000 in
theorem po_74 : sOkT pPT pm_74 = true := by decide +kernel
set_option maxRecDepth 100000 in
theorem po_75 : sOkT pPT pm_75 = true := by decide +kernel
set_option maxRecDepth 100000 in
theorem po_76 : sOkT pPT pm_76 = true := by decide +kernel
set_option maxRecDepth 100000 in
theorem po_77 : sOkT pPT pm_77 = true := by decide +kernel
set_option maxRecDepth 100000 in
theorem po_78 : sOkT pPT pm_78 = true := by decide +kernel
set_option maxRecDepth 100000 in
theorem po_79_0 : (((mT pm_79).drop 0).take 5).all (fun c => c.2.all (sOkE pPT pm_79)) = true := by decide +kernel
set_option maxRecDepth 100000 in
theorem po_79_5 : (((mT pm_79).drop 5).take 5).all (fun c => c.2.all (sOkE pPT pm_79)) = true := by decide +kernel
set_option maxRecDepth 100000 in
theorem po_79 : sOkT pPT pm_79 = true := fPc 0 5 (b := 5) rfl po_79_0 (fPc 5 5 (b := 10) rfl po_79_5 (rfl))
set_option maxRecDepth 100000 in
theorem po_80 : sOkT pPT pm_80 = true := by decide +kernel
set_option maxRecDepth 100000 in
theorem po_81_0 : (((mT pm_81).drop 0).take 5).all (fun c => c.2.all (sOkE pPT pm_81)) = true := by decide +kernel
set_option maxRecDepth 100000 in
theorem po_81_5 : (((mT pm_81).drop 5).take 5).all (fun c => c.2.all (sOkE pPT pm_81)) = true := by decide +kernel
set_option maxRecDepth 100000 in
theorem po_81 : sOkT pPT pm_81 = true := fPc 0 5 (b := 5) rfl po_81_0 (fPc 5 5 (b := 10) rfl po_81_5 (rfl))
set_option maxRecDepth 100000 in
theorem po_82 : sOkT pPT pm_82 = true := by decide +kernel
set_option maxRecDepth 100000 in
theorem po_83 : sOkT pPT pm_83 = true := by decide +kernel
set_option maxRecDepth 100000 in
theorem po_84 : sOkT pPT pm_84 = true := by decide +kernel
set_option maxRecDepth 100000 in
theorem po_85 : sOkT pPT pm_85 = true := by decide +kernel
set_option maxRecDepth 100000 in
theorem po_86 : sOkT pPT pm_86 = true := by decide +kernel
set_option maxRecDepth 100000 in
theorem po_87 : sOkT pPT pm_87 = true := by decide +kernel
set_option maxRecDepth 100000 in
theorem po_88 : sOkT pPT pm_88 = true := by decide +kernel
set_option maxRecDepth 100000 in
theorem po_89_0 : (((mT pm_89).drop 0).take 5).all (fun c => c.2.all (sOkE pPT pm_89)) = true := by decide +kernel
set_option maxRecDepth 100000 in
theorem po_89_5 : (((mT pm_89).drop 5).take 5).all (fun c => c.2.all (sOkE pPT pm_89)) = true := by decide +kernel
set_option maxRecDepth 100000 in
theorem po_89 : sOkT pPT pm_89 = true := fPc 0 5 (b := 5) rfl po_89_0 (fPc 5 5 (b := 10) rfl po_89_5 (rfl))
set_option maxRecDepth 100000 in
theorem po_90 : sOkT pPT pm_90 = true := by decide +kernel
set_option maxRecDepth 100000 in
theorem po_91 : sOkT pPT pm_91 = true := by decide +kernel
set_option maxRecDepth 100000 in
theorem po_92_0 : (((mT pm_92).drop 0).take 5).all (fun c => c.2.all (sOkE pPT pm_92)) = true := by decide +kernel
set_option maxRecDepth 100000 in
theorem po_92_5 : (((mT pm_92).drop 5).take 5).all (fun c => c.2.all (sOkE pPT pm_92)) = true := by decide +kernel
set_option maxRecDepth 100000 in
theorem po_92 : sOkT pPT pm_92 = true := fPc 0 5 (b := 5) rfl po_92_0 (fPc 5 5 (b := 10) rfl po_92_5 (rfl))
set_option maxRecDepth 100000 in
theorem po_93 : sOkT pPT pm_93 = true := by decide +kernel
set_option maxRecDepth 100000 in
theorem po_94 : sOkT pPT pm_94 = true := by decide +kernel
set_option maxRecDepth 100000 in
theorem po_95 : sOkT pPT pm_95 = true := by decide +kernel
set_option maxRecDepth 100000 in
theorem po_96 : sOkT pPT pm_96 = true := by decide +kernel
set_option maxRecDepth 100000 in
theorem po_97 : sOkT pPT pm_97 = true := by decide +kernel
set_option maxRecDepth 100000 in
theorem po_98 : sOkT pPT pm_98 = true := by decide +kernel
set_option maxRecDepth 100000 in
theorem po_99 : sOkT pPT pm_99 = true := by decide +kernel
