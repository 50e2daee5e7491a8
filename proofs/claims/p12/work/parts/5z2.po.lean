/-! ===== the rows are what the code says: methods 1 and on ===== -/
set_option maxRecDepth 100000 in
theorem po_1 : sOkT pPT pm_1 = true := by decide +kernel
set_option maxRecDepth 100000 in
theorem po_2 : sOkT pPT pm_2 = true := by decide +kernel
set_option maxRecDepth 100000 in
theorem po_3 : sOkT pPT pm_3 = true := by decide +kernel
set_option maxRecDepth 100000 in
theorem po_4 : sOkT pPT pm_4 = true := by decide +kernel
set_option maxRecDepth 100000 in
theorem po_5 : sOkT pPT pm_5 = true := by decide +kernel
set_option maxRecDepth 100000 in
theorem po_6 : sOkT pPT pm_6 = true := by decide +kernel
set_option maxRecDepth 100000 in
theorem po_7 : sOkT pPT pm_7 = true := by decide +kernel
set_option maxRecDepth 100000 in
theorem po_8 : sOkT pPT pm_8 = true := by decide +kernel
set_option maxRecDepth 100000 in
theorem po_9 : sOkT pPT pm_9 = true := by decide +kernel
set_option maxRecDepth 100000 in
theorem po_10 : sOkT pPT pm_10 = true := by decide +kernel
set_option maxRecDepth 100000 in
theorem po_11 : sOkT pPT pm_11 = true := by decide +kernel
set_option maxRecDepth 100000 in
theorem po_12 : sOkT pPT pm_12 = true := by decide +kernel
set_option maxRecDepth 100000 in
theorem po_13 : sOkT pPT pm_13 = true := by decide +kernel
set_option maxRecDepth 100000 in
theorem po_14 : sOkT pPT pm_14 = true := by decide +kernel
set_option maxRecDepth 100000 in
theorem po_15 : sOkT pPT pm_15 = true := by decide +kernel
set_option maxRecDepth 100000 in
theorem po_16 : sOkT pPT pm_16 = true := by decide +kernel
set_option maxRecDepth 100000 in
theorem po_17 : sOkT pPT pm_17 = true := by decide +kernel
set_option maxRecDepth 100000 in
theorem po_18 : sOkT pPT pm_18 = true := by decide +kernel
set_option maxRecDepth 100000 in
theorem po_19 : sOkT pPT pm_19 = true := by decide +kernel
set_option maxRecDepth 100000 in
theorem po_20 : sOkT pPT pm_20 = true := by decide +kernel
set_option maxRecDepth 100000 in
theorem po_21 : sOkT pPT pm_21 = true := by decide +kernel
set_option maxRecDepth 100000 in
theorem po_22 : sOkT pPT pm_22 = true := by decide +kernel
set_option maxRecDepth 100000 in
theorem po_23 : sOkT pPT pm_23 = true := by decide +kernel
set_option maxRecDepth 100000 in
theorem po_24 : sOkT pPT pm_24 = true := by decide +kernel
set_option maxRecDepth 100000 in
theorem po_25 : sOkT pPT pm_25 = true := by decide +kernel
set_option maxRecDepth 100000 in
theorem po_26 : sOkT pPT pm_26 = true := by decide +kernel
set_option maxRecDepth 100000 in
theorem po_27 : sOkT pPT pm_27 = true := by decide +kernel
set_option maxRecDepth 100000 in
theorem po_28 : sOkT pPT pm_28 = true := by decide +kernel
set_option maxRecDepth 100000 in
theorem po_29 : sOkT pPT pm_29 = true := by decide +kernel
set_option maxRecDepth 100000 in
theorem po_30 : sOkT pPT pm_30 = true := by decide +kernel
set_option maxRecDepth 100000 in
theorem po_31 : sOkT pPT pm_31 = true := by decide +kernel
set_option maxRecDepth 100000 in
theorem po_32 : sOkT pPT pm_32 = true := by decide +kernel
set_option maxRecDepth 100000 in
theorem po_33 : sOkT pPT pm_33 = true := by decide +kernel
set_option maxRecDepth 100000 in
theorem po_34 : sOkT pPT pm_34 = true := by decide +kernel
set_option maxRecDepth 100000 in
theorem po_35 : sOkT pPT pm_35 = true := by decide +kernel
set_option maxRecDepth 100000 in
theorem po_36 : sOkT pPT pm_36 = true := by decide +kernel
set_option maxRecDepth 100000 in
theorem po_37 : sOkT pPT pm_37 = true := by decide +kernel
set_option maxRecDepth 100000 in
theorem po_38 : sOkT pPT pm_38 = true := by decide +kernel
set_option maxRecDepth 100000 in
theorem po_39 : sOkT pPT pm_39 = true := by decide +kernel
set_option maxRecDepth 100000 in
theorem po_40 : sOkT pPT pm_40 = true := by decide +kernel
set_option maxRecDepth 100000 in
theorem po_41 : sOkT pPT pm_41 = true := by decide +kernel
set_option maxRecDepth 100000 in
theorem po_42 : sOkT pPT pm_42 = true := by decide +kernel
set_option maxRecDepth 100000 in
theorem po_43 : sOkT pPT pm_43 = true := by decide +kernel
set_option maxRecDepth 100000 in
theorem po_44_0 : (((mT pm_44).drop 0).take 5).all (fun c => c.2.all (sOkE pPT pm_44)) = true := by decide +kernel
set_option maxRecDepth 100000 in
theorem po_44_5 : (((mT pm_44).drop 5).take 5).all (fun c => c.2.all (sOkE pPT pm_44)) = true := by decide +kernel
set_option maxRecDepth 100000 in
theorem po_44 : sOkT pPT pm_44 = true := fPc 0 5 (b := 5) rfl po_44_0 (fPc 5 5 (b := 10) rfl po_44_5 (rfl))
set_option maxRecDepth 100000 in
theorem po_45 : sOkT pPT pm_45 = true := by decide +kernel
set_option maxRecDepth 100000 in
theorem po_46 : sOkT pPT pm_46 = true := by decide +kernel
set_option maxRecDepth 100000 in
theorem po_47 : sOkT pPT pm_47 = true := by decide +kernel
set_option maxRecDepth 100000 in
theorem po_48 : sOkT pPT pm_48 = true := by decide +kernel
set_option maxRecDepth 100000 in
theorem po_49 : sOkT pPT pm_49 = true := by decide +kernel
set_option maxRecDepth 100000 in
theorem po_50 : sOkT pPT pm_50 = true := by decide +kernel
set_option maxRecDepth 100000 in
theorem po_51 : sOkT pPT pm_51 = true := by decide +kernel
set_option maxRecDepth 100000 in
theorem po_52_0 : (((mT pm_52).drop 0).take 5).all (fun c => c.2.all (sOkE pPT pm_52)) = true := by decide +kernel
set_option maxRecDepth 100000 in
theorem po_52_5 : (((mT pm_52).drop 5).take 5).all (fun c => c.2.all (sOkE pPT pm_52)) = true := by decide +kernel
set_option maxRecDepth 100000 in
theorem po_52 : sOkT pPT pm_52 = true := fPc 0 5 (b := 5) rfl po_52_0 (fPc 5 5 (b := 10) rfl po_52_5 (rfl))
set_option maxRecDepth 100000 in
theorem po_53 : sOkT pPT pm_53 = true := by decide +kernel
set_option maxRecDepth 100000 in
theorem po_54 : sOkT pPT pm_54 = true := by decide +kernel
set_option maxRecDepth 100000 in
theorem po_55 : sOkT pPT pm_55 = true := by decide +kernel
set_option maxRecDepth 100000 in
theorem po_56 : sOkT pPT pm_56 = true := by decide +kernel
set_option maxRecDepth 100000 in
theorem po_57_0 : (((mT pm_57).drop 0).take 5).all (fun c => c.2.all (sOkE pPT pm_57)) = true := by decide +kernel
set_option maxRecDepth 100000 in
theorem po_57_5 : (((mT pm_57).drop 5).take 5).all (fun c => c.2.all (sOkE pPT pm_57)) = true := by decide +kernel
set_option maxRecDepth 100000 in
theorem po_57_10 : (((mT pm_57).drop 10).take 5).all (fun c => c.2.all (sOkE pPT pm_57)) = true := by decide +kernel
set_option maxRecDepth 100000 in
theorem po_57_15 : (((mT pm_57).drop 15).take 5).all (fun c => c.2.all (sOkE pPT pm_57)) = true := by decide +kernel
set_option maxRecDepth 100000 in
theorem po_57 : sOkT pPT pm_57 = true := fPc 0 5 (b := 5) rfl po_57_0 (fPc 5 5 (b := 10) rfl po_57_5 (fPc 10 5 (b := 15) rfl po_57_10 (fPc 15 5 (b := 20) rfl po_57_15 (rfl))))
set_option maxRecDepth 100000 in
theorem po_58 : sOkT pPT pm_58 = true := by decide +kernel
set_option maxRecDepth 100000 in
theorem po_59 : sOkT pPT pm_59 = true := by decide +kernel
set_option maxRecDepth 100000 in
theorem po_60 : sOkT pPT pm_60 = true := by decide +kernel
set_option maxRecDepth 100000 in
theorem po_61 : sOkT pPT pm_61 = true := by decide +kernel
set_option maxRecDepth 100000 in
theorem po_62 : sOkT pPT pm_62 = true := by decide +kernel
set_option maxRecDepth 100000 in
theorem po_63 : sOkT pPT pm_63 = true := by decide +kernel
set_option maxRecDepth 100000 in
theorem po_64 : sOkT pPT pm_64 = true := by decide +kernel
set_option maxRecDepth 100000 in
theorem po_65 : sOkT pPT pm_65 = true := by decide +kernel
set_option maxRecDepth 100000 in
theorem po_66 : sOkT pPT pm_66 = true := by decide +kernel
set_option maxRecDepth 100000 in
theorem po_67 : sOkT pPT pm_67 = true := by decide +kernel
set_option maxRecDepth 100000 in
theorem po_68 : sOkT pPT pm_68 = true := by decide +kernel
set_option maxRecDepth 100000 in
theorem po_69 : sOkT pPT pm_69 = true := by decide +kernel
