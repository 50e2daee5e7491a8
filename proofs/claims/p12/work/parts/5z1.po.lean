/-! ===== the rows are what the code says: methods 0 and on ===== -/
theorem fPc {α : Type} {l : List α} {f : α → Bool} {b : Nat} (a n : Nat) (hb : b = a + n) (h1 : ((l.drop a).take n).all f = true) (h2 : (l.drop b).all f = true) : (l.drop a).all f = true := by
  subst hb
  have h3 : ((l.drop a).drop n).all f = true := by
    rw [List.drop_drop]
    exact h2
  rw [← List.take_append_drop n (l.drop a), List.all_append, h1, h3]
  rfl
set_option maxRecDepth 100000 in
theorem po_0_0 : (((mT pm_0).drop 0).take 3).all (fun c => c.2.all (sOkE pPT pm_0)) = true := by decide +kernel
set_option maxRecDepth 100000 in
theorem po_0_3 : (((mT pm_0).drop 3).take 3).all (fun c => c.2.all (sOkE pPT pm_0)) = true := by decide +kernel
set_option maxRecDepth 100000 in
theorem po_0_6 : (((mT pm_0).drop 6).take 3).all (fun c => c.2.all (sOkE pPT pm_0)) = true := by decide +kernel
set_option maxRecDepth 100000 in
theorem po_0_9 : (((mT pm_0).drop 9).take 3).all (fun c => c.2.all (sOkE pPT pm_0)) = true := by decide +kernel
set_option maxRecDepth 100000 in
theorem po_0_12 : (((mT pm_0).drop 12).take 3).all (fun c => c.2.all (sOkE pPT pm_0)) = true := by decide +kernel
set_option maxRecDepth 100000 in
theorem po_0_15 : (((mT pm_0).drop 15).take 3).all (fun c => c.2.all (sOkE pPT pm_0)) = true := by decide +kernel
set_option maxRecDepth 100000 in
theorem po_0_18 : (((mT pm_0).drop 18).take 3).all (fun c => c.2.all (sOkE pPT pm_0)) = true := by decide +kernel
set_option maxRecDepth 100000 in
theorem po_0_21 : (((mT pm_0).drop 21).take 3).all (fun c => c.2.all (sOkE pPT pm_0)) = true := by decide +kernel
set_option maxRecDepth 100000 in
theorem po_0_24 : (((mT pm_0).drop 24).take 3).all (fun c => c.2.all (sOkE pPT pm_0)) = true := by decide +kernel
set_option maxRecDepth 100000 in
theorem po_0_27 : (((mT pm_0).drop 27).take 3).all (fun c => c.2.all (sOkE pPT pm_0)) = true := by decide +kernel
set_option maxRecDepth 100000 in
theorem po_0_30 : (((mT pm_0).drop 30).take 3).all (fun c => c.2.all (sOkE pPT pm_0)) = true := by decide +kernel
set_option maxRecDepth 100000 in
theorem po_0_33 : (((mT pm_0).drop 33).take 3).all (fun c => c.2.all (sOkE pPT pm_0)) = true := by decide +kernel
set_option maxRecDepth 100000 in
theorem po_0_36 : (((mT pm_0).drop 36).take 3).all (fun c => c.2.all (sOkE pPT pm_0)) = true := by decide +kernel
set_option maxRecDepth 100000 in
theorem po_0_39 : (((mT pm_0).drop 39).take 3).all (fun c => c.2.all (sOkE pPT pm_0)) = true := by decide +kernel
set_option maxRecDepth 100000 in
theorem po_0_42 : (((mT pm_0).drop 42).take 3).all (fun c => c.2.all (sOkE pPT pm_0)) = true := by decide +kernel
set_option maxRecDepth 100000 in
theorem po_0_45 : (((mT pm_0).drop 45).take 3).all (fun c => c.2.all (sOkE pPT pm_0)) = true := by decide +kernel
set_option maxRecDepth 100000 in
theorem po_0_48 : (((mT pm_0).drop 48).take 3).all (fun c => c.2.all (sOkE pPT pm_0)) = true := by decide +kernel
set_option maxRecDepth 100000 in
theorem po_0_51 : (((mT pm_0).drop 51).take 3).all (fun c => c.2.all (sOkE pPT pm_0)) = true := by decide +kernel
set_option maxRecDepth 100000 in
theorem po_0_54 : (((mT pm_0).drop 54).take 3).all (fun c => c.2.all (sOkE pPT pm_0)) = true := by decide +kernel
set_option maxRecDepth 100000 in
theorem po_0_57 : (((mT pm_0).drop 57).take 3).all (fun c => c.2.all (sOkE pPT pm_0)) = true := by decide +kernel
set_option maxRecDepth 100000 in
theorem po_0_60 : (((mT pm_0).drop 60).take 3).all (fun c => c.2.all (sOkE pPT pm_0)) = true := by decide +kernel
set_option maxRecDepth 100000 in
theorem po_0_63 : (((mT pm_0).drop 63).take 3).all (fun c => c.2.all (sOkE pPT pm_0)) = true := by decide +kernel
set_option maxRecDepth 100000 in
theorem po_0_66 : (((mT pm_0).drop 66).take 3).all (fun c => c.2.all (sOkE pPT pm_0)) = true := by decide +kernel
set_option maxRecDepth 100000 in
theorem po_0 : sOkT pPT pm_0 = true := fPc 0 3 (b := 3) rfl po_0_0 (fPc 3 3 (b := 6) rfl po_0_3 (fPc 6 3 (b := 9) rfl po_0_6 (fPc 9 3 (b := 12) rfl po_0_9 (fPc 12 3 (b := 15) rfl po_0_12 (fPc 15 3 (b := 18) rfl po_0_15 (fPc 18 3 (b := 21) rfl po_0_18 (fPc 21 3 (b := 24) rfl po_0_21 (fPc 24 3 (b := 27) rfl po_0_24 (fPc 27 3 (b := 30) rfl po_0_27 (fPc 30 3 (b := 33) rfl po_0_30 (fPc 33 3 (b := 36) rfl po_0_33 (fPc 36 3 (b := 39) rfl po_0_36 (fPc 39 3 (b := 42) rfl po_0_39 (fPc 42 3 (b := 45) rfl po_0_42 (fPc 45 3 (b := 48) rfl po_0_45 (fPc 48 3 (b := 51) rfl po_0_48 (fPc 51 3 (b := 54) rfl po_0_51 (fPc 54 3 (b := 57) rfl po_0_54 (fPc 57 3 (b := 60) rfl po_0_57 (fPc 60 3 (b := 63) rfl po_0_60 (fPc 63 3 (b := 66) rfl po_0_63 (fPc 66 3 (b := 69) rfl po_0_66 (rfl)))))))))))))))))))))))
