/-! ===== their contracts ===== -/
def pQ_0 (u : sCu) : Prop := ∃ (SM : List sIn) (H : gHt) (cu : List sCu) (n : Nat), (∀ I ∈ SM, sInOk pPT I) ∧ (∀ v ∈ cu, v ∈ us_0) ∧ sWhU pPT SM H i_0 (mR pm_161) cu n u = true
theorem q_0_0 : pQ_0 u_0_0 := ⟨_, _, _, _, (pS_nil), (pV_cons (List.mem_of_getElem? (i := 1) rfl) (pV_nil)), f_0_0⟩
theorem q_0_1 : pQ_0 u_0_1 := ⟨_, _, _, _, (pS_nil), (pV_cons (List.mem_of_getElem? (i := 2) rfl) (pV_nil)), f_0_1⟩
theorem q_0_2 : pQ_0 u_0_2 := ⟨_, _, _, _, (pS_nil), (pV_cons (List.mem_of_getElem? (i := 3) rfl) (pV_nil)), f_0_2⟩
theorem q_0_3 : pQ_0 u_0_3 := ⟨_, _, _, _, (pS_nil), (pV_cons (List.mem_of_getElem? (i := 4) rfl) (pV_nil)), f_0_3⟩
theorem q_0_4 : pQ_0 u_0_4 := ⟨_, _, _, _, (pS_nil), (pV_cons (List.mem_of_getElem? (i := 5) rfl) (pV_nil)), f_0_4⟩
theorem q_0_5 : pQ_0 u_0_5 := ⟨_, _, _, _, (pS_nil), (pV_cons (List.mem_of_getElem? (i := 6) rfl) (pV_nil)), f_0_5⟩
theorem q_0_6 : pQ_0 u_0_6 := ⟨_, _, _, _, (pS_nil), (pV_cons (List.mem_of_getElem? (i := 7) rfl) (pV_nil)), f_0_6⟩
theorem q_0_7 : pQ_0 u_0_7 := ⟨_, _, _, _, (pS_nil), (pV_cons (List.mem_of_getElem? (i := 8) rfl) (pV_nil)), f_0_7⟩
theorem q_0_8 : pQ_0 u_0_8 := ⟨_, _, _, _, (pS_nil), (pV_cons (List.mem_of_getElem? (i := 9) rfl) (pV_nil)), f_0_8⟩
theorem q_0_9 : pQ_0 u_0_9 := ⟨_, _, _, _, (pS_nil), (pV_cons (List.mem_of_getElem? (i := 8) rfl) (pV_nil)), f_0_9⟩
theorem qb_0_0 : ∀ u ∈ [u_0_0, u_0_1, u_0_2, u_0_3, u_0_4, u_0_5, u_0_6, u_0_7, u_0_8, u_0_9], pQ_0 u := pU_cons q_0_0 (pU_cons q_0_1 (pU_cons q_0_2 (pU_cons q_0_3 (pU_cons q_0_4 (pU_cons q_0_5 (pU_cons q_0_6 (pU_cons q_0_7 (pU_cons q_0_8 (pU_cons q_0_9 (pU_nil))))))))))
theorem ok_0 : sInOk pPT i_0 := sInst3 (M := pm_161) (cus := us_0) pOk pg_161 (by decide +kernel) ⟨_, _, _, _, (pS_nil), (pV_cons (List.mem_of_getElem? (i := 0) rfl) (pV_nil)), e_0⟩ (show ∀ u ∈ us_0, pQ_0 u from qb_0_0)
def pQ_1 (u : sCu) : Prop := ∃ (SM : List sIn) (H : gHt) (cu : List sCu) (n : Nat), (∀ I ∈ SM, sInOk pPT I) ∧ (∀ v ∈ cu, v ∈ us_1) ∧ sWhU pPT SM H i_1 (mR pm_160) cu n u = true
theorem q_1_0 : pQ_1 u_1_0 := ⟨_, _, _, _, (pS_nil), (pV_cons (List.mem_of_getElem? (i := 1) rfl) (pV_cons (List.mem_of_getElem? (i := 2) rfl) (pV_nil))), f_1_0⟩
theorem q_1_1 : pQ_1 u_1_1 := ⟨_, _, _, _, (pS_cons ok_0 (pS_nil)), (pV_cons (List.mem_of_getElem? (i := 3) rfl) (pV_cons (List.mem_of_getElem? (i := 4) rfl) (pV_cons (List.mem_of_getElem? (i := 5) rfl) (pV_nil)))), f_1_1⟩
theorem q_1_2 : pQ_1 u_1_2 := ⟨_, _, _, _, (pS_nil), (pV_cons (List.mem_of_getElem? (i := 0) rfl) (pV_nil)), f_1_2⟩
theorem q_1_3 : pQ_1 u_1_3 := ⟨_, _, _, _, (pS_nil), (pV_nil), f_1_3⟩
theorem q_1_4 : pQ_1 u_1_4 := ⟨_, _, _, _, (pS_nil), (pV_nil), f_1_4⟩
theorem q_1_5 : pQ_1 u_1_5 := ⟨_, _, _, _, (pS_nil), (pV_cons (List.mem_of_getElem? (i := 6) rfl) (pV_nil)), f_1_5⟩
theorem q_1_6 : pQ_1 u_1_6 := ⟨_, _, _, _, (pS_nil), (pV_cons (List.mem_of_getElem? (i := 6) rfl) (pV_nil)), f_1_6⟩
theorem qb_1_0 : ∀ u ∈ [u_1_0, u_1_1, u_1_2, u_1_3, u_1_4, u_1_5, u_1_6], pQ_1 u := pU_cons q_1_0 (pU_cons q_1_1 (pU_cons q_1_2 (pU_cons q_1_3 (pU_cons q_1_4 (pU_cons q_1_5 (pU_cons q_1_6 (pU_nil)))))))
theorem ok_1 : sInOk pPT i_1 := sInst3 (M := pm_160) (cus := us_1) pOk pg_160 (by decide +kernel) ⟨_, _, _, _, (pS_nil), (pV_cons (List.mem_of_getElem? (i := 0) rfl) (pV_nil)), e_1⟩ (show ∀ u ∈ us_1, pQ_1 u from qb_1_0)
theorem ok_2 : sInOk pPT i_2 := sInst3 (M := pm_167) (cus := []) pOk pg_167 (by decide +kernel) ⟨_, _, _, _, (pS_nil), pV_nil, e_2⟩ pU_nil
theorem ok_3 : sInOk pPT i_3 := sInst3 (M := pm_167) (cus := []) pOk pg_167 (by decide +kernel) ⟨_, _, _, _, (pS_nil), pV_nil, e_3⟩ pU_nil
theorem ok_4 : sInOk pPT i_4 := sInst3 (M := pm_167) (cus := []) pOk pg_167 (by decide +kernel) ⟨_, _, _, _, (pS_nil), pV_nil, e_4⟩ pU_nil
theorem ok_5 : sInOk pPT i_5 := sInst3 (M := pm_167) (cus := []) pOk pg_167 (by decide +kernel) ⟨_, _, _, _, (pS_nil), pV_nil, e_5⟩ pU_nil
theorem ok_6 : sInOk pPT i_6 := sInst3 (M := pm_167) (cus := []) pOk pg_167 (by decide +kernel) ⟨_, _, _, _, (pS_nil), pV_nil, e_6⟩ pU_nil
theorem ok_7 : sInOk pPT i_7 := sInst3 (M := pm_167) (cus := []) pOk pg_167 (by decide +kernel) ⟨_, _, _, _, (pS_nil), pV_nil, e_7⟩ pU_nil
theorem ok_8 : sInOk pPT i_8 := sInst3 (M := pm_167) (cus := []) pOk pg_167 (by decide +kernel) ⟨_, _, _, _, (pS_nil), pV_nil, e_8⟩ pU_nil
theorem ok_9 : sInOk pPT i_9 := sInst3 (M := pm_167) (cus := []) pOk pg_167 (by decide +kernel) ⟨_, _, _, _, (pS_nil), pV_nil, e_9⟩ pU_nil
theorem ok_10 : sInOk pPT i_10 := sInst3 (M := pm_167) (cus := []) pOk pg_167 (by decide +kernel) ⟨_, _, _, _, (pS_nil), pV_nil, e_10⟩ pU_nil
theorem ok_11 : sInOk pPT i_11 := sInst3 (M := pm_167) (cus := []) pOk pg_167 (by decide +kernel) ⟨_, _, _, _, (pS_nil), pV_nil, e_11⟩ pU_nil
def pQ_12 (u : sCu) : Prop := ∃ (SM : List sIn) (H : gHt) (cu : List sCu) (n : Nat), (∀ I ∈ SM, sInOk pPT I) ∧ (∀ v ∈ cu, v ∈ us_12) ∧ sWhU pPT SM H i_12 (mR pm_165) cu n u = true
theorem q_12_0 : pQ_12 u_12_0 := ⟨_, _, _, _, (pS_nil), (pV_nil), f_12_0⟩
theorem qb_12_0 : ∀ u ∈ [u_12_0], pQ_12 u := pU_cons q_12_0 (pU_nil)
theorem ok_12 : sInOk pPT i_12 := sInst3 (M := pm_165) (cus := us_12) pOk pg_165 (by decide +kernel) ⟨_, _, _, _, (pS_nil), (pV_cons (List.mem_of_getElem? (i := 0) rfl) (pV_nil)), e_12⟩ (show ∀ u ∈ us_12, pQ_12 u from qb_12_0)
theorem ok_13 : sInOk pPT i_13 := sInst3 (M := pm_167) (cus := []) pOk pg_167 (by decide +kernel) ⟨_, _, _, _, (pS_nil), pV_nil, e_13⟩ pU_nil
theorem ok_14 : sInOk pPT i_14 := sInst3 (M := pm_167) (cus := []) pOk pg_167 (by decide +kernel) ⟨_, _, _, _, (pS_nil), pV_nil, e_14⟩ pU_nil
theorem ok_15 : sInOk pPT i_15 := sInst3 (M := pm_167) (cus := []) pOk pg_167 (by decide +kernel) ⟨_, _, _, _, (pS_nil), pV_nil, e_15⟩ pU_nil
theorem ok_16 : sInOk pPT i_16 := sInst3 (M := pm_167) (cus := []) pOk pg_167 (by decide +kernel) ⟨_, _, _, _, (pS_nil), pV_nil, e_16⟩ pU_nil
theorem ok_17 : sInOk pPT i_17 := sInst3 (M := pm_167) (cus := []) pOk pg_167 (by decide +kernel) ⟨_, _, _, _, (pS_nil), pV_nil, e_17⟩ pU_nil
theorem ok_18 : sInOk pPT i_18 := sInst3 (M := pm_167) (cus := []) pOk pg_167 (by decide +kernel) ⟨_, _, _, _, (pS_nil), pV_nil, e_18⟩ pU_nil
theorem ok_19 : sInOk pPT i_19 := sInst3 (M := pm_167) (cus := []) pOk pg_167 (by decide +kernel) ⟨_, _, _, _, (pS_nil), pV_nil, e_19⟩ pU_nil
theorem ok_20 : sInOk pPT i_20 := sInst3 (M := pm_167) (cus := []) pOk pg_167 (by decide +kernel) ⟨_, _, _, _, (pS_nil), pV_nil, e_20⟩ pU_nil
def pQ_21 (u : sCu) : Prop := ∃ (SM : List sIn) (H : gHt) (cu : List sCu) (n : Nat), (∀ I ∈ SM, sInOk pPT I) ∧ (∀ v ∈ cu, v ∈ us_21) ∧ sWhU pPT SM H i_21 (mR pm_174) cu n u = true
theorem q_21_0 : pQ_21 u_21_0 := ⟨_, _, _, _, (pS_nil), (pV_cons (List.mem_of_getElem? (i := 2) rfl) (pV_nil)), f_21_0⟩
theorem q_21_1 : pQ_21 u_21_1 := ⟨_, _, _, _, (pS_nil), (pV_nil), f_21_1⟩
theorem q_21_2 : pQ_21 u_21_2 := ⟨_, _, _, _, (pS_nil), (pV_nil), f_21_2⟩
theorem qb_21_0 : ∀ u ∈ [u_21_0, u_21_1, u_21_2], pQ_21 u := pU_cons q_21_0 (pU_cons q_21_1 (pU_cons q_21_2 (pU_nil)))
theorem ok_21 : sInOk pPT i_21 := sInst3 (M := pm_174) (cus := us_21) pOk pg_174 (by decide +kernel) ⟨_, _, _, _, (pS_cons ok_12 (pS_nil)), (pV_cons (List.mem_of_getElem? (i := 0) rfl) (pV_cons (List.mem_of_getElem? (i := 1) rfl) (pV_nil))), e_21⟩ (show ∀ u ∈ us_21, pQ_21 u from qb_21_0)
theorem ok_22 : sInOk pPT i_22 := sInst3 (M := pm_187) (cus := []) pOk pg_187 (by decide +kernel) ⟨_, _, _, _, (pS_cons ok_1 (pS_nil)), pV_nil, e_22⟩ pU_nil
def pQ_23 (u : sCu) : Prop := ∃ (SM : List sIn) (H : gHt) (cu : List sCu) (n : Nat), (∀ I ∈ SM, sInOk pPT I) ∧ (∀ v ∈ cu, v ∈ us_23) ∧ sWhU pPT SM H i_23 (mR pm_178) cu n u = true
theorem q_23_0 : pQ_23 u_23_0 := ⟨_, _, _, _, (pS_nil), (pV_nil), f_23_0⟩
theorem qb_23_0 : ∀ u ∈ [u_23_0], pQ_23 u := pU_cons q_23_0 (pU_nil)
theorem ok_23 : sInOk pPT i_23 := sInst3 (M := pm_178) (cus := us_23) pOk pg_178 (by decide +kernel) ⟨_, _, _, _, (pS_cons ok_1 (pS_cons ok_12 (pS_cons ok_13 (pS_cons ok_14 (pS_cons ok_15 (pS_cons ok_16 (pS_cons ok_17 (pS_cons ok_18 (pS_cons ok_19 (pS_cons ok_20 (pS_cons ok_21 (pS_cons ok_22 (pS_nil))))))))))))), (pV_cons (List.mem_of_getElem? (i := 0) rfl) (pV_nil)), e_23⟩ (show ∀ u ∈ us_23, pQ_23 u from qb_23_0)
def pQ_24 (u : sCu) : Prop := ∃ (SM : List sIn) (H : gHt) (cu : List sCu) (n : Nat), (∀ I ∈ SM, sInOk pPT I) ∧ (∀ v ∈ cu, v ∈ us_24) ∧ sWhU pPT SM H i_24 (mR pm_165) cu n u = true
theorem q_24_0 : pQ_24 u_24_0 := ⟨_, _, _, _, (pS_nil), (pV_nil), f_24_0⟩
theorem qb_24_0 : ∀ u ∈ [u_24_0], pQ_24 u := pU_cons q_24_0 (pU_nil)
theorem ok_24 : sInOk pPT i_24 := sInst3 (M := pm_165) (cus := us_24) pOk pg_165 (by decide +kernel) ⟨_, _, _, _, (pS_nil), (pV_cons (List.mem_of_getElem? (i := 0) rfl) (pV_nil)), e_24⟩ (show ∀ u ∈ us_24, pQ_24 u from qb_24_0)
def pQ_25 (u : sCu) : Prop := ∃ (SM : List sIn) (H : gHt) (cu : List sCu) (n : Nat), (∀ I ∈ SM, sInOk pPT I) ∧ (∀ v ∈ cu, v ∈ us_25) ∧ sWhU pPT SM H i_25 (mR pm_165) cu n u = true
theorem q_25_0 : pQ_25 u_25_0 := ⟨_, _, _, _, (pS_nil), (pV_nil), f_25_0⟩
theorem qb_25_0 : ∀ u ∈ [u_25_0], pQ_25 u := pU_cons q_25_0 (pU_nil)
theorem ok_25 : sInOk pPT i_25 := sInst3 (M := pm_165) (cus := us_25) pOk pg_165 (by decide +kernel) ⟨_, _, _, _, (pS_nil), (pV_cons (List.mem_of_getElem? (i := 0) rfl) (pV_nil)), e_25⟩ (show ∀ u ∈ us_25, pQ_25 u from qb_25_0)
def pQ_26 (u : sCu) : Prop := ∃ (SM : List sIn) (H : gHt) (cu : List sCu) (n : Nat), (∀ I ∈ SM, sInOk pPT I) ∧ (∀ v ∈ cu, v ∈ us_26) ∧ sWhU pPT SM H i_26 (mR pm_179) cu n u = true
theorem q_26_0 : pQ_26 u_26_0 := ⟨_, _, _, _, (pS_cons ok_24 (pS_cons ok_25 (pS_nil))), (pV_cons (List.mem_of_getElem? (i := 1) rfl) (pV_cons (List.mem_of_getElem? (i := 2) rfl) (pV_cons (List.mem_of_getElem? (i := 3) rfl) (pV_nil)))), f_26_0⟩
theorem q_26_1 : pQ_26 u_26_1 := ⟨_, _, _, _, (pS_cons ok_24 (pS_nil)), (pV_cons (List.mem_of_getElem? (i := 4) rfl) (pV_cons (List.mem_of_getElem? (i := 5) rfl) (pV_nil))), f_26_1⟩
theorem q_26_2 : pQ_26 u_26_2 := ⟨_, _, _, _, (pS_cons ok_24 (pS_nil)), (pV_cons (List.mem_of_getElem? (i := 4) rfl) (pV_cons (List.mem_of_getElem? (i := 5) rfl) (pV_nil))), f_26_2⟩
theorem q_26_3 : pQ_26 u_26_3 := ⟨_, _, _, _, (pS_nil), (pV_nil), f_26_3⟩
theorem q_26_4 : pQ_26 u_26_4 := ⟨_, _, _, _, (pS_cons ok_1 (pS_cons ok_23 (pS_nil))), (pV_cons (List.mem_of_getElem? (i := 6) rfl) (pV_nil)), f_26_4⟩
theorem q_26_5 : pQ_26 u_26_5 := ⟨_, _, _, _, (pS_cons ok_1 (pS_cons ok_23 (pS_nil))), (pV_cons (List.mem_of_getElem? (i := 6) rfl) (pV_nil)), f_26_5⟩
theorem q_26_6 : pQ_26 u_26_6 := ⟨_, _, _, _, (pS_cons ok_24 (pS_cons ok_25 (pS_nil))), (pV_cons (List.mem_of_getElem? (i := 3) rfl) (pV_cons (List.mem_of_getElem? (i := 1) rfl) (pV_cons (List.mem_of_getElem? (i := 2) rfl) (pV_nil)))), f_26_6⟩
theorem q_26_7 : pQ_26 u_26_7 := ⟨_, _, _, _, (pS_cons ok_24 (pS_cons ok_25 (pS_nil))), (pV_cons (List.mem_of_getElem? (i := 3) rfl) (pV_cons (List.mem_of_getElem? (i := 1) rfl) (pV_cons (List.mem_of_getElem? (i := 2) rfl) (pV_nil)))), f_26_7⟩
theorem qb_26_0 : ∀ u ∈ [u_26_0, u_26_1, u_26_2, u_26_3, u_26_4, u_26_5, u_26_6, u_26_7], pQ_26 u := pU_cons q_26_0 (pU_cons q_26_1 (pU_cons q_26_2 (pU_cons q_26_3 (pU_cons q_26_4 (pU_cons q_26_5 (pU_cons q_26_6 (pU_cons q_26_7 (pU_nil))))))))
theorem ok_26 : sInOk pPT i_26 := sInst3 (M := pm_179) (cus := us_26) pOk pg_179 (by decide +kernel) ⟨_, _, _, _, (pS_cons ok_23 (pS_nil)), (pV_cons (List.mem_of_getElem? (i := 0) rfl) (pV_nil)), e_26⟩ (show ∀ u ∈ us_26, pQ_26 u from qb_26_0)
def pQ_27 (u : sCu) : Prop := ∃ (SM : List sIn) (H : gHt) (cu : List sCu) (n : Nat), (∀ I ∈ SM, sInOk pPT I) ∧ (∀ v ∈ cu, v ∈ us_27) ∧ sWhU pPT SM H i_27 (mR pm_165) cu n u = true
theorem q_27_0 : pQ_27 u_27_0 := ⟨_, _, _, _, (pS_nil), (pV_nil), f_27_0⟩
theorem qb_27_0 : ∀ u ∈ [u_27_0], pQ_27 u := pU_cons q_27_0 (pU_nil)
theorem ok_27 : sInOk pPT i_27 := sInst3 (M := pm_165) (cus := us_27) pOk pg_165 (by decide +kernel) ⟨_, _, _, _, (pS_nil), (pV_cons (List.mem_of_getElem? (i := 0) rfl) (pV_nil)), e_27⟩ (show ∀ u ∈ us_27, pQ_27 u from qb_27_0)
def pQ_28 (u : sCu) : Prop := ∃ (SM : List sIn) (H : gHt) (cu : List sCu) (n : Nat), (∀ I ∈ SM, sInOk pPT I) ∧ (∀ v ∈ cu, v ∈ us_28) ∧ sWhU pPT SM H i_28 (mR pm_165) cu n u = true
theorem q_28_0 : pQ_28 u_28_0 := ⟨_, _, _, _, (pS_nil), (pV_nil), f_28_0⟩
theorem qb_28_0 : ∀ u ∈ [u_28_0], pQ_28 u := pU_cons q_28_0 (pU_nil)
theorem ok_28 : sInOk pPT i_28 := sInst3 (M := pm_165) (cus := us_28) pOk pg_165 (by decide +kernel) ⟨_, _, _, _, (pS_nil), (pV_cons (List.mem_of_getElem? (i := 0) rfl) (pV_nil)), e_28⟩ (show ∀ u ∈ us_28, pQ_28 u from qb_28_0)
def pQ_29 (u : sCu) : Prop := ∃ (SM : List sIn) (H : gHt) (cu : List sCu) (n : Nat), (∀ I ∈ SM, sInOk pPT I) ∧ (∀ v ∈ cu, v ∈ us_29) ∧ sWhU pPT SM H i_29 (mR pm_183) cu n u = true
theorem q_29_0 : pQ_29 u_29_0 := ⟨_, _, _, _, (pS_cons ok_27 (pS_cons ok_28 (pS_nil))), (pV_cons (List.mem_of_getElem? (i := 1) rfl) (pV_cons (List.mem_of_getElem? (i := 2) rfl) (pV_cons (List.mem_of_getElem? (i := 3) rfl) (pV_nil)))), f_29_0⟩
theorem q_29_1 : pQ_29 u_29_1 := ⟨_, _, _, _, (pS_cons ok_27 (pS_nil)), (pV_cons (List.mem_of_getElem? (i := 4) rfl) (pV_cons (List.mem_of_getElem? (i := 5) rfl) (pV_nil))), f_29_1⟩
theorem q_29_2 : pQ_29 u_29_2 := ⟨_, _, _, _, (pS_cons ok_27 (pS_nil)), (pV_cons (List.mem_of_getElem? (i := 4) rfl) (pV_cons (List.mem_of_getElem? (i := 5) rfl) (pV_nil))), f_29_2⟩
theorem q_29_3 : pQ_29 u_29_3 := ⟨_, _, _, _, (pS_nil), (pV_nil), f_29_3⟩
theorem q_29_4 : pQ_29 u_29_4 := ⟨_, _, _, _, (pS_cons ok_1 (pS_cons ok_26 (pS_nil))), (pV_cons (List.mem_of_getElem? (i := 6) rfl) (pV_nil)), f_29_4⟩
theorem q_29_5 : pQ_29 u_29_5 := ⟨_, _, _, _, (pS_cons ok_1 (pS_cons ok_26 (pS_nil))), (pV_cons (List.mem_of_getElem? (i := 6) rfl) (pV_nil)), f_29_5⟩
theorem q_29_6 : pQ_29 u_29_6 := ⟨_, _, _, _, (pS_cons ok_27 (pS_cons ok_28 (pS_nil))), (pV_cons (List.mem_of_getElem? (i := 3) rfl) (pV_cons (List.mem_of_getElem? (i := 1) rfl) (pV_cons (List.mem_of_getElem? (i := 2) rfl) (pV_nil)))), f_29_6⟩
theorem q_29_7 : pQ_29 u_29_7 := ⟨_, _, _, _, (pS_cons ok_27 (pS_cons ok_28 (pS_nil))), (pV_cons (List.mem_of_getElem? (i := 3) rfl) (pV_cons (List.mem_of_getElem? (i := 1) rfl) (pV_cons (List.mem_of_getElem? (i := 2) rfl) (pV_nil)))), f_29_7⟩
theorem qb_29_0 : ∀ u ∈ [u_29_0, u_29_1, u_29_2, u_29_3, u_29_4, u_29_5, u_29_6, u_29_7], pQ_29 u := pU_cons q_29_0 (pU_cons q_29_1 (pU_cons q_29_2 (pU_cons q_29_3 (pU_cons q_29_4 (pU_cons q_29_5 (pU_cons q_29_6 (pU_cons q_29_7 (pU_nil))))))))
theorem ok_29 : sInOk pPT i_29 := sInst3 (M := pm_183) (cus := us_29) pOk pg_183 (by decide +kernel) ⟨_, _, _, _, (pS_cons ok_26 (pS_nil)), (pV_cons (List.mem_of_getElem? (i := 0) rfl) (pV_nil)), e_29⟩ (show ∀ u ∈ us_29, pQ_29 u from qb_29_0)
def pQ_30 (u : sCu) : Prop := ∃ (SM : List sIn) (H : gHt) (cu : List sCu) (n : Nat), (∀ I ∈ SM, sInOk pPT I) ∧ (∀ v ∈ cu, v ∈ us_30) ∧ sWhU pPT SM H i_30 (mR pm_165) cu n u = true
theorem q_30_0 : pQ_30 u_30_0 := ⟨_, _, _, _, (pS_nil), (pV_nil), f_30_0⟩
theorem qb_30_0 : ∀ u ∈ [u_30_0], pQ_30 u := pU_cons q_30_0 (pU_nil)
theorem ok_30 : sInOk pPT i_30 := sInst3 (M := pm_165) (cus := us_30) pOk pg_165 (by decide +kernel) ⟨_, _, _, _, (pS_nil), (pV_cons (List.mem_of_getElem? (i := 0) rfl) (pV_nil)), e_30⟩ (show ∀ u ∈ us_30, pQ_30 u from qb_30_0)
def pQ_31 (u : sCu) : Prop := ∃ (SM : List sIn) (H : gHt) (cu : List sCu) (n : Nat), (∀ I ∈ SM, sInOk pPT I) ∧ (∀ v ∈ cu, v ∈ us_31) ∧ sWhU pPT SM H i_31 (mR pm_165) cu n u = true
theorem q_31_0 : pQ_31 u_31_0 := ⟨_, _, _, _, (pS_nil), (pV_nil), f_31_0⟩
theorem qb_31_0 : ∀ u ∈ [u_31_0], pQ_31 u := pU_cons q_31_0 (pU_nil)
theorem ok_31 : sInOk pPT i_31 := sInst3 (M := pm_165) (cus := us_31) pOk pg_165 (by decide +kernel) ⟨_, _, _, _, (pS_nil), (pV_cons (List.mem_of_getElem? (i := 0) rfl) (pV_nil)), e_31⟩ (show ∀ u ∈ us_31, pQ_31 u from qb_31_0)
def pQ_32 (u : sCu) : Prop := ∃ (SM : List sIn) (H : gHt) (cu : List sCu) (n : Nat), (∀ I ∈ SM, sInOk pPT I) ∧ (∀ v ∈ cu, v ∈ us_32) ∧ sWhU pPT SM H i_32 (mR pm_184) cu n u = true
theorem q_32_0 : pQ_32 u_32_0 := ⟨_, _, _, _, (pS_cons ok_1 (pS_cons ok_29 (pS_nil))), (pV_cons (List.mem_of_getElem? (i := 2) rfl) (pV_nil)), f_32_0⟩
theorem q_32_1 : pQ_32 u_32_1 := ⟨_, _, _, _, (pS_cons ok_1 (pS_cons ok_29 (pS_nil))), (pV_cons (List.mem_of_getElem? (i := 3) rfl) (pV_nil)), f_32_1⟩
theorem q_32_2 : pQ_32 u_32_2 := ⟨_, _, _, _, (pS_nil), (pV_nil), f_32_2⟩
theorem q_32_3 : pQ_32 u_32_3 := ⟨_, _, _, _, (pS_nil), (pV_nil), f_32_3⟩
theorem qb_32_0 : ∀ u ∈ [u_32_0, u_32_1, u_32_2, u_32_3], pQ_32 u := pU_cons q_32_0 (pU_cons q_32_1 (pU_cons q_32_2 (pU_cons q_32_3 (pU_nil))))
theorem ok_32 : sInOk pPT i_32 := sInst3 (M := pm_184) (cus := us_32) pOk pg_184 (by decide +kernel) ⟨_, _, _, _, (pS_cons ok_29 (pS_cons ok_30 (pS_cons ok_31 (pS_nil)))), (pV_cons (List.mem_of_getElem? (i := 0) rfl) (pV_cons (List.mem_of_getElem? (i := 1) rfl) (pV_nil))), e_32⟩ (show ∀ u ∈ us_32, pQ_32 u from qb_32_0)
def pQ_33 (u : sCu) : Prop := ∃ (SM : List sIn) (H : gHt) (cu : List sCu) (n : Nat), (∀ I ∈ SM, sInOk pPT I) ∧ (∀ v ∈ cu, v ∈ us_33) ∧ sWhU pPT SM H i_33 (mR pm_177) cu n u = true
theorem q_33_0 : pQ_33 u_33_0 := ⟨_, _, _, _, (pS_cons ok_1 (pS_cons ok_11 (pS_nil))), (pV_cons (List.mem_of_getElem? (i := 1) rfl) (pV_cons (List.mem_of_getElem? (i := 2) rfl) (pV_nil))), f_33_0⟩
theorem q_33_1 : pQ_33 u_33_1 := ⟨_, _, _, _, (pS_nil), (pV_cons (List.mem_of_getElem? (i := 3) rfl) (pV_nil)), f_33_1⟩
theorem q_33_2 : pQ_33 u_33_2 := ⟨_, _, _, _, (pS_cons ok_1 (pS_cons ok_11 (pS_nil))), (pV_cons (List.mem_of_getElem? (i := 4) rfl) (pV_cons (List.mem_of_getElem? (i := 5) rfl) (pV_nil))), f_33_2⟩
theorem q_33_3 : pQ_33 u_33_3 := ⟨_, _, _, _, (pS_cons ok_32 (pS_nil)), (pV_cons (List.mem_of_getElem? (i := 6) rfl) (pV_nil)), f_33_3⟩
theorem q_33_4 : pQ_33 u_33_4 := ⟨_, _, _, _, (pS_nil), (pV_cons (List.mem_of_getElem? (i := 7) rfl) (pV_nil)), f_33_4⟩
theorem q_33_5 : pQ_33 u_33_5 := ⟨_, _, _, _, (pS_cons ok_1 (pS_cons ok_11 (pS_nil))), (pV_cons (List.mem_of_getElem? (i := 8) rfl) (pV_cons (List.mem_of_getElem? (i := 9) rfl) (pV_nil))), f_33_5⟩
theorem q_33_6 : pQ_33 u_33_6 := ⟨_, _, _, _, (pS_nil), (pV_nil), f_33_6⟩
theorem q_33_7 : pQ_33 u_33_7 := ⟨_, _, _, _, (pS_cons ok_32 (pS_nil)), (pV_cons (List.mem_of_getElem? (i := 10) rfl) (pV_nil)), f_33_7⟩
theorem q_33_8 : pQ_33 u_33_8 := ⟨_, _, _, _, (pS_nil), (pV_cons (List.mem_of_getElem? (i := 11) rfl) (pV_nil)), f_33_8⟩
theorem q_33_9 : pQ_33 u_33_9 := ⟨_, _, _, _, (pS_cons ok_1 (pS_cons ok_11 (pS_nil))), (pV_cons (List.mem_of_getElem? (i := 12) rfl) (pV_cons (List.mem_of_getElem? (i := 13) rfl) (pV_nil))), f_33_9⟩
theorem q_33_10 : pQ_33 u_33_10 := ⟨_, _, _, _, (pS_nil), (pV_cons (List.mem_of_getElem? (i := 10) rfl) (pV_nil)), f_33_10⟩
theorem q_33_11 : pQ_33 u_33_11 := ⟨_, _, _, _, (pS_cons ok_32 (pS_nil)), (pV_cons (List.mem_of_getElem? (i := 14) rfl) (pV_nil)), f_33_11⟩
theorem q_33_12 : pQ_33 u_33_12 := ⟨_, _, _, _, (pS_nil), (pV_cons (List.mem_of_getElem? (i := 15) rfl) (pV_nil)), f_33_12⟩
theorem q_33_13 : pQ_33 u_33_13 := ⟨_, _, _, _, (pS_cons ok_1 (pS_cons ok_11 (pS_nil))), (pV_cons (List.mem_of_getElem? (i := 16) rfl) (pV_cons (List.mem_of_getElem? (i := 17) rfl) (pV_nil))), f_33_13⟩
theorem q_33_14 : pQ_33 u_33_14 := ⟨_, _, _, _, (pS_nil), (pV_cons (List.mem_of_getElem? (i := 14) rfl) (pV_nil)), f_33_14⟩
theorem q_33_15 : pQ_33 u_33_15 := ⟨_, _, _, _, (pS_cons ok_32 (pS_nil)), (pV_cons (List.mem_of_getElem? (i := 18) rfl) (pV_nil)), f_33_15⟩
theorem q_33_16 : pQ_33 u_33_16 := ⟨_, _, _, _, (pS_nil), (pV_cons (List.mem_of_getElem? (i := 19) rfl) (pV_nil)), f_33_16⟩
theorem q_33_17 : pQ_33 u_33_17 := ⟨_, _, _, _, (pS_cons ok_1 (pS_cons ok_11 (pS_nil))), (pV_cons (List.mem_of_getElem? (i := 20) rfl) (pV_cons (List.mem_of_getElem? (i := 21) rfl) (pV_nil))), f_33_17⟩
theorem q_33_18 : pQ_33 u_33_18 := ⟨_, _, _, _, (pS_nil), (pV_cons (List.mem_of_getElem? (i := 18) rfl) (pV_nil)), f_33_18⟩
theorem q_33_19 : pQ_33 u_33_19 := ⟨_, _, _, _, (pS_cons ok_32 (pS_nil)), (pV_cons (List.mem_of_getElem? (i := 22) rfl) (pV_nil)), f_33_19⟩
theorem q_33_20 : pQ_33 u_33_20 := ⟨_, _, _, _, (pS_nil), (pV_cons (List.mem_of_getElem? (i := 23) rfl) (pV_nil)), f_33_20⟩
theorem q_33_21 : pQ_33 u_33_21 := ⟨_, _, _, _, (pS_nil), (pV_cons (List.mem_of_getElem? (i := 24) rfl) (pV_nil)), f_33_21⟩
theorem q_33_22 : pQ_33 u_33_22 := ⟨_, _, _, _, (pS_nil), (pV_cons (List.mem_of_getElem? (i := 22) rfl) (pV_nil)), f_33_22⟩
theorem q_33_23 : pQ_33 u_33_23 := ⟨_, _, _, _, (pS_cons ok_32 (pS_nil)), (pV_cons (List.mem_of_getElem? (i := 25) rfl) (pV_nil)), f_33_23⟩
theorem q_33_24 : pQ_33 u_33_24 := ⟨_, _, _, _, (pS_cons ok_11 (pS_nil)), (pV_cons (List.mem_of_getElem? (i := 26) rfl) (pV_nil)), f_33_24⟩
theorem q_33_25 : pQ_33 u_33_25 := ⟨_, _, _, _, (pS_nil), (pV_cons (List.mem_of_getElem? (i := 25) rfl) (pV_nil)), f_33_25⟩
theorem q_33_26 : pQ_33 u_33_26 := ⟨_, _, _, _, (pS_cons ok_32 (pS_nil)), (pV_cons (List.mem_of_getElem? (i := 27) rfl) (pV_nil)), f_33_26⟩
theorem q_33_27 : pQ_33 u_33_27 := ⟨_, _, _, _, (pS_nil), (pV_cons (List.mem_of_getElem? (i := 27) rfl) (pV_nil)), f_33_27⟩
theorem qb_33_0 : ∀ u ∈ [u_33_0, u_33_1, u_33_2, u_33_3, u_33_4, u_33_5, u_33_6, u_33_7, u_33_8, u_33_9], pQ_33 u := pU_cons q_33_0 (pU_cons q_33_1 (pU_cons q_33_2 (pU_cons q_33_3 (pU_cons q_33_4 (pU_cons q_33_5 (pU_cons q_33_6 (pU_cons q_33_7 (pU_cons q_33_8 (pU_cons q_33_9 (pU_nil))))))))))
theorem qb_33_1 : ∀ u ∈ [u_33_10, u_33_11, u_33_12, u_33_13, u_33_14, u_33_15, u_33_16, u_33_17, u_33_18, u_33_19], pQ_33 u := pU_cons q_33_10 (pU_cons q_33_11 (pU_cons q_33_12 (pU_cons q_33_13 (pU_cons q_33_14 (pU_cons q_33_15 (pU_cons q_33_16 (pU_cons q_33_17 (pU_cons q_33_18 (pU_cons q_33_19 (pU_nil))))))))))
theorem qb_33_2 : ∀ u ∈ [u_33_20, u_33_21, u_33_22, u_33_23, u_33_24, u_33_25, u_33_26, u_33_27], pQ_33 u := pU_cons q_33_20 (pU_cons q_33_21 (pU_cons q_33_22 (pU_cons q_33_23 (pU_cons q_33_24 (pU_cons q_33_25 (pU_cons q_33_26 (pU_cons q_33_27 (pU_nil))))))))
theorem ok_33 : sInOk pPT i_33 := sInst3 (M := pm_177) (cus := us_33) pOk pg_177 (by decide +kernel) ⟨_, _, _, _, (pS_nil), (pV_cons (List.mem_of_getElem? (i := 0) rfl) (pV_nil)), e_33⟩ (show ∀ u ∈ us_33, pQ_33 u from (pU_app qb_33_0 (pU_app qb_33_1 qb_33_2)))
theorem ok_34 : sInOk pPT i_34 := sInst3 (M := pm_167) (cus := []) pOk pg_167 (by decide +kernel) ⟨_, _, _, _, (pS_nil), pV_nil, e_34⟩ pU_nil
def pQ_35 (u : sCu) : Prop := ∃ (SM : List sIn) (H : gHt) (cu : List sCu) (n : Nat), (∀ I ∈ SM, sInOk pPT I) ∧ (∀ v ∈ cu, v ∈ us_35) ∧ sWhU pPT SM H i_35 (mR pm_173) cu n u = true
theorem q_35_0 : pQ_35 u_35_0 := ⟨_, _, _, _, (pS_cons ok_1 (pS_cons ok_33 (pS_cons ok_34 (pS_nil)))), (pV_cons (List.mem_of_getElem? (i := 1) rfl) (pV_cons (List.mem_of_getElem? (i := 0) rfl) (pV_nil))), f_35_0⟩
theorem q_35_1 : pQ_35 u_35_1 := ⟨_, _, _, _, (pS_nil), (pV_nil), f_35_1⟩
theorem qb_35_0 : ∀ u ∈ [u_35_0, u_35_1], pQ_35 u := pU_cons q_35_0 (pU_cons q_35_1 (pU_nil))
theorem ok_35 : sInOk pPT i_35 := sInst3 (M := pm_173) (cus := us_35) pOk pg_173 (by decide +kernel) ⟨_, _, _, _, (pS_cons ok_33 (pS_nil)), (pV_cons (List.mem_of_getElem? (i := 0) rfl) (pV_nil)), e_35⟩ (show ∀ u ∈ us_35, pQ_35 u from qb_35_0)
theorem ok_36 : sInOk pPT i_36 := sInst3 (M := pm_167) (cus := []) pOk pg_167 (by decide +kernel) ⟨_, _, _, _, (pS_nil), pV_nil, e_36⟩ pU_nil
def pQ_37 (u : sCu) : Prop := ∃ (SM : List sIn) (H : gHt) (cu : List sCu) (n : Nat), (∀ I ∈ SM, sInOk pPT I) ∧ (∀ v ∈ cu, v ∈ us_37) ∧ sWhU pPT SM H i_37 (mR pm_174) cu n u = true
theorem q_37_0 : pQ_37 u_37_0 := ⟨_, _, _, _, (pS_cons ok_1 (pS_cons ok_35 (pS_cons ok_36 (pS_nil)))), (pV_cons (List.mem_of_getElem? (i := 1) rfl) (pV_cons (List.mem_of_getElem? (i := 0) rfl) (pV_nil))), f_37_0⟩
theorem q_37_1 : pQ_37 u_37_1 := ⟨_, _, _, _, (pS_nil), (pV_nil), f_37_1⟩
theorem qb_37_0 : ∀ u ∈ [u_37_0, u_37_1], pQ_37 u := pU_cons q_37_0 (pU_cons q_37_1 (pU_nil))
theorem ok_37 : sInOk pPT i_37 := sInst3 (M := pm_174) (cus := us_37) pOk pg_174 (by decide +kernel) ⟨_, _, _, _, (pS_cons ok_35 (pS_nil)), (pV_cons (List.mem_of_getElem? (i := 0) rfl) (pV_nil)), e_37⟩ (show ∀ u ∈ us_37, pQ_37 u from qb_37_0)
def pQ_38 (u : sCu) : Prop := ∃ (SM : List sIn) (H : gHt) (cu : List sCu) (n : Nat), (∀ I ∈ SM, sInOk pPT I) ∧ (∀ v ∈ cu, v ∈ us_38) ∧ sWhU pPT SM H i_38 (mR pm_165) cu n u = true
theorem q_38_0 : pQ_38 u_38_0 := ⟨_, _, _, _, (pS_nil), (pV_nil), f_38_0⟩
theorem qb_38_0 : ∀ u ∈ [u_38_0], pQ_38 u := pU_cons q_38_0 (pU_nil)
theorem ok_38 : sInOk pPT i_38 := sInst3 (M := pm_165) (cus := us_38) pOk pg_165 (by decide +kernel) ⟨_, _, _, _, (pS_nil), (pV_cons (List.mem_of_getElem? (i := 0) rfl) (pV_nil)), e_38⟩ (show ∀ u ∈ us_38, pQ_38 u from qb_38_0)
theorem ok_39 : sInOk pPT i_39 := sInst3 (M := pm_181) (cus := []) pOk pg_181 (by decide +kernel) ⟨_, _, _, _, (pS_cons ok_1 (pS_cons ok_38 (pS_nil))), pV_nil, e_39⟩ pU_nil
def pQ_40 (u : sCu) : Prop := ∃ (SM : List sIn) (H : gHt) (cu : List sCu) (n : Nat), (∀ I ∈ SM, sInOk pPT I) ∧ (∀ v ∈ cu, v ∈ us_40) ∧ sWhU pPT SM H i_40 (mR pm_178) cu n u = true
theorem q_40_0 : pQ_40 u_40_0 := ⟨_, _, _, _, (pS_nil), (pV_nil), f_40_0⟩
theorem qb_40_0 : ∀ u ∈ [u_40_0], pQ_40 u := pU_cons q_40_0 (pU_nil)
theorem ok_40 : sInOk pPT i_40 := sInst3 (M := pm_178) (cus := us_40) pOk pg_178 (by decide +kernel) ⟨_, _, _, _, (pS_cons ok_1 (pS_cons ok_12 (pS_cons ok_13 (pS_cons ok_14 (pS_cons ok_15 (pS_cons ok_16 (pS_cons ok_17 (pS_cons ok_18 (pS_cons ok_19 (pS_cons ok_20 (pS_cons ok_22 (pS_cons ok_37 (pS_cons ok_39 (pS_nil)))))))))))))), (pV_cons (List.mem_of_getElem? (i := 0) rfl) (pV_nil)), e_40⟩ (show ∀ u ∈ us_40, pQ_40 u from qb_40_0)
def pQ_41 (u : sCu) : Prop := ∃ (SM : List sIn) (H : gHt) (cu : List sCu) (n : Nat), (∀ I ∈ SM, sInOk pPT I) ∧ (∀ v ∈ cu, v ∈ us_41) ∧ sWhU pPT SM H i_41 (mR pm_179) cu n u = true
theorem q_41_0 : pQ_41 u_41_0 := ⟨_, _, _, _, (pS_cons ok_24 (pS_cons ok_25 (pS_nil))), (pV_cons (List.mem_of_getElem? (i := 1) rfl) (pV_cons (List.mem_of_getElem? (i := 2) rfl) (pV_cons (List.mem_of_getElem? (i := 3) rfl) (pV_nil)))), f_41_0⟩
theorem q_41_1 : pQ_41 u_41_1 := ⟨_, _, _, _, (pS_cons ok_24 (pS_nil)), (pV_cons (List.mem_of_getElem? (i := 4) rfl) (pV_cons (List.mem_of_getElem? (i := 5) rfl) (pV_nil))), f_41_1⟩
theorem q_41_2 : pQ_41 u_41_2 := ⟨_, _, _, _, (pS_cons ok_24 (pS_nil)), (pV_cons (List.mem_of_getElem? (i := 4) rfl) (pV_cons (List.mem_of_getElem? (i := 5) rfl) (pV_nil))), f_41_2⟩
theorem q_41_3 : pQ_41 u_41_3 := ⟨_, _, _, _, (pS_nil), (pV_nil), f_41_3⟩
theorem q_41_4 : pQ_41 u_41_4 := ⟨_, _, _, _, (pS_cons ok_1 (pS_cons ok_40 (pS_nil))), (pV_cons (List.mem_of_getElem? (i := 6) rfl) (pV_nil)), f_41_4⟩
theorem q_41_5 : pQ_41 u_41_5 := ⟨_, _, _, _, (pS_cons ok_1 (pS_cons ok_40 (pS_nil))), (pV_cons (List.mem_of_getElem? (i := 6) rfl) (pV_nil)), f_41_5⟩
theorem q_41_6 : pQ_41 u_41_6 := ⟨_, _, _, _, (pS_cons ok_24 (pS_cons ok_25 (pS_nil))), (pV_cons (List.mem_of_getElem? (i := 3) rfl) (pV_cons (List.mem_of_getElem? (i := 1) rfl) (pV_cons (List.mem_of_getElem? (i := 2) rfl) (pV_nil)))), f_41_6⟩
theorem q_41_7 : pQ_41 u_41_7 := ⟨_, _, _, _, (pS_cons ok_24 (pS_cons ok_25 (pS_nil))), (pV_cons (List.mem_of_getElem? (i := 3) rfl) (pV_cons (List.mem_of_getElem? (i := 1) rfl) (pV_cons (List.mem_of_getElem? (i := 2) rfl) (pV_nil)))), f_41_7⟩
theorem qb_41_0 : ∀ u ∈ [u_41_0, u_41_1, u_41_2, u_41_3, u_41_4, u_41_5, u_41_6, u_41_7], pQ_41 u := pU_cons q_41_0 (pU_cons q_41_1 (pU_cons q_41_2 (pU_cons q_41_3 (pU_cons q_41_4 (pU_cons q_41_5 (pU_cons q_41_6 (pU_cons q_41_7 (pU_nil))))))))
theorem ok_41 : sInOk pPT i_41 := sInst3 (M := pm_179) (cus := us_41) pOk pg_179 (by decide +kernel) ⟨_, _, _, _, (pS_cons ok_40 (pS_nil)), (pV_cons (List.mem_of_getElem? (i := 0) rfl) (pV_nil)), e_41⟩ (show ∀ u ∈ us_41, pQ_41 u from qb_41_0)
def pQ_42 (u : sCu) : Prop := ∃ (SM : List sIn) (H : gHt) (cu : List sCu) (n : Nat), (∀ I ∈ SM, sInOk pPT I) ∧ (∀ v ∈ cu, v ∈ us_42) ∧ sWhU pPT SM H i_42 (mR pm_183) cu n u = true
theorem q_42_0 : pQ_42 u_42_0 := ⟨_, _, _, _, (pS_cons ok_27 (pS_cons ok_28 (pS_nil))), (pV_cons (List.mem_of_getElem? (i := 1) rfl) (pV_cons (List.mem_of_getElem? (i := 2) rfl) (pV_cons (List.mem_of_getElem? (i := 3) rfl) (pV_nil)))), f_42_0⟩
theorem q_42_1 : pQ_42 u_42_1 := ⟨_, _, _, _, (pS_cons ok_27 (pS_nil)), (pV_cons (List.mem_of_getElem? (i := 4) rfl) (pV_cons (List.mem_of_getElem? (i := 5) rfl) (pV_nil))), f_42_1⟩
theorem q_42_2 : pQ_42 u_42_2 := ⟨_, _, _, _, (pS_cons ok_27 (pS_nil)), (pV_cons (List.mem_of_getElem? (i := 4) rfl) (pV_cons (List.mem_of_getElem? (i := 5) rfl) (pV_nil))), f_42_2⟩
theorem q_42_3 : pQ_42 u_42_3 := ⟨_, _, _, _, (pS_nil), (pV_nil), f_42_3⟩
theorem q_42_4 : pQ_42 u_42_4 := ⟨_, _, _, _, (pS_cons ok_1 (pS_cons ok_41 (pS_nil))), (pV_cons (List.mem_of_getElem? (i := 6) rfl) (pV_nil)), f_42_4⟩
theorem q_42_5 : pQ_42 u_42_5 := ⟨_, _, _, _, (pS_cons ok_1 (pS_cons ok_41 (pS_nil))), (pV_cons (List.mem_of_getElem? (i := 6) rfl) (pV_nil)), f_42_5⟩
theorem q_42_6 : pQ_42 u_42_6 := ⟨_, _, _, _, (pS_cons ok_27 (pS_cons ok_28 (pS_nil))), (pV_cons (List.mem_of_getElem? (i := 3) rfl) (pV_cons (List.mem_of_getElem? (i := 1) rfl) (pV_cons (List.mem_of_getElem? (i := 2) rfl) (pV_nil)))), f_42_6⟩
theorem q_42_7 : pQ_42 u_42_7 := ⟨_, _, _, _, (pS_cons ok_27 (pS_cons ok_28 (pS_nil))), (pV_cons (List.mem_of_getElem? (i := 3) rfl) (pV_cons (List.mem_of_getElem? (i := 1) rfl) (pV_cons (List.mem_of_getElem? (i := 2) rfl) (pV_nil)))), f_42_7⟩
theorem qb_42_0 : ∀ u ∈ [u_42_0, u_42_1, u_42_2, u_42_3, u_42_4, u_42_5, u_42_6, u_42_7], pQ_42 u := pU_cons q_42_0 (pU_cons q_42_1 (pU_cons q_42_2 (pU_cons q_42_3 (pU_cons q_42_4 (pU_cons q_42_5 (pU_cons q_42_6 (pU_cons q_42_7 (pU_nil))))))))
theorem ok_42 : sInOk pPT i_42 := sInst3 (M := pm_183) (cus := us_42) pOk pg_183 (by decide +kernel) ⟨_, _, _, _, (pS_cons ok_41 (pS_nil)), (pV_cons (List.mem_of_getElem? (i := 0) rfl) (pV_nil)), e_42⟩ (show ∀ u ∈ us_42, pQ_42 u from qb_42_0)
def pQ_43 (u : sCu) : Prop := ∃ (SM : List sIn) (H : gHt) (cu : List sCu) (n : Nat), (∀ I ∈ SM, sInOk pPT I) ∧ (∀ v ∈ cu, v ∈ us_43) ∧ sWhU pPT SM H i_43 (mR pm_184) cu n u = true
theorem q_43_0 : pQ_43 u_43_0 := ⟨_, _, _, _, (pS_cons ok_1 (pS_cons ok_42 (pS_nil))), (pV_cons (List.mem_of_getElem? (i := 2) rfl) (pV_nil)), f_43_0⟩
theorem q_43_1 : pQ_43 u_43_1 := ⟨_, _, _, _, (pS_cons ok_1 (pS_cons ok_42 (pS_nil))), (pV_cons (List.mem_of_getElem? (i := 3) rfl) (pV_nil)), f_43_1⟩
theorem q_43_2 : pQ_43 u_43_2 := ⟨_, _, _, _, (pS_nil), (pV_nil), f_43_2⟩
theorem q_43_3 : pQ_43 u_43_3 := ⟨_, _, _, _, (pS_nil), (pV_nil), f_43_3⟩
theorem qb_43_0 : ∀ u ∈ [u_43_0, u_43_1, u_43_2, u_43_3], pQ_43 u := pU_cons q_43_0 (pU_cons q_43_1 (pU_cons q_43_2 (pU_cons q_43_3 (pU_nil))))
theorem ok_43 : sInOk pPT i_43 := sInst3 (M := pm_184) (cus := us_43) pOk pg_184 (by decide +kernel) ⟨_, _, _, _, (pS_cons ok_30 (pS_cons ok_31 (pS_cons ok_42 (pS_nil)))), (pV_cons (List.mem_of_getElem? (i := 0) rfl) (pV_cons (List.mem_of_getElem? (i := 1) rfl) (pV_nil))), e_43⟩ (show ∀ u ∈ us_43, pQ_43 u from qb_43_0)
def pQ_44 (u : sCu) : Prop := ∃ (SM : List sIn) (H : gHt) (cu : List sCu) (n : Nat), (∀ I ∈ SM, sInOk pPT I) ∧ (∀ v ∈ cu, v ∈ us_44) ∧ sWhU pPT SM H i_44 (mR pm_177) cu n u = true
theorem q_44_0 : pQ_44 u_44_0 := ⟨_, _, _, _, (pS_cons ok_1 (pS_cons ok_11 (pS_nil))), (pV_cons (List.mem_of_getElem? (i := 1) rfl) (pV_cons (List.mem_of_getElem? (i := 2) rfl) (pV_nil))), f_44_0⟩
theorem q_44_1 : pQ_44 u_44_1 := ⟨_, _, _, _, (pS_nil), (pV_cons (List.mem_of_getElem? (i := 3) rfl) (pV_nil)), f_44_1⟩
theorem q_44_2 : pQ_44 u_44_2 := ⟨_, _, _, _, (pS_cons ok_1 (pS_cons ok_11 (pS_nil))), (pV_cons (List.mem_of_getElem? (i := 4) rfl) (pV_cons (List.mem_of_getElem? (i := 5) rfl) (pV_nil))), f_44_2⟩
theorem q_44_3 : pQ_44 u_44_3 := ⟨_, _, _, _, (pS_cons ok_43 (pS_nil)), (pV_cons (List.mem_of_getElem? (i := 6) rfl) (pV_nil)), f_44_3⟩
theorem q_44_4 : pQ_44 u_44_4 := ⟨_, _, _, _, (pS_nil), (pV_cons (List.mem_of_getElem? (i := 7) rfl) (pV_nil)), f_44_4⟩
theorem q_44_5 : pQ_44 u_44_5 := ⟨_, _, _, _, (pS_cons ok_1 (pS_cons ok_11 (pS_nil))), (pV_cons (List.mem_of_getElem? (i := 8) rfl) (pV_cons (List.mem_of_getElem? (i := 9) rfl) (pV_nil))), f_44_5⟩
theorem q_44_6 : pQ_44 u_44_6 := ⟨_, _, _, _, (pS_nil), (pV_nil), f_44_6⟩
theorem q_44_7 : pQ_44 u_44_7 := ⟨_, _, _, _, (pS_cons ok_43 (pS_nil)), (pV_cons (List.mem_of_getElem? (i := 10) rfl) (pV_nil)), f_44_7⟩
theorem q_44_8 : pQ_44 u_44_8 := ⟨_, _, _, _, (pS_nil), (pV_cons (List.mem_of_getElem? (i := 11) rfl) (pV_nil)), f_44_8⟩
theorem q_44_9 : pQ_44 u_44_9 := ⟨_, _, _, _, (pS_cons ok_1 (pS_cons ok_11 (pS_nil))), (pV_cons (List.mem_of_getElem? (i := 12) rfl) (pV_cons (List.mem_of_getElem? (i := 13) rfl) (pV_nil))), f_44_9⟩
theorem q_44_10 : pQ_44 u_44_10 := ⟨_, _, _, _, (pS_nil), (pV_cons (List.mem_of_getElem? (i := 10) rfl) (pV_nil)), f_44_10⟩
theorem q_44_11 : pQ_44 u_44_11 := ⟨_, _, _, _, (pS_cons ok_43 (pS_nil)), (pV_cons (List.mem_of_getElem? (i := 14) rfl) (pV_nil)), f_44_11⟩
theorem q_44_12 : pQ_44 u_44_12 := ⟨_, _, _, _, (pS_nil), (pV_cons (List.mem_of_getElem? (i := 15) rfl) (pV_nil)), f_44_12⟩
theorem q_44_13 : pQ_44 u_44_13 := ⟨_, _, _, _, (pS_cons ok_1 (pS_cons ok_11 (pS_nil))), (pV_cons (List.mem_of_getElem? (i := 16) rfl) (pV_cons (List.mem_of_getElem? (i := 17) rfl) (pV_nil))), f_44_13⟩
theorem q_44_14 : pQ_44 u_44_14 := ⟨_, _, _, _, (pS_nil), (pV_cons (List.mem_of_getElem? (i := 14) rfl) (pV_nil)), f_44_14⟩
theorem q_44_15 : pQ_44 u_44_15 := ⟨_, _, _, _, (pS_cons ok_43 (pS_nil)), (pV_cons (List.mem_of_getElem? (i := 18) rfl) (pV_nil)), f_44_15⟩
theorem q_44_16 : pQ_44 u_44_16 := ⟨_, _, _, _, (pS_nil), (pV_cons (List.mem_of_getElem? (i := 19) rfl) (pV_nil)), f_44_16⟩
theorem q_44_17 : pQ_44 u_44_17 := ⟨_, _, _, _, (pS_cons ok_1 (pS_cons ok_11 (pS_nil))), (pV_cons (List.mem_of_getElem? (i := 20) rfl) (pV_cons (List.mem_of_getElem? (i := 21) rfl) (pV_nil))), f_44_17⟩
theorem q_44_18 : pQ_44 u_44_18 := ⟨_, _, _, _, (pS_nil), (pV_cons (List.mem_of_getElem? (i := 18) rfl) (pV_nil)), f_44_18⟩
theorem q_44_19 : pQ_44 u_44_19 := ⟨_, _, _, _, (pS_cons ok_43 (pS_nil)), (pV_cons (List.mem_of_getElem? (i := 22) rfl) (pV_nil)), f_44_19⟩
theorem q_44_20 : pQ_44 u_44_20 := ⟨_, _, _, _, (pS_nil), (pV_cons (List.mem_of_getElem? (i := 23) rfl) (pV_nil)), f_44_20⟩
theorem q_44_21 : pQ_44 u_44_21 := ⟨_, _, _, _, (pS_nil), (pV_cons (List.mem_of_getElem? (i := 24) rfl) (pV_nil)), f_44_21⟩
theorem q_44_22 : pQ_44 u_44_22 := ⟨_, _, _, _, (pS_nil), (pV_cons (List.mem_of_getElem? (i := 22) rfl) (pV_nil)), f_44_22⟩
theorem q_44_23 : pQ_44 u_44_23 := ⟨_, _, _, _, (pS_cons ok_43 (pS_nil)), (pV_cons (List.mem_of_getElem? (i := 25) rfl) (pV_nil)), f_44_23⟩
theorem q_44_24 : pQ_44 u_44_24 := ⟨_, _, _, _, (pS_cons ok_11 (pS_nil)), (pV_cons (List.mem_of_getElem? (i := 26) rfl) (pV_nil)), f_44_24⟩
theorem q_44_25 : pQ_44 u_44_25 := ⟨_, _, _, _, (pS_nil), (pV_cons (List.mem_of_getElem? (i := 25) rfl) (pV_nil)), f_44_25⟩
theorem q_44_26 : pQ_44 u_44_26 := ⟨_, _, _, _, (pS_cons ok_43 (pS_nil)), (pV_cons (List.mem_of_getElem? (i := 27) rfl) (pV_nil)), f_44_26⟩
theorem q_44_27 : pQ_44 u_44_27 := ⟨_, _, _, _, (pS_nil), (pV_cons (List.mem_of_getElem? (i := 27) rfl) (pV_nil)), f_44_27⟩
theorem qb_44_0 : ∀ u ∈ [u_44_0, u_44_1, u_44_2, u_44_3, u_44_4, u_44_5, u_44_6, u_44_7, u_44_8, u_44_9], pQ_44 u := pU_cons q_44_0 (pU_cons q_44_1 (pU_cons q_44_2 (pU_cons q_44_3 (pU_cons q_44_4 (pU_cons q_44_5 (pU_cons q_44_6 (pU_cons q_44_7 (pU_cons q_44_8 (pU_cons q_44_9 (pU_nil))))))))))
theorem qb_44_1 : ∀ u ∈ [u_44_10, u_44_11, u_44_12, u_44_13, u_44_14, u_44_15, u_44_16, u_44_17, u_44_18, u_44_19], pQ_44 u := pU_cons q_44_10 (pU_cons q_44_11 (pU_cons q_44_12 (pU_cons q_44_13 (pU_cons q_44_14 (pU_cons q_44_15 (pU_cons q_44_16 (pU_cons q_44_17 (pU_cons q_44_18 (pU_cons q_44_19 (pU_nil))))))))))
theorem qb_44_2 : ∀ u ∈ [u_44_20, u_44_21, u_44_22, u_44_23, u_44_24, u_44_25, u_44_26, u_44_27], pQ_44 u := pU_cons q_44_20 (pU_cons q_44_21 (pU_cons q_44_22 (pU_cons q_44_23 (pU_cons q_44_24 (pU_cons q_44_25 (pU_cons q_44_26 (pU_cons q_44_27 (pU_nil))))))))
theorem ok_44 : sInOk pPT i_44 := sInst3 (M := pm_177) (cus := us_44) pOk pg_177 (by decide +kernel) ⟨_, _, _, _, (pS_nil), (pV_cons (List.mem_of_getElem? (i := 0) rfl) (pV_nil)), e_44⟩ (show ∀ u ∈ us_44, pQ_44 u from (pU_app qb_44_0 (pU_app qb_44_1 qb_44_2)))
def pQ_45 (u : sCu) : Prop := ∃ (SM : List sIn) (H : gHt) (cu : List sCu) (n : Nat), (∀ I ∈ SM, sInOk pPT I) ∧ (∀ v ∈ cu, v ∈ us_45) ∧ sWhU pPT SM H i_45 (mR pm_173) cu n u = true
theorem q_45_0 : pQ_45 u_45_0 := ⟨_, _, _, _, (pS_cons ok_1 (pS_cons ok_34 (pS_cons ok_44 (pS_nil)))), (pV_cons (List.mem_of_getElem? (i := 1) rfl) (pV_cons (List.mem_of_getElem? (i := 0) rfl) (pV_nil))), f_45_0⟩
theorem q_45_1 : pQ_45 u_45_1 := ⟨_, _, _, _, (pS_nil), (pV_nil), f_45_1⟩
theorem qb_45_0 : ∀ u ∈ [u_45_0, u_45_1], pQ_45 u := pU_cons q_45_0 (pU_cons q_45_1 (pU_nil))
theorem ok_45 : sInOk pPT i_45 := sInst3 (M := pm_173) (cus := us_45) pOk pg_173 (by decide +kernel) ⟨_, _, _, _, (pS_cons ok_44 (pS_nil)), (pV_cons (List.mem_of_getElem? (i := 0) rfl) (pV_nil)), e_45⟩ (show ∀ u ∈ us_45, pQ_45 u from qb_45_0)
def pQ_46 (u : sCu) : Prop := ∃ (SM : List sIn) (H : gHt) (cu : List sCu) (n : Nat), (∀ I ∈ SM, sInOk pPT I) ∧ (∀ v ∈ cu, v ∈ us_46) ∧ sWhU pPT SM H i_46 (mR pm_174) cu n u = true
theorem q_46_0 : pQ_46 u_46_0 := ⟨_, _, _, _, (pS_cons ok_1 (pS_cons ok_36 (pS_cons ok_45 (pS_nil)))), (pV_cons (List.mem_of_getElem? (i := 1) rfl) (pV_cons (List.mem_of_getElem? (i := 0) rfl) (pV_nil))), f_46_0⟩
theorem q_46_1 : pQ_46 u_46_1 := ⟨_, _, _, _, (pS_nil), (pV_nil), f_46_1⟩
theorem qb_46_0 : ∀ u ∈ [u_46_0, u_46_1], pQ_46 u := pU_cons q_46_0 (pU_cons q_46_1 (pU_nil))
theorem ok_46 : sInOk pPT i_46 := sInst3 (M := pm_174) (cus := us_46) pOk pg_174 (by decide +kernel) ⟨_, _, _, _, (pS_cons ok_45 (pS_nil)), (pV_cons (List.mem_of_getElem? (i := 0) rfl) (pV_nil)), e_46⟩ (show ∀ u ∈ us_46, pQ_46 u from qb_46_0)
def pQ_47 (u : sCu) : Prop := ∃ (SM : List sIn) (H : gHt) (cu : List sCu) (n : Nat), (∀ I ∈ SM, sInOk pPT I) ∧ (∀ v ∈ cu, v ∈ us_47) ∧ sWhU pPT SM H i_47 (mR pm_178) cu n u = true
theorem q_47_0 : pQ_47 u_47_0 := ⟨_, _, _, _, (pS_nil), (pV_nil), f_47_0⟩
theorem qb_47_0 : ∀ u ∈ [u_47_0], pQ_47 u := pU_cons q_47_0 (pU_nil)
theorem ok_47 : sInOk pPT i_47 := sInst3 (M := pm_178) (cus := us_47) pOk pg_178 (by decide +kernel) ⟨_, _, _, _, (pS_cons ok_1 (pS_cons ok_12 (pS_cons ok_13 (pS_cons ok_14 (pS_cons ok_15 (pS_cons ok_16 (pS_cons ok_17 (pS_cons ok_18 (pS_cons ok_19 (pS_cons ok_20 (pS_cons ok_22 (pS_cons ok_39 (pS_cons ok_46 (pS_nil)))))))))))))), (pV_cons (List.mem_of_getElem? (i := 0) rfl) (pV_nil)), e_47⟩ (show ∀ u ∈ us_47, pQ_47 u from qb_47_0)
def pQ_48 (u : sCu) : Prop := ∃ (SM : List sIn) (H : gHt) (cu : List sCu) (n : Nat), (∀ I ∈ SM, sInOk pPT I) ∧ (∀ v ∈ cu, v ∈ us_48) ∧ sWhU pPT SM H i_48 (mR pm_179) cu n u = true
theorem q_48_0 : pQ_48 u_48_0 := ⟨_, _, _, _, (pS_cons ok_24 (pS_cons ok_25 (pS_nil))), (pV_cons (List.mem_of_getElem? (i := 1) rfl) (pV_cons (List.mem_of_getElem? (i := 2) rfl) (pV_cons (List.mem_of_getElem? (i := 3) rfl) (pV_nil)))), f_48_0⟩
theorem q_48_1 : pQ_48 u_48_1 := ⟨_, _, _, _, (pS_cons ok_24 (pS_nil)), (pV_cons (List.mem_of_getElem? (i := 4) rfl) (pV_cons (List.mem_of_getElem? (i := 5) rfl) (pV_nil))), f_48_1⟩
theorem q_48_2 : pQ_48 u_48_2 := ⟨_, _, _, _, (pS_cons ok_24 (pS_nil)), (pV_cons (List.mem_of_getElem? (i := 4) rfl) (pV_cons (List.mem_of_getElem? (i := 5) rfl) (pV_nil))), f_48_2⟩
theorem q_48_3 : pQ_48 u_48_3 := ⟨_, _, _, _, (pS_nil), (pV_nil), f_48_3⟩
theorem q_48_4 : pQ_48 u_48_4 := ⟨_, _, _, _, (pS_cons ok_1 (pS_cons ok_47 (pS_nil))), (pV_cons (List.mem_of_getElem? (i := 6) rfl) (pV_nil)), f_48_4⟩
theorem q_48_5 : pQ_48 u_48_5 := ⟨_, _, _, _, (pS_cons ok_1 (pS_cons ok_47 (pS_nil))), (pV_cons (List.mem_of_getElem? (i := 6) rfl) (pV_nil)), f_48_5⟩
theorem q_48_6 : pQ_48 u_48_6 := ⟨_, _, _, _, (pS_cons ok_24 (pS_cons ok_25 (pS_nil))), (pV_cons (List.mem_of_getElem? (i := 3) rfl) (pV_cons (List.mem_of_getElem? (i := 1) rfl) (pV_cons (List.mem_of_getElem? (i := 2) rfl) (pV_nil)))), f_48_6⟩
theorem q_48_7 : pQ_48 u_48_7 := ⟨_, _, _, _, (pS_cons ok_24 (pS_cons ok_25 (pS_nil))), (pV_cons (List.mem_of_getElem? (i := 3) rfl) (pV_cons (List.mem_of_getElem? (i := 1) rfl) (pV_cons (List.mem_of_getElem? (i := 2) rfl) (pV_nil)))), f_48_7⟩
theorem qb_48_0 : ∀ u ∈ [u_48_0, u_48_1, u_48_2, u_48_3, u_48_4, u_48_5, u_48_6, u_48_7], pQ_48 u := pU_cons q_48_0 (pU_cons q_48_1 (pU_cons q_48_2 (pU_cons q_48_3 (pU_cons q_48_4 (pU_cons q_48_5 (pU_cons q_48_6 (pU_cons q_48_7 (pU_nil))))))))
theorem ok_48 : sInOk pPT i_48 := sInst3 (M := pm_179) (cus := us_48) pOk pg_179 (by decide +kernel) ⟨_, _, _, _, (pS_cons ok_47 (pS_nil)), (pV_cons (List.mem_of_getElem? (i := 0) rfl) (pV_nil)), e_48⟩ (show ∀ u ∈ us_48, pQ_48 u from qb_48_0)
def pQ_49 (u : sCu) : Prop := ∃ (SM : List sIn) (H : gHt) (cu : List sCu) (n : Nat), (∀ I ∈ SM, sInOk pPT I) ∧ (∀ v ∈ cu, v ∈ us_49) ∧ sWhU pPT SM H i_49 (mR pm_183) cu n u = true
theorem q_49_0 : pQ_49 u_49_0 := ⟨_, _, _, _, (pS_cons ok_27 (pS_cons ok_28 (pS_nil))), (pV_cons (List.mem_of_getElem? (i := 1) rfl) (pV_cons (List.mem_of_getElem? (i := 2) rfl) (pV_cons (List.mem_of_getElem? (i := 3) rfl) (pV_nil)))), f_49_0⟩
theorem q_49_1 : pQ_49 u_49_1 := ⟨_, _, _, _, (pS_cons ok_27 (pS_nil)), (pV_cons (List.mem_of_getElem? (i := 4) rfl) (pV_cons (List.mem_of_getElem? (i := 5) rfl) (pV_nil))), f_49_1⟩
theorem q_49_2 : pQ_49 u_49_2 := ⟨_, _, _, _, (pS_cons ok_27 (pS_nil)), (pV_cons (List.mem_of_getElem? (i := 4) rfl) (pV_cons (List.mem_of_getElem? (i := 5) rfl) (pV_nil))), f_49_2⟩
theorem q_49_3 : pQ_49 u_49_3 := ⟨_, _, _, _, (pS_nil), (pV_nil), f_49_3⟩
theorem q_49_4 : pQ_49 u_49_4 := ⟨_, _, _, _, (pS_cons ok_1 (pS_cons ok_48 (pS_nil))), (pV_cons (List.mem_of_getElem? (i := 6) rfl) (pV_nil)), f_49_4⟩
theorem q_49_5 : pQ_49 u_49_5 := ⟨_, _, _, _, (pS_cons ok_1 (pS_cons ok_48 (pS_nil))), (pV_cons (List.mem_of_getElem? (i := 6) rfl) (pV_nil)), f_49_5⟩
theorem q_49_6 : pQ_49 u_49_6 := ⟨_, _, _, _, (pS_cons ok_27 (pS_cons ok_28 (pS_nil))), (pV_cons (List.mem_of_getElem? (i := 3) rfl) (pV_cons (List.mem_of_getElem? (i := 1) rfl) (pV_cons (List.mem_of_getElem? (i := 2) rfl) (pV_nil)))), f_49_6⟩
theorem q_49_7 : pQ_49 u_49_7 := ⟨_, _, _, _, (pS_cons ok_27 (pS_cons ok_28 (pS_nil))), (pV_cons (List.mem_of_getElem? (i := 3) rfl) (pV_cons (List.mem_of_getElem? (i := 1) rfl) (pV_cons (List.mem_of_getElem? (i := 2) rfl) (pV_nil)))), f_49_7⟩
theorem qb_49_0 : ∀ u ∈ [u_49_0, u_49_1, u_49_2, u_49_3, u_49_4, u_49_5, u_49_6, u_49_7], pQ_49 u := pU_cons q_49_0 (pU_cons q_49_1 (pU_cons q_49_2 (pU_cons q_49_3 (pU_cons q_49_4 (pU_cons q_49_5 (pU_cons q_49_6 (pU_cons q_49_7 (pU_nil))))))))
theorem ok_49 : sInOk pPT i_49 := sInst3 (M := pm_183) (cus := us_49) pOk pg_183 (by decide +kernel) ⟨_, _, _, _, (pS_cons ok_48 (pS_nil)), (pV_cons (List.mem_of_getElem? (i := 0) rfl) (pV_nil)), e_49⟩ (show ∀ u ∈ us_49, pQ_49 u from qb_49_0)
def pQ_50 (u : sCu) : Prop := ∃ (SM : List sIn) (H : gHt) (cu : List sCu) (n : Nat), (∀ I ∈ SM, sInOk pPT I) ∧ (∀ v ∈ cu, v ∈ us_50) ∧ sWhU pPT SM H i_50 (mR pm_184) cu n u = true
theorem q_50_0 : pQ_50 u_50_0 := ⟨_, _, _, _, (pS_cons ok_1 (pS_cons ok_49 (pS_nil))), (pV_cons (List.mem_of_getElem? (i := 2) rfl) (pV_nil)), f_50_0⟩
theorem q_50_1 : pQ_50 u_50_1 := ⟨_, _, _, _, (pS_cons ok_1 (pS_cons ok_49 (pS_nil))), (pV_cons (List.mem_of_getElem? (i := 3) rfl) (pV_nil)), f_50_1⟩
theorem q_50_2 : pQ_50 u_50_2 := ⟨_, _, _, _, (pS_nil), (pV_nil), f_50_2⟩
theorem q_50_3 : pQ_50 u_50_3 := ⟨_, _, _, _, (pS_nil), (pV_nil), f_50_3⟩
theorem qb_50_0 : ∀ u ∈ [u_50_0, u_50_1, u_50_2, u_50_3], pQ_50 u := pU_cons q_50_0 (pU_cons q_50_1 (pU_cons q_50_2 (pU_cons q_50_3 (pU_nil))))
theorem ok_50 : sInOk pPT i_50 := sInst3 (M := pm_184) (cus := us_50) pOk pg_184 (by decide +kernel) ⟨_, _, _, _, (pS_cons ok_30 (pS_cons ok_31 (pS_cons ok_49 (pS_nil)))), (pV_cons (List.mem_of_getElem? (i := 0) rfl) (pV_cons (List.mem_of_getElem? (i := 1) rfl) (pV_nil))), e_50⟩ (show ∀ u ∈ us_50, pQ_50 u from qb_50_0)
def pQ_51 (u : sCu) : Prop := ∃ (SM : List sIn) (H : gHt) (cu : List sCu) (n : Nat), (∀ I ∈ SM, sInOk pPT I) ∧ (∀ v ∈ cu, v ∈ us_51) ∧ sWhU pPT SM H i_51 (mR pm_177) cu n u = true
theorem q_51_0 : pQ_51 u_51_0 := ⟨_, _, _, _, (pS_cons ok_1 (pS_cons ok_11 (pS_nil))), (pV_cons (List.mem_of_getElem? (i := 1) rfl) (pV_cons (List.mem_of_getElem? (i := 2) rfl) (pV_nil))), f_51_0⟩
theorem q_51_1 : pQ_51 u_51_1 := ⟨_, _, _, _, (pS_nil), (pV_cons (List.mem_of_getElem? (i := 3) rfl) (pV_nil)), f_51_1⟩
theorem q_51_2 : pQ_51 u_51_2 := ⟨_, _, _, _, (pS_cons ok_1 (pS_cons ok_11 (pS_nil))), (pV_cons (List.mem_of_getElem? (i := 4) rfl) (pV_cons (List.mem_of_getElem? (i := 5) rfl) (pV_nil))), f_51_2⟩
theorem q_51_3 : pQ_51 u_51_3 := ⟨_, _, _, _, (pS_cons ok_50 (pS_nil)), (pV_cons (List.mem_of_getElem? (i := 6) rfl) (pV_nil)), f_51_3⟩
theorem q_51_4 : pQ_51 u_51_4 := ⟨_, _, _, _, (pS_nil), (pV_cons (List.mem_of_getElem? (i := 7) rfl) (pV_nil)), f_51_4⟩
theorem q_51_5 : pQ_51 u_51_5 := ⟨_, _, _, _, (pS_cons ok_1 (pS_cons ok_11 (pS_nil))), (pV_cons (List.mem_of_getElem? (i := 8) rfl) (pV_cons (List.mem_of_getElem? (i := 9) rfl) (pV_nil))), f_51_5⟩
theorem q_51_6 : pQ_51 u_51_6 := ⟨_, _, _, _, (pS_nil), (pV_nil), f_51_6⟩
theorem q_51_7 : pQ_51 u_51_7 := ⟨_, _, _, _, (pS_cons ok_50 (pS_nil)), (pV_cons (List.mem_of_getElem? (i := 10) rfl) (pV_nil)), f_51_7⟩
theorem q_51_8 : pQ_51 u_51_8 := ⟨_, _, _, _, (pS_nil), (pV_cons (List.mem_of_getElem? (i := 11) rfl) (pV_nil)), f_51_8⟩
theorem q_51_9 : pQ_51 u_51_9 := ⟨_, _, _, _, (pS_cons ok_1 (pS_cons ok_11 (pS_nil))), (pV_cons (List.mem_of_getElem? (i := 12) rfl) (pV_cons (List.mem_of_getElem? (i := 13) rfl) (pV_nil))), f_51_9⟩
theorem q_51_10 : pQ_51 u_51_10 := ⟨_, _, _, _, (pS_nil), (pV_cons (List.mem_of_getElem? (i := 10) rfl) (pV_nil)), f_51_10⟩
theorem q_51_11 : pQ_51 u_51_11 := ⟨_, _, _, _, (pS_cons ok_50 (pS_nil)), (pV_cons (List.mem_of_getElem? (i := 14) rfl) (pV_nil)), f_51_11⟩
theorem q_51_12 : pQ_51 u_51_12 := ⟨_, _, _, _, (pS_nil), (pV_cons (List.mem_of_getElem? (i := 15) rfl) (pV_nil)), f_51_12⟩
theorem q_51_13 : pQ_51 u_51_13 := ⟨_, _, _, _, (pS_cons ok_1 (pS_cons ok_11 (pS_nil))), (pV_cons (List.mem_of_getElem? (i := 16) rfl) (pV_cons (List.mem_of_getElem? (i := 17) rfl) (pV_nil))), f_51_13⟩
theorem q_51_14 : pQ_51 u_51_14 := ⟨_, _, _, _, (pS_nil), (pV_cons (List.mem_of_getElem? (i := 14) rfl) (pV_nil)), f_51_14⟩
theorem q_51_15 : pQ_51 u_51_15 := ⟨_, _, _, _, (pS_cons ok_50 (pS_nil)), (pV_cons (List.mem_of_getElem? (i := 18) rfl) (pV_nil)), f_51_15⟩
theorem q_51_16 : pQ_51 u_51_16 := ⟨_, _, _, _, (pS_nil), (pV_cons (List.mem_of_getElem? (i := 19) rfl) (pV_nil)), f_51_16⟩
theorem q_51_17 : pQ_51 u_51_17 := ⟨_, _, _, _, (pS_cons ok_1 (pS_cons ok_11 (pS_nil))), (pV_cons (List.mem_of_getElem? (i := 20) rfl) (pV_cons (List.mem_of_getElem? (i := 21) rfl) (pV_nil))), f_51_17⟩
theorem q_51_18 : pQ_51 u_51_18 := ⟨_, _, _, _, (pS_nil), (pV_cons (List.mem_of_getElem? (i := 18) rfl) (pV_nil)), f_51_18⟩
theorem q_51_19 : pQ_51 u_51_19 := ⟨_, _, _, _, (pS_cons ok_50 (pS_nil)), (pV_cons (List.mem_of_getElem? (i := 22) rfl) (pV_nil)), f_51_19⟩
theorem q_51_20 : pQ_51 u_51_20 := ⟨_, _, _, _, (pS_nil), (pV_cons (List.mem_of_getElem? (i := 23) rfl) (pV_nil)), f_51_20⟩
theorem q_51_21 : pQ_51 u_51_21 := ⟨_, _, _, _, (pS_nil), (pV_cons (List.mem_of_getElem? (i := 24) rfl) (pV_nil)), f_51_21⟩
theorem q_51_22 : pQ_51 u_51_22 := ⟨_, _, _, _, (pS_nil), (pV_cons (List.mem_of_getElem? (i := 22) rfl) (pV_nil)), f_51_22⟩
theorem q_51_23 : pQ_51 u_51_23 := ⟨_, _, _, _, (pS_cons ok_50 (pS_nil)), (pV_cons (List.mem_of_getElem? (i := 25) rfl) (pV_nil)), f_51_23⟩
theorem q_51_24 : pQ_51 u_51_24 := ⟨_, _, _, _, (pS_cons ok_11 (pS_nil)), (pV_cons (List.mem_of_getElem? (i := 26) rfl) (pV_nil)), f_51_24⟩
theorem q_51_25 : pQ_51 u_51_25 := ⟨_, _, _, _, (pS_nil), (pV_cons (List.mem_of_getElem? (i := 25) rfl) (pV_nil)), f_51_25⟩
theorem q_51_26 : pQ_51 u_51_26 := ⟨_, _, _, _, (pS_cons ok_50 (pS_nil)), (pV_cons (List.mem_of_getElem? (i := 27) rfl) (pV_nil)), f_51_26⟩
theorem q_51_27 : pQ_51 u_51_27 := ⟨_, _, _, _, (pS_nil), (pV_cons (List.mem_of_getElem? (i := 27) rfl) (pV_nil)), f_51_27⟩
theorem qb_51_0 : ∀ u ∈ [u_51_0, u_51_1, u_51_2, u_51_3, u_51_4, u_51_5, u_51_6, u_51_7, u_51_8, u_51_9], pQ_51 u := pU_cons q_51_0 (pU_cons q_51_1 (pU_cons q_51_2 (pU_cons q_51_3 (pU_cons q_51_4 (pU_cons q_51_5 (pU_cons q_51_6 (pU_cons q_51_7 (pU_cons q_51_8 (pU_cons q_51_9 (pU_nil))))))))))
theorem qb_51_1 : ∀ u ∈ [u_51_10, u_51_11, u_51_12, u_51_13, u_51_14, u_51_15, u_51_16, u_51_17, u_51_18, u_51_19], pQ_51 u := pU_cons q_51_10 (pU_cons q_51_11 (pU_cons q_51_12 (pU_cons q_51_13 (pU_cons q_51_14 (pU_cons q_51_15 (pU_cons q_51_16 (pU_cons q_51_17 (pU_cons q_51_18 (pU_cons q_51_19 (pU_nil))))))))))
theorem qb_51_2 : ∀ u ∈ [u_51_20, u_51_21, u_51_22, u_51_23, u_51_24, u_51_25, u_51_26, u_51_27], pQ_51 u := pU_cons q_51_20 (pU_cons q_51_21 (pU_cons q_51_22 (pU_cons q_51_23 (pU_cons q_51_24 (pU_cons q_51_25 (pU_cons q_51_26 (pU_cons q_51_27 (pU_nil))))))))
theorem ok_51 : sInOk pPT i_51 := sInst3 (M := pm_177) (cus := us_51) pOk pg_177 (by decide +kernel) ⟨_, _, _, _, (pS_nil), (pV_cons (List.mem_of_getElem? (i := 0) rfl) (pV_nil)), e_51⟩ (show ∀ u ∈ us_51, pQ_51 u from (pU_app qb_51_0 (pU_app qb_51_1 qb_51_2)))
def pQ_52 (u : sCu) : Prop := ∃ (SM : List sIn) (H : gHt) (cu : List sCu) (n : Nat), (∀ I ∈ SM, sInOk pPT I) ∧ (∀ v ∈ cu, v ∈ us_52) ∧ sWhU pPT SM H i_52 (mR pm_173) cu n u = true
theorem q_52_0 : pQ_52 u_52_0 := ⟨_, _, _, _, (pS_cons ok_1 (pS_cons ok_34 (pS_cons ok_51 (pS_nil)))), (pV_cons (List.mem_of_getElem? (i := 1) rfl) (pV_cons (List.mem_of_getElem? (i := 0) rfl) (pV_nil))), f_52_0⟩
theorem q_52_1 : pQ_52 u_52_1 := ⟨_, _, _, _, (pS_nil), (pV_nil), f_52_1⟩
theorem qb_52_0 : ∀ u ∈ [u_52_0, u_52_1], pQ_52 u := pU_cons q_52_0 (pU_cons q_52_1 (pU_nil))
theorem ok_52 : sInOk pPT i_52 := sInst3 (M := pm_173) (cus := us_52) pOk pg_173 (by decide +kernel) ⟨_, _, _, _, (pS_cons ok_51 (pS_nil)), (pV_cons (List.mem_of_getElem? (i := 0) rfl) (pV_nil)), e_52⟩ (show ∀ u ∈ us_52, pQ_52 u from qb_52_0)
def pQ_53 (u : sCu) : Prop := ∃ (SM : List sIn) (H : gHt) (cu : List sCu) (n : Nat), (∀ I ∈ SM, sInOk pPT I) ∧ (∀ v ∈ cu, v ∈ us_53) ∧ sWhU pPT SM H i_53 (mR pm_174) cu n u = true
theorem q_53_0 : pQ_53 u_53_0 := ⟨_, _, _, _, (pS_cons ok_1 (pS_cons ok_36 (pS_cons ok_52 (pS_nil)))), (pV_cons (List.mem_of_getElem? (i := 1) rfl) (pV_cons (List.mem_of_getElem? (i := 0) rfl) (pV_nil))), f_53_0⟩
theorem q_53_1 : pQ_53 u_53_1 := ⟨_, _, _, _, (pS_nil), (pV_nil), f_53_1⟩
theorem qb_53_0 : ∀ u ∈ [u_53_0, u_53_1], pQ_53 u := pU_cons q_53_0 (pU_cons q_53_1 (pU_nil))
theorem ok_53 : sInOk pPT i_53 := sInst3 (M := pm_174) (cus := us_53) pOk pg_174 (by decide +kernel) ⟨_, _, _, _, (pS_cons ok_52 (pS_nil)), (pV_cons (List.mem_of_getElem? (i := 0) rfl) (pV_nil)), e_53⟩ (show ∀ u ∈ us_53, pQ_53 u from qb_53_0)
def pQ_54 (u : sCu) : Prop := ∃ (SM : List sIn) (H : gHt) (cu : List sCu) (n : Nat), (∀ I ∈ SM, sInOk pPT I) ∧ (∀ v ∈ cu, v ∈ us_54) ∧ sWhU pPT SM H i_54 (mR pm_178) cu n u = true
theorem q_54_0 : pQ_54 u_54_0 := ⟨_, _, _, _, (pS_nil), (pV_nil), f_54_0⟩
theorem qb_54_0 : ∀ u ∈ [u_54_0], pQ_54 u := pU_cons q_54_0 (pU_nil)
theorem ok_54 : sInOk pPT i_54 := sInst3 (M := pm_178) (cus := us_54) pOk pg_178 (by decide +kernel) ⟨_, _, _, _, (pS_cons ok_1 (pS_cons ok_12 (pS_cons ok_13 (pS_cons ok_14 (pS_cons ok_15 (pS_cons ok_16 (pS_cons ok_17 (pS_cons ok_18 (pS_cons ok_19 (pS_cons ok_20 (pS_cons ok_22 (pS_cons ok_39 (pS_cons ok_53 (pS_nil)))))))))))))), (pV_cons (List.mem_of_getElem? (i := 0) rfl) (pV_nil)), e_54⟩ (show ∀ u ∈ us_54, pQ_54 u from qb_54_0)
def pQ_55 (u : sCu) : Prop := ∃ (SM : List sIn) (H : gHt) (cu : List sCu) (n : Nat), (∀ I ∈ SM, sInOk pPT I) ∧ (∀ v ∈ cu, v ∈ us_55) ∧ sWhU pPT SM H i_55 (mR pm_179) cu n u = true
theorem q_55_0 : pQ_55 u_55_0 := ⟨_, _, _, _, (pS_cons ok_24 (pS_cons ok_25 (pS_nil))), (pV_cons (List.mem_of_getElem? (i := 1) rfl) (pV_cons (List.mem_of_getElem? (i := 2) rfl) (pV_cons (List.mem_of_getElem? (i := 3) rfl) (pV_nil)))), f_55_0⟩
theorem q_55_1 : pQ_55 u_55_1 := ⟨_, _, _, _, (pS_cons ok_24 (pS_nil)), (pV_cons (List.mem_of_getElem? (i := 4) rfl) (pV_cons (List.mem_of_getElem? (i := 5) rfl) (pV_nil))), f_55_1⟩
theorem q_55_2 : pQ_55 u_55_2 := ⟨_, _, _, _, (pS_cons ok_24 (pS_nil)), (pV_cons (List.mem_of_getElem? (i := 4) rfl) (pV_cons (List.mem_of_getElem? (i := 5) rfl) (pV_nil))), f_55_2⟩
theorem q_55_3 : pQ_55 u_55_3 := ⟨_, _, _, _, (pS_nil), (pV_nil), f_55_3⟩
theorem q_55_4 : pQ_55 u_55_4 := ⟨_, _, _, _, (pS_cons ok_1 (pS_cons ok_54 (pS_nil))), (pV_cons (List.mem_of_getElem? (i := 6) rfl) (pV_nil)), f_55_4⟩
theorem q_55_5 : pQ_55 u_55_5 := ⟨_, _, _, _, (pS_cons ok_1 (pS_cons ok_54 (pS_nil))), (pV_cons (List.mem_of_getElem? (i := 6) rfl) (pV_nil)), f_55_5⟩
theorem q_55_6 : pQ_55 u_55_6 := ⟨_, _, _, _, (pS_cons ok_24 (pS_cons ok_25 (pS_nil))), (pV_cons (List.mem_of_getElem? (i := 3) rfl) (pV_cons (List.mem_of_getElem? (i := 1) rfl) (pV_cons (List.mem_of_getElem? (i := 2) rfl) (pV_nil)))), f_55_6⟩
theorem q_55_7 : pQ_55 u_55_7 := ⟨_, _, _, _, (pS_cons ok_24 (pS_cons ok_25 (pS_nil))), (pV_cons (List.mem_of_getElem? (i := 3) rfl) (pV_cons (List.mem_of_getElem? (i := 1) rfl) (pV_cons (List.mem_of_getElem? (i := 2) rfl) (pV_nil)))), f_55_7⟩
theorem qb_55_0 : ∀ u ∈ [u_55_0, u_55_1, u_55_2, u_55_3, u_55_4, u_55_5, u_55_6, u_55_7], pQ_55 u := pU_cons q_55_0 (pU_cons q_55_1 (pU_cons q_55_2 (pU_cons q_55_3 (pU_cons q_55_4 (pU_cons q_55_5 (pU_cons q_55_6 (pU_cons q_55_7 (pU_nil))))))))
theorem ok_55 : sInOk pPT i_55 := sInst3 (M := pm_179) (cus := us_55) pOk pg_179 (by decide +kernel) ⟨_, _, _, _, (pS_cons ok_54 (pS_nil)), (pV_cons (List.mem_of_getElem? (i := 0) rfl) (pV_nil)), e_55⟩ (show ∀ u ∈ us_55, pQ_55 u from qb_55_0)
def pQ_56 (u : sCu) : Prop := ∃ (SM : List sIn) (H : gHt) (cu : List sCu) (n : Nat), (∀ I ∈ SM, sInOk pPT I) ∧ (∀ v ∈ cu, v ∈ us_56) ∧ sWhU pPT SM H i_56 (mR pm_183) cu n u = true
theorem q_56_0 : pQ_56 u_56_0 := ⟨_, _, _, _, (pS_cons ok_27 (pS_cons ok_28 (pS_nil))), (pV_cons (List.mem_of_getElem? (i := 1) rfl) (pV_cons (List.mem_of_getElem? (i := 2) rfl) (pV_cons (List.mem_of_getElem? (i := 3) rfl) (pV_nil)))), f_56_0⟩
theorem q_56_1 : pQ_56 u_56_1 := ⟨_, _, _, _, (pS_cons ok_27 (pS_nil)), (pV_cons (List.mem_of_getElem? (i := 4) rfl) (pV_cons (List.mem_of_getElem? (i := 5) rfl) (pV_nil))), f_56_1⟩
theorem q_56_2 : pQ_56 u_56_2 := ⟨_, _, _, _, (pS_cons ok_27 (pS_nil)), (pV_cons (List.mem_of_getElem? (i := 4) rfl) (pV_cons (List.mem_of_getElem? (i := 5) rfl) (pV_nil))), f_56_2⟩
theorem q_56_3 : pQ_56 u_56_3 := ⟨_, _, _, _, (pS_nil), (pV_nil), f_56_3⟩
theorem q_56_4 : pQ_56 u_56_4 := ⟨_, _, _, _, (pS_cons ok_1 (pS_cons ok_55 (pS_nil))), (pV_cons (List.mem_of_getElem? (i := 6) rfl) (pV_nil)), f_56_4⟩
theorem q_56_5 : pQ_56 u_56_5 := ⟨_, _, _, _, (pS_cons ok_1 (pS_cons ok_55 (pS_nil))), (pV_cons (List.mem_of_getElem? (i := 6) rfl) (pV_nil)), f_56_5⟩
theorem q_56_6 : pQ_56 u_56_6 := ⟨_, _, _, _, (pS_cons ok_27 (pS_cons ok_28 (pS_nil))), (pV_cons (List.mem_of_getElem? (i := 3) rfl) (pV_cons (List.mem_of_getElem? (i := 1) rfl) (pV_cons (List.mem_of_getElem? (i := 2) rfl) (pV_nil)))), f_56_6⟩
theorem q_56_7 : pQ_56 u_56_7 := ⟨_, _, _, _, (pS_cons ok_27 (pS_cons ok_28 (pS_nil))), (pV_cons (List.mem_of_getElem? (i := 3) rfl) (pV_cons (List.mem_of_getElem? (i := 1) rfl) (pV_cons (List.mem_of_getElem? (i := 2) rfl) (pV_nil)))), f_56_7⟩
theorem qb_56_0 : ∀ u ∈ [u_56_0, u_56_1, u_56_2, u_56_3, u_56_4, u_56_5, u_56_6, u_56_7], pQ_56 u := pU_cons q_56_0 (pU_cons q_56_1 (pU_cons q_56_2 (pU_cons q_56_3 (pU_cons q_56_4 (pU_cons q_56_5 (pU_cons q_56_6 (pU_cons q_56_7 (pU_nil))))))))
theorem ok_56 : sInOk pPT i_56 := sInst3 (M := pm_183) (cus := us_56) pOk pg_183 (by decide +kernel) ⟨_, _, _, _, (pS_cons ok_55 (pS_nil)), (pV_cons (List.mem_of_getElem? (i := 0) rfl) (pV_nil)), e_56⟩ (show ∀ u ∈ us_56, pQ_56 u from qb_56_0)
def pQ_57 (u : sCu) : Prop := ∃ (SM : List sIn) (H : gHt) (cu : List sCu) (n : Nat), (∀ I ∈ SM, sInOk pPT I) ∧ (∀ v ∈ cu, v ∈ us_57) ∧ sWhU pPT SM H i_57 (mR pm_184) cu n u = true
theorem q_57_0 : pQ_57 u_57_0 := ⟨_, _, _, _, (pS_cons ok_1 (pS_cons ok_56 (pS_nil))), (pV_cons (List.mem_of_getElem? (i := 2) rfl) (pV_nil)), f_57_0⟩
theorem q_57_1 : pQ_57 u_57_1 := ⟨_, _, _, _, (pS_cons ok_1 (pS_cons ok_56 (pS_nil))), (pV_cons (List.mem_of_getElem? (i := 3) rfl) (pV_nil)), f_57_1⟩
theorem q_57_2 : pQ_57 u_57_2 := ⟨_, _, _, _, (pS_nil), (pV_nil), f_57_2⟩
theorem q_57_3 : pQ_57 u_57_3 := ⟨_, _, _, _, (pS_nil), (pV_nil), f_57_3⟩
theorem qb_57_0 : ∀ u ∈ [u_57_0, u_57_1, u_57_2, u_57_3], pQ_57 u := pU_cons q_57_0 (pU_cons q_57_1 (pU_cons q_57_2 (pU_cons q_57_3 (pU_nil))))
theorem ok_57 : sInOk pPT i_57 := sInst3 (M := pm_184) (cus := us_57) pOk pg_184 (by decide +kernel) ⟨_, _, _, _, (pS_cons ok_30 (pS_cons ok_31 (pS_cons ok_56 (pS_nil)))), (pV_cons (List.mem_of_getElem? (i := 0) rfl) (pV_cons (List.mem_of_getElem? (i := 1) rfl) (pV_nil))), e_57⟩ (show ∀ u ∈ us_57, pQ_57 u from qb_57_0)
def pQ_58 (u : sCu) : Prop := ∃ (SM : List sIn) (H : gHt) (cu : List sCu) (n : Nat), (∀ I ∈ SM, sInOk pPT I) ∧ (∀ v ∈ cu, v ∈ us_58) ∧ sWhU pPT SM H i_58 (mR pm_177) cu n u = true
theorem q_58_0 : pQ_58 u_58_0 := ⟨_, _, _, _, (pS_cons ok_1 (pS_cons ok_11 (pS_nil))), (pV_cons (List.mem_of_getElem? (i := 1) rfl) (pV_cons (List.mem_of_getElem? (i := 2) rfl) (pV_nil))), f_58_0⟩
theorem q_58_1 : pQ_58 u_58_1 := ⟨_, _, _, _, (pS_nil), (pV_cons (List.mem_of_getElem? (i := 3) rfl) (pV_nil)), f_58_1⟩
theorem q_58_2 : pQ_58 u_58_2 := ⟨_, _, _, _, (pS_cons ok_1 (pS_cons ok_11 (pS_nil))), (pV_cons (List.mem_of_getElem? (i := 4) rfl) (pV_cons (List.mem_of_getElem? (i := 5) rfl) (pV_nil))), f_58_2⟩
theorem q_58_3 : pQ_58 u_58_3 := ⟨_, _, _, _, (pS_cons ok_57 (pS_nil)), (pV_cons (List.mem_of_getElem? (i := 6) rfl) (pV_nil)), f_58_3⟩
theorem q_58_4 : pQ_58 u_58_4 := ⟨_, _, _, _, (pS_nil), (pV_cons (List.mem_of_getElem? (i := 7) rfl) (pV_nil)), f_58_4⟩
theorem q_58_5 : pQ_58 u_58_5 := ⟨_, _, _, _, (pS_cons ok_1 (pS_cons ok_11 (pS_nil))), (pV_cons (List.mem_of_getElem? (i := 8) rfl) (pV_cons (List.mem_of_getElem? (i := 9) rfl) (pV_nil))), f_58_5⟩
theorem q_58_6 : pQ_58 u_58_6 := ⟨_, _, _, _, (pS_nil), (pV_nil), f_58_6⟩
theorem q_58_7 : pQ_58 u_58_7 := ⟨_, _, _, _, (pS_cons ok_57 (pS_nil)), (pV_cons (List.mem_of_getElem? (i := 10) rfl) (pV_nil)), f_58_7⟩
theorem q_58_8 : pQ_58 u_58_8 := ⟨_, _, _, _, (pS_nil), (pV_cons (List.mem_of_getElem? (i := 11) rfl) (pV_nil)), f_58_8⟩
theorem q_58_9 : pQ_58 u_58_9 := ⟨_, _, _, _, (pS_cons ok_1 (pS_cons ok_11 (pS_nil))), (pV_cons (List.mem_of_getElem? (i := 12) rfl) (pV_cons (List.mem_of_getElem? (i := 13) rfl) (pV_nil))), f_58_9⟩
theorem q_58_10 : pQ_58 u_58_10 := ⟨_, _, _, _, (pS_nil), (pV_cons (List.mem_of_getElem? (i := 10) rfl) (pV_nil)), f_58_10⟩
theorem q_58_11 : pQ_58 u_58_11 := ⟨_, _, _, _, (pS_cons ok_57 (pS_nil)), (pV_cons (List.mem_of_getElem? (i := 14) rfl) (pV_nil)), f_58_11⟩
theorem q_58_12 : pQ_58 u_58_12 := ⟨_, _, _, _, (pS_nil), (pV_cons (List.mem_of_getElem? (i := 15) rfl) (pV_nil)), f_58_12⟩
theorem q_58_13 : pQ_58 u_58_13 := ⟨_, _, _, _, (pS_cons ok_1 (pS_cons ok_11 (pS_nil))), (pV_cons (List.mem_of_getElem? (i := 16) rfl) (pV_cons (List.mem_of_getElem? (i := 17) rfl) (pV_nil))), f_58_13⟩
theorem q_58_14 : pQ_58 u_58_14 := ⟨_, _, _, _, (pS_nil), (pV_cons (List.mem_of_getElem? (i := 14) rfl) (pV_nil)), f_58_14⟩
theorem q_58_15 : pQ_58 u_58_15 := ⟨_, _, _, _, (pS_cons ok_57 (pS_nil)), (pV_cons (List.mem_of_getElem? (i := 18) rfl) (pV_nil)), f_58_15⟩
theorem q_58_16 : pQ_58 u_58_16 := ⟨_, _, _, _, (pS_nil), (pV_cons (List.mem_of_getElem? (i := 19) rfl) (pV_nil)), f_58_16⟩
theorem q_58_17 : pQ_58 u_58_17 := ⟨_, _, _, _, (pS_cons ok_1 (pS_cons ok_11 (pS_nil))), (pV_cons (List.mem_of_getElem? (i := 20) rfl) (pV_cons (List.mem_of_getElem? (i := 21) rfl) (pV_nil))), f_58_17⟩
theorem q_58_18 : pQ_58 u_58_18 := ⟨_, _, _, _, (pS_nil), (pV_cons (List.mem_of_getElem? (i := 18) rfl) (pV_nil)), f_58_18⟩
theorem q_58_19 : pQ_58 u_58_19 := ⟨_, _, _, _, (pS_cons ok_57 (pS_nil)), (pV_cons (List.mem_of_getElem? (i := 22) rfl) (pV_nil)), f_58_19⟩
theorem q_58_20 : pQ_58 u_58_20 := ⟨_, _, _, _, (pS_nil), (pV_cons (List.mem_of_getElem? (i := 23) rfl) (pV_nil)), f_58_20⟩
theorem q_58_21 : pQ_58 u_58_21 := ⟨_, _, _, _, (pS_nil), (pV_cons (List.mem_of_getElem? (i := 24) rfl) (pV_nil)), f_58_21⟩
theorem q_58_22 : pQ_58 u_58_22 := ⟨_, _, _, _, (pS_nil), (pV_cons (List.mem_of_getElem? (i := 22) rfl) (pV_nil)), f_58_22⟩
theorem q_58_23 : pQ_58 u_58_23 := ⟨_, _, _, _, (pS_cons ok_57 (pS_nil)), (pV_cons (List.mem_of_getElem? (i := 25) rfl) (pV_nil)), f_58_23⟩
theorem q_58_24 : pQ_58 u_58_24 := ⟨_, _, _, _, (pS_cons ok_11 (pS_nil)), (pV_cons (List.mem_of_getElem? (i := 26) rfl) (pV_nil)), f_58_24⟩
theorem q_58_25 : pQ_58 u_58_25 := ⟨_, _, _, _, (pS_nil), (pV_cons (List.mem_of_getElem? (i := 25) rfl) (pV_nil)), f_58_25⟩
theorem q_58_26 : pQ_58 u_58_26 := ⟨_, _, _, _, (pS_cons ok_57 (pS_nil)), (pV_cons (List.mem_of_getElem? (i := 27) rfl) (pV_nil)), f_58_26⟩
theorem q_58_27 : pQ_58 u_58_27 := ⟨_, _, _, _, (pS_nil), (pV_cons (List.mem_of_getElem? (i := 27) rfl) (pV_nil)), f_58_27⟩
theorem qb_58_0 : ∀ u ∈ [u_58_0, u_58_1, u_58_2, u_58_3, u_58_4, u_58_5, u_58_6, u_58_7, u_58_8, u_58_9], pQ_58 u := pU_cons q_58_0 (pU_cons q_58_1 (pU_cons q_58_2 (pU_cons q_58_3 (pU_cons q_58_4 (pU_cons q_58_5 (pU_cons q_58_6 (pU_cons q_58_7 (pU_cons q_58_8 (pU_cons q_58_9 (pU_nil))))))))))
theorem qb_58_1 : ∀ u ∈ [u_58_10, u_58_11, u_58_12, u_58_13, u_58_14, u_58_15, u_58_16, u_58_17, u_58_18, u_58_19], pQ_58 u := pU_cons q_58_10 (pU_cons q_58_11 (pU_cons q_58_12 (pU_cons q_58_13 (pU_cons q_58_14 (pU_cons q_58_15 (pU_cons q_58_16 (pU_cons q_58_17 (pU_cons q_58_18 (pU_cons q_58_19 (pU_nil))))))))))
theorem qb_58_2 : ∀ u ∈ [u_58_20, u_58_21, u_58_22, u_58_23, u_58_24, u_58_25, u_58_26, u_58_27], pQ_58 u := pU_cons q_58_20 (pU_cons q_58_21 (pU_cons q_58_22 (pU_cons q_58_23 (pU_cons q_58_24 (pU_cons q_58_25 (pU_cons q_58_26 (pU_cons q_58_27 (pU_nil))))))))
theorem ok_58 : sInOk pPT i_58 := sInst3 (M := pm_177) (cus := us_58) pOk pg_177 (by decide +kernel) ⟨_, _, _, _, (pS_nil), (pV_cons (List.mem_of_getElem? (i := 0) rfl) (pV_nil)), e_58⟩ (show ∀ u ∈ us_58, pQ_58 u from (pU_app qb_58_0 (pU_app qb_58_1 qb_58_2)))
def pQ_59 (u : sCu) : Prop := ∃ (SM : List sIn) (H : gHt) (cu : List sCu) (n : Nat), (∀ I ∈ SM, sInOk pPT I) ∧ (∀ v ∈ cu, v ∈ us_59) ∧ sWhU pPT SM H i_59 (mR pm_173) cu n u = true
theorem q_59_0 : pQ_59 u_59_0 := ⟨_, _, _, _, (pS_cons ok_1 (pS_cons ok_34 (pS_cons ok_58 (pS_nil)))), (pV_cons (List.mem_of_getElem? (i := 1) rfl) (pV_cons (List.mem_of_getElem? (i := 0) rfl) (pV_nil))), f_59_0⟩
theorem q_59_1 : pQ_59 u_59_1 := ⟨_, _, _, _, (pS_nil), (pV_nil), f_59_1⟩
theorem qb_59_0 : ∀ u ∈ [u_59_0, u_59_1], pQ_59 u := pU_cons q_59_0 (pU_cons q_59_1 (pU_nil))
theorem ok_59 : sInOk pPT i_59 := sInst3 (M := pm_173) (cus := us_59) pOk pg_173 (by decide +kernel) ⟨_, _, _, _, (pS_cons ok_58 (pS_nil)), (pV_cons (List.mem_of_getElem? (i := 0) rfl) (pV_nil)), e_59⟩ (show ∀ u ∈ us_59, pQ_59 u from qb_59_0)
def pQ_60 (u : sCu) : Prop := ∃ (SM : List sIn) (H : gHt) (cu : List sCu) (n : Nat), (∀ I ∈ SM, sInOk pPT I) ∧ (∀ v ∈ cu, v ∈ us_60) ∧ sWhU pPT SM H i_60 (mR pm_174) cu n u = true
theorem q_60_0 : pQ_60 u_60_0 := ⟨_, _, _, _, (pS_cons ok_1 (pS_cons ok_36 (pS_cons ok_59 (pS_nil)))), (pV_cons (List.mem_of_getElem? (i := 1) rfl) (pV_cons (List.mem_of_getElem? (i := 0) rfl) (pV_nil))), f_60_0⟩
theorem q_60_1 : pQ_60 u_60_1 := ⟨_, _, _, _, (pS_nil), (pV_nil), f_60_1⟩
theorem qb_60_0 : ∀ u ∈ [u_60_0, u_60_1], pQ_60 u := pU_cons q_60_0 (pU_cons q_60_1 (pU_nil))
theorem ok_60 : sInOk pPT i_60 := sInst3 (M := pm_174) (cus := us_60) pOk pg_174 (by decide +kernel) ⟨_, _, _, _, (pS_cons ok_59 (pS_nil)), (pV_cons (List.mem_of_getElem? (i := 0) rfl) (pV_nil)), e_60⟩ (show ∀ u ∈ us_60, pQ_60 u from qb_60_0)
def pQ_61 (u : sCu) : Prop := ∃ (SM : List sIn) (H : gHt) (cu : List sCu) (n : Nat), (∀ I ∈ SM, sInOk pPT I) ∧ (∀ v ∈ cu, v ∈ us_61) ∧ sWhU pPT SM H i_61 (mR pm_178) cu n u = true
theorem q_61_0 : pQ_61 u_61_0 := ⟨_, _, _, _, (pS_nil), (pV_nil), f_61_0⟩
theorem qb_61_0 : ∀ u ∈ [u_61_0], pQ_61 u := pU_cons q_61_0 (pU_nil)
theorem ok_61 : sInOk pPT i_61 := sInst3 (M := pm_178) (cus := us_61) pOk pg_178 (by decide +kernel) ⟨_, _, _, _, (pS_cons ok_1 (pS_cons ok_12 (pS_cons ok_13 (pS_cons ok_14 (pS_cons ok_15 (pS_cons ok_16 (pS_cons ok_17 (pS_cons ok_18 (pS_cons ok_19 (pS_cons ok_20 (pS_cons ok_22 (pS_cons ok_39 (pS_cons ok_60 (pS_nil)))))))))))))), (pV_cons (List.mem_of_getElem? (i := 0) rfl) (pV_nil)), e_61⟩ (show ∀ u ∈ us_61, pQ_61 u from qb_61_0)
def pQ_62 (u : sCu) : Prop := ∃ (SM : List sIn) (H : gHt) (cu : List sCu) (n : Nat), (∀ I ∈ SM, sInOk pPT I) ∧ (∀ v ∈ cu, v ∈ us_62) ∧ sWhU pPT SM H i_62 (mR pm_179) cu n u = true
theorem q_62_0 : pQ_62 u_62_0 := ⟨_, _, _, _, (pS_cons ok_24 (pS_cons ok_25 (pS_nil))), (pV_cons (List.mem_of_getElem? (i := 1) rfl) (pV_cons (List.mem_of_getElem? (i := 2) rfl) (pV_cons (List.mem_of_getElem? (i := 3) rfl) (pV_nil)))), f_62_0⟩
theorem q_62_1 : pQ_62 u_62_1 := ⟨_, _, _, _, (pS_cons ok_24 (pS_nil)), (pV_cons (List.mem_of_getElem? (i := 4) rfl) (pV_cons (List.mem_of_getElem? (i := 5) rfl) (pV_nil))), f_62_1⟩
theorem q_62_2 : pQ_62 u_62_2 := ⟨_, _, _, _, (pS_cons ok_24 (pS_nil)), (pV_cons (List.mem_of_getElem? (i := 4) rfl) (pV_cons (List.mem_of_getElem? (i := 5) rfl) (pV_nil))), f_62_2⟩
theorem q_62_3 : pQ_62 u_62_3 := ⟨_, _, _, _, (pS_nil), (pV_nil), f_62_3⟩
theorem q_62_4 : pQ_62 u_62_4 := ⟨_, _, _, _, (pS_cons ok_1 (pS_cons ok_61 (pS_nil))), (pV_cons (List.mem_of_getElem? (i := 6) rfl) (pV_nil)), f_62_4⟩
theorem q_62_5 : pQ_62 u_62_5 := ⟨_, _, _, _, (pS_cons ok_1 (pS_cons ok_61 (pS_nil))), (pV_cons (List.mem_of_getElem? (i := 6) rfl) (pV_nil)), f_62_5⟩
theorem q_62_6 : pQ_62 u_62_6 := ⟨_, _, _, _, (pS_cons ok_24 (pS_cons ok_25 (pS_nil))), (pV_cons (List.mem_of_getElem? (i := 3) rfl) (pV_cons (List.mem_of_getElem? (i := 1) rfl) (pV_cons (List.mem_of_getElem? (i := 2) rfl) (pV_nil)))), f_62_6⟩
theorem q_62_7 : pQ_62 u_62_7 := ⟨_, _, _, _, (pS_cons ok_24 (pS_cons ok_25 (pS_nil))), (pV_cons (List.mem_of_getElem? (i := 3) rfl) (pV_cons (List.mem_of_getElem? (i := 1) rfl) (pV_cons (List.mem_of_getElem? (i := 2) rfl) (pV_nil)))), f_62_7⟩
theorem qb_62_0 : ∀ u ∈ [u_62_0, u_62_1, u_62_2, u_62_3, u_62_4, u_62_5, u_62_6, u_62_7], pQ_62 u := pU_cons q_62_0 (pU_cons q_62_1 (pU_cons q_62_2 (pU_cons q_62_3 (pU_cons q_62_4 (pU_cons q_62_5 (pU_cons q_62_6 (pU_cons q_62_7 (pU_nil))))))))
theorem ok_62 : sInOk pPT i_62 := sInst3 (M := pm_179) (cus := us_62) pOk pg_179 (by decide +kernel) ⟨_, _, _, _, (pS_cons ok_61 (pS_nil)), (pV_cons (List.mem_of_getElem? (i := 0) rfl) (pV_nil)), e_62⟩ (show ∀ u ∈ us_62, pQ_62 u from qb_62_0)
def pQ_63 (u : sCu) : Prop := ∃ (SM : List sIn) (H : gHt) (cu : List sCu) (n : Nat), (∀ I ∈ SM, sInOk pPT I) ∧ (∀ v ∈ cu, v ∈ us_63) ∧ sWhU pPT SM H i_63 (mR pm_183) cu n u = true
theorem q_63_0 : pQ_63 u_63_0 := ⟨_, _, _, _, (pS_cons ok_27 (pS_cons ok_28 (pS_nil))), (pV_cons (List.mem_of_getElem? (i := 1) rfl) (pV_cons (List.mem_of_getElem? (i := 2) rfl) (pV_cons (List.mem_of_getElem? (i := 3) rfl) (pV_nil)))), f_63_0⟩
theorem q_63_1 : pQ_63 u_63_1 := ⟨_, _, _, _, (pS_cons ok_27 (pS_nil)), (pV_cons (List.mem_of_getElem? (i := 4) rfl) (pV_cons (List.mem_of_getElem? (i := 5) rfl) (pV_nil))), f_63_1⟩
theorem q_63_2 : pQ_63 u_63_2 := ⟨_, _, _, _, (pS_cons ok_27 (pS_nil)), (pV_cons (List.mem_of_getElem? (i := 4) rfl) (pV_cons (List.mem_of_getElem? (i := 5) rfl) (pV_nil))), f_63_2⟩
theorem q_63_3 : pQ_63 u_63_3 := ⟨_, _, _, _, (pS_nil), (pV_nil), f_63_3⟩
theorem q_63_4 : pQ_63 u_63_4 := ⟨_, _, _, _, (pS_cons ok_1 (pS_cons ok_62 (pS_nil))), (pV_cons (List.mem_of_getElem? (i := 6) rfl) (pV_nil)), f_63_4⟩
theorem q_63_5 : pQ_63 u_63_5 := ⟨_, _, _, _, (pS_cons ok_1 (pS_cons ok_62 (pS_nil))), (pV_cons (List.mem_of_getElem? (i := 6) rfl) (pV_nil)), f_63_5⟩
theorem q_63_6 : pQ_63 u_63_6 := ⟨_, _, _, _, (pS_cons ok_27 (pS_cons ok_28 (pS_nil))), (pV_cons (List.mem_of_getElem? (i := 3) rfl) (pV_cons (List.mem_of_getElem? (i := 1) rfl) (pV_cons (List.mem_of_getElem? (i := 2) rfl) (pV_nil)))), f_63_6⟩
theorem q_63_7 : pQ_63 u_63_7 := ⟨_, _, _, _, (pS_cons ok_27 (pS_cons ok_28 (pS_nil))), (pV_cons (List.mem_of_getElem? (i := 3) rfl) (pV_cons (List.mem_of_getElem? (i := 1) rfl) (pV_cons (List.mem_of_getElem? (i := 2) rfl) (pV_nil)))), f_63_7⟩
theorem qb_63_0 : ∀ u ∈ [u_63_0, u_63_1, u_63_2, u_63_3, u_63_4, u_63_5, u_63_6, u_63_7], pQ_63 u := pU_cons q_63_0 (pU_cons q_63_1 (pU_cons q_63_2 (pU_cons q_63_3 (pU_cons q_63_4 (pU_cons q_63_5 (pU_cons q_63_6 (pU_cons q_63_7 (pU_nil))))))))
theorem ok_63 : sInOk pPT i_63 := sInst3 (M := pm_183) (cus := us_63) pOk pg_183 (by decide +kernel) ⟨_, _, _, _, (pS_cons ok_62 (pS_nil)), (pV_cons (List.mem_of_getElem? (i := 0) rfl) (pV_nil)), e_63⟩ (show ∀ u ∈ us_63, pQ_63 u from qb_63_0)
def pQ_64 (u : sCu) : Prop := ∃ (SM : List sIn) (H : gHt) (cu : List sCu) (n : Nat), (∀ I ∈ SM, sInOk pPT I) ∧ (∀ v ∈ cu, v ∈ us_64) ∧ sWhU pPT SM H i_64 (mR pm_184) cu n u = true
theorem q_64_0 : pQ_64 u_64_0 := ⟨_, _, _, _, (pS_cons ok_1 (pS_cons ok_63 (pS_nil))), (pV_cons (List.mem_of_getElem? (i := 2) rfl) (pV_nil)), f_64_0⟩
theorem q_64_1 : pQ_64 u_64_1 := ⟨_, _, _, _, (pS_cons ok_1 (pS_cons ok_63 (pS_nil))), (pV_cons (List.mem_of_getElem? (i := 3) rfl) (pV_nil)), f_64_1⟩
theorem q_64_2 : pQ_64 u_64_2 := ⟨_, _, _, _, (pS_nil), (pV_nil), f_64_2⟩
theorem q_64_3 : pQ_64 u_64_3 := ⟨_, _, _, _, (pS_nil), (pV_nil), f_64_3⟩
theorem qb_64_0 : ∀ u ∈ [u_64_0, u_64_1, u_64_2, u_64_3], pQ_64 u := pU_cons q_64_0 (pU_cons q_64_1 (pU_cons q_64_2 (pU_cons q_64_3 (pU_nil))))
theorem ok_64 : sInOk pPT i_64 := sInst3 (M := pm_184) (cus := us_64) pOk pg_184 (by decide +kernel) ⟨_, _, _, _, (pS_cons ok_30 (pS_cons ok_31 (pS_cons ok_63 (pS_nil)))), (pV_cons (List.mem_of_getElem? (i := 0) rfl) (pV_cons (List.mem_of_getElem? (i := 1) rfl) (pV_nil))), e_64⟩ (show ∀ u ∈ us_64, pQ_64 u from qb_64_0)
def pQ_65 (u : sCu) : Prop := ∃ (SM : List sIn) (H : gHt) (cu : List sCu) (n : Nat), (∀ I ∈ SM, sInOk pPT I) ∧ (∀ v ∈ cu, v ∈ us_65) ∧ sWhU pPT SM H i_65 (mR pm_177) cu n u = true
theorem q_65_0 : pQ_65 u_65_0 := ⟨_, _, _, _, (pS_cons ok_1 (pS_cons ok_11 (pS_nil))), (pV_cons (List.mem_of_getElem? (i := 1) rfl) (pV_cons (List.mem_of_getElem? (i := 2) rfl) (pV_nil))), f_65_0⟩
theorem q_65_1 : pQ_65 u_65_1 := ⟨_, _, _, _, (pS_nil), (pV_cons (List.mem_of_getElem? (i := 3) rfl) (pV_nil)), f_65_1⟩
theorem q_65_2 : pQ_65 u_65_2 := ⟨_, _, _, _, (pS_cons ok_1 (pS_cons ok_11 (pS_nil))), (pV_cons (List.mem_of_getElem? (i := 4) rfl) (pV_cons (List.mem_of_getElem? (i := 5) rfl) (pV_nil))), f_65_2⟩
theorem q_65_3 : pQ_65 u_65_3 := ⟨_, _, _, _, (pS_cons ok_64 (pS_nil)), (pV_cons (List.mem_of_getElem? (i := 6) rfl) (pV_nil)), f_65_3⟩
theorem q_65_4 : pQ_65 u_65_4 := ⟨_, _, _, _, (pS_nil), (pV_cons (List.mem_of_getElem? (i := 7) rfl) (pV_nil)), f_65_4⟩
theorem q_65_5 : pQ_65 u_65_5 := ⟨_, _, _, _, (pS_cons ok_1 (pS_cons ok_11 (pS_nil))), (pV_cons (List.mem_of_getElem? (i := 8) rfl) (pV_cons (List.mem_of_getElem? (i := 9) rfl) (pV_nil))), f_65_5⟩
theorem q_65_6 : pQ_65 u_65_6 := ⟨_, _, _, _, (pS_nil), (pV_nil), f_65_6⟩
theorem q_65_7 : pQ_65 u_65_7 := ⟨_, _, _, _, (pS_cons ok_64 (pS_nil)), (pV_cons (List.mem_of_getElem? (i := 10) rfl) (pV_nil)), f_65_7⟩
theorem q_65_8 : pQ_65 u_65_8 := ⟨_, _, _, _, (pS_nil), (pV_cons (List.mem_of_getElem? (i := 11) rfl) (pV_nil)), f_65_8⟩
theorem q_65_9 : pQ_65 u_65_9 := ⟨_, _, _, _, (pS_cons ok_1 (pS_cons ok_11 (pS_nil))), (pV_cons (List.mem_of_getElem? (i := 12) rfl) (pV_cons (List.mem_of_getElem? (i := 13) rfl) (pV_nil))), f_65_9⟩
theorem q_65_10 : pQ_65 u_65_10 := ⟨_, _, _, _, (pS_nil), (pV_cons (List.mem_of_getElem? (i := 10) rfl) (pV_nil)), f_65_10⟩
theorem q_65_11 : pQ_65 u_65_11 := ⟨_, _, _, _, (pS_cons ok_64 (pS_nil)), (pV_cons (List.mem_of_getElem? (i := 14) rfl) (pV_nil)), f_65_11⟩
theorem q_65_12 : pQ_65 u_65_12 := ⟨_, _, _, _, (pS_nil), (pV_cons (List.mem_of_getElem? (i := 15) rfl) (pV_nil)), f_65_12⟩
theorem q_65_13 : pQ_65 u_65_13 := ⟨_, _, _, _, (pS_cons ok_1 (pS_cons ok_11 (pS_nil))), (pV_cons (List.mem_of_getElem? (i := 16) rfl) (pV_cons (List.mem_of_getElem? (i := 17) rfl) (pV_nil))), f_65_13⟩
theorem q_65_14 : pQ_65 u_65_14 := ⟨_, _, _, _, (pS_nil), (pV_cons (List.mem_of_getElem? (i := 14) rfl) (pV_nil)), f_65_14⟩
theorem q_65_15 : pQ_65 u_65_15 := ⟨_, _, _, _, (pS_cons ok_64 (pS_nil)), (pV_cons (List.mem_of_getElem? (i := 18) rfl) (pV_nil)), f_65_15⟩
theorem q_65_16 : pQ_65 u_65_16 := ⟨_, _, _, _, (pS_nil), (pV_cons (List.mem_of_getElem? (i := 19) rfl) (pV_nil)), f_65_16⟩
theorem q_65_17 : pQ_65 u_65_17 := ⟨_, _, _, _, (pS_cons ok_1 (pS_cons ok_11 (pS_nil))), (pV_cons (List.mem_of_getElem? (i := 20) rfl) (pV_cons (List.mem_of_getElem? (i := 21) rfl) (pV_nil))), f_65_17⟩
theorem q_65_18 : pQ_65 u_65_18 := ⟨_, _, _, _, (pS_nil), (pV_cons (List.mem_of_getElem? (i := 18) rfl) (pV_nil)), f_65_18⟩
theorem q_65_19 : pQ_65 u_65_19 := ⟨_, _, _, _, (pS_cons ok_64 (pS_nil)), (pV_cons (List.mem_of_getElem? (i := 22) rfl) (pV_nil)), f_65_19⟩
theorem q_65_20 : pQ_65 u_65_20 := ⟨_, _, _, _, (pS_nil), (pV_cons (List.mem_of_getElem? (i := 23) rfl) (pV_nil)), f_65_20⟩
theorem q_65_21 : pQ_65 u_65_21 := ⟨_, _, _, _, (pS_nil), (pV_cons (List.mem_of_getElem? (i := 24) rfl) (pV_nil)), f_65_21⟩
theorem q_65_22 : pQ_65 u_65_22 := ⟨_, _, _, _, (pS_nil), (pV_cons (List.mem_of_getElem? (i := 22) rfl) (pV_nil)), f_65_22⟩
theorem q_65_23 : pQ_65 u_65_23 := ⟨_, _, _, _, (pS_cons ok_64 (pS_nil)), (pV_cons (List.mem_of_getElem? (i := 25) rfl) (pV_nil)), f_65_23⟩
theorem q_65_24 : pQ_65 u_65_24 := ⟨_, _, _, _, (pS_cons ok_11 (pS_nil)), (pV_cons (List.mem_of_getElem? (i := 26) rfl) (pV_nil)), f_65_24⟩
theorem q_65_25 : pQ_65 u_65_25 := ⟨_, _, _, _, (pS_nil), (pV_cons (List.mem_of_getElem? (i := 25) rfl) (pV_nil)), f_65_25⟩
theorem q_65_26 : pQ_65 u_65_26 := ⟨_, _, _, _, (pS_cons ok_64 (pS_nil)), (pV_cons (List.mem_of_getElem? (i := 27) rfl) (pV_nil)), f_65_26⟩
theorem q_65_27 : pQ_65 u_65_27 := ⟨_, _, _, _, (pS_nil), (pV_cons (List.mem_of_getElem? (i := 27) rfl) (pV_nil)), f_65_27⟩
theorem qb_65_0 : ∀ u ∈ [u_65_0, u_65_1, u_65_2, u_65_3, u_65_4, u_65_5, u_65_6, u_65_7, u_65_8, u_65_9], pQ_65 u := pU_cons q_65_0 (pU_cons q_65_1 (pU_cons q_65_2 (pU_cons q_65_3 (pU_cons q_65_4 (pU_cons q_65_5 (pU_cons q_65_6 (pU_cons q_65_7 (pU_cons q_65_8 (pU_cons q_65_9 (pU_nil))))))))))
theorem qb_65_1 : ∀ u ∈ [u_65_10, u_65_11, u_65_12, u_65_13, u_65_14, u_65_15, u_65_16, u_65_17, u_65_18, u_65_19], pQ_65 u := pU_cons q_65_10 (pU_cons q_65_11 (pU_cons q_65_12 (pU_cons q_65_13 (pU_cons q_65_14 (pU_cons q_65_15 (pU_cons q_65_16 (pU_cons q_65_17 (pU_cons q_65_18 (pU_cons q_65_19 (pU_nil))))))))))
theorem qb_65_2 : ∀ u ∈ [u_65_20, u_65_21, u_65_22, u_65_23, u_65_24, u_65_25, u_65_26, u_65_27], pQ_65 u := pU_cons q_65_20 (pU_cons q_65_21 (pU_cons q_65_22 (pU_cons q_65_23 (pU_cons q_65_24 (pU_cons q_65_25 (pU_cons q_65_26 (pU_cons q_65_27 (pU_nil))))))))
theorem ok_65 : sInOk pPT i_65 := sInst3 (M := pm_177) (cus := us_65) pOk pg_177 (by decide +kernel) ⟨_, _, _, _, (pS_nil), (pV_cons (List.mem_of_getElem? (i := 0) rfl) (pV_nil)), e_65⟩ (show ∀ u ∈ us_65, pQ_65 u from (pU_app qb_65_0 (pU_app qb_65_1 qb_65_2)))
def pQ_66 (u : sCu) : Prop := ∃ (SM : List sIn) (H : gHt) (cu : List sCu) (n : Nat), (∀ I ∈ SM, sInOk pPT I) ∧ (∀ v ∈ cu, v ∈ us_66) ∧ sWhU pPT SM H i_66 (mR pm_173) cu n u = true
theorem q_66_0 : pQ_66 u_66_0 := ⟨_, _, _, _, (pS_cons ok_1 (pS_cons ok_34 (pS_cons ok_65 (pS_nil)))), (pV_cons (List.mem_of_getElem? (i := 1) rfl) (pV_cons (List.mem_of_getElem? (i := 0) rfl) (pV_nil))), f_66_0⟩
theorem q_66_1 : pQ_66 u_66_1 := ⟨_, _, _, _, (pS_nil), (pV_nil), f_66_1⟩
theorem qb_66_0 : ∀ u ∈ [u_66_0, u_66_1], pQ_66 u := pU_cons q_66_0 (pU_cons q_66_1 (pU_nil))
theorem ok_66 : sInOk pPT i_66 := sInst3 (M := pm_173) (cus := us_66) pOk pg_173 (by decide +kernel) ⟨_, _, _, _, (pS_cons ok_65 (pS_nil)), (pV_cons (List.mem_of_getElem? (i := 0) rfl) (pV_nil)), e_66⟩ (show ∀ u ∈ us_66, pQ_66 u from qb_66_0)
def pQ_67 (u : sCu) : Prop := ∃ (SM : List sIn) (H : gHt) (cu : List sCu) (n : Nat), (∀ I ∈ SM, sInOk pPT I) ∧ (∀ v ∈ cu, v ∈ us_67) ∧ sWhU pPT SM H i_67 (mR pm_174) cu n u = true
theorem q_67_0 : pQ_67 u_67_0 := ⟨_, _, _, _, (pS_cons ok_1 (pS_cons ok_36 (pS_cons ok_66 (pS_nil)))), (pV_cons (List.mem_of_getElem? (i := 1) rfl) (pV_cons (List.mem_of_getElem? (i := 0) rfl) (pV_nil))), f_67_0⟩
theorem q_67_1 : pQ_67 u_67_1 := ⟨_, _, _, _, (pS_nil), (pV_nil), f_67_1⟩
theorem qb_67_0 : ∀ u ∈ [u_67_0, u_67_1], pQ_67 u := pU_cons q_67_0 (pU_cons q_67_1 (pU_nil))
theorem ok_67 : sInOk pPT i_67 := sInst3 (M := pm_174) (cus := us_67) pOk pg_174 (by decide +kernel) ⟨_, _, _, _, (pS_cons ok_66 (pS_nil)), (pV_cons (List.mem_of_getElem? (i := 0) rfl) (pV_nil)), e_67⟩ (show ∀ u ∈ us_67, pQ_67 u from qb_67_0)
def pQ_68 (u : sCu) : Prop := ∃ (SM : List sIn) (H : gHt) (cu : List sCu) (n : Nat), (∀ I ∈ SM, sInOk pPT I) ∧ (∀ v ∈ cu, v ∈ us_68) ∧ sWhU pPT SM H i_68 (mR pm_178) cu n u = true
theorem q_68_0 : pQ_68 u_68_0 := ⟨_, _, _, _, (pS_nil), (pV_nil), f_68_0⟩
theorem qb_68_0 : ∀ u ∈ [u_68_0], pQ_68 u := pU_cons q_68_0 (pU_nil)
theorem ok_68 : sInOk pPT i_68 := sInst3 (M := pm_178) (cus := us_68) pOk pg_178 (by decide +kernel) ⟨_, _, _, _, (pS_cons ok_1 (pS_cons ok_12 (pS_cons ok_13 (pS_cons ok_14 (pS_cons ok_15 (pS_cons ok_16 (pS_cons ok_17 (pS_cons ok_18 (pS_cons ok_19 (pS_cons ok_20 (pS_cons ok_22 (pS_cons ok_39 (pS_cons ok_67 (pS_nil)))))))))))))), (pV_cons (List.mem_of_getElem? (i := 0) rfl) (pV_nil)), e_68⟩ (show ∀ u ∈ us_68, pQ_68 u from qb_68_0)
def pQ_69 (u : sCu) : Prop := ∃ (SM : List sIn) (H : gHt) (cu : List sCu) (n : Nat), (∀ I ∈ SM, sInOk pPT I) ∧ (∀ v ∈ cu, v ∈ us_69) ∧ sWhU pPT SM H i_69 (mR pm_179) cu n u = true
theorem q_69_0 : pQ_69 u_69_0 := ⟨_, _, _, _, (pS_cons ok_24 (pS_cons ok_25 (pS_nil))), (pV_cons (List.mem_of_getElem? (i := 1) rfl) (pV_cons (List.mem_of_getElem? (i := 2) rfl) (pV_cons (List.mem_of_getElem? (i := 3) rfl) (pV_nil)))), f_69_0⟩
theorem q_69_1 : pQ_69 u_69_1 := ⟨_, _, _, _, (pS_cons ok_24 (pS_nil)), (pV_cons (List.mem_of_getElem? (i := 4) rfl) (pV_cons (List.mem_of_getElem? (i := 5) rfl) (pV_nil))), f_69_1⟩
theorem q_69_2 : pQ_69 u_69_2 := ⟨_, _, _, _, (pS_cons ok_24 (pS_nil)), (pV_cons (List.mem_of_getElem? (i := 4) rfl) (pV_cons (List.mem_of_getElem? (i := 5) rfl) (pV_nil))), f_69_2⟩
theorem q_69_3 : pQ_69 u_69_3 := ⟨_, _, _, _, (pS_nil), (pV_nil), f_69_3⟩
theorem q_69_4 : pQ_69 u_69_4 := ⟨_, _, _, _, (pS_cons ok_1 (pS_cons ok_68 (pS_nil))), (pV_cons (List.mem_of_getElem? (i := 6) rfl) (pV_nil)), f_69_4⟩
theorem q_69_5 : pQ_69 u_69_5 := ⟨_, _, _, _, (pS_cons ok_1 (pS_cons ok_68 (pS_nil))), (pV_cons (List.mem_of_getElem? (i := 6) rfl) (pV_nil)), f_69_5⟩
theorem q_69_6 : pQ_69 u_69_6 := ⟨_, _, _, _, (pS_cons ok_24 (pS_cons ok_25 (pS_nil))), (pV_cons (List.mem_of_getElem? (i := 3) rfl) (pV_cons (List.mem_of_getElem? (i := 1) rfl) (pV_cons (List.mem_of_getElem? (i := 2) rfl) (pV_nil)))), f_69_6⟩
theorem q_69_7 : pQ_69 u_69_7 := ⟨_, _, _, _, (pS_cons ok_24 (pS_cons ok_25 (pS_nil))), (pV_cons (List.mem_of_getElem? (i := 3) rfl) (pV_cons (List.mem_of_getElem? (i := 1) rfl) (pV_cons (List.mem_of_getElem? (i := 2) rfl) (pV_nil)))), f_69_7⟩
theorem qb_69_0 : ∀ u ∈ [u_69_0, u_69_1, u_69_2, u_69_3, u_69_4, u_69_5, u_69_6, u_69_7], pQ_69 u := pU_cons q_69_0 (pU_cons q_69_1 (pU_cons q_69_2 (pU_cons q_69_3 (pU_cons q_69_4 (pU_cons q_69_5 (pU_cons q_69_6 (pU_cons q_69_7 (pU_nil))))))))
theorem ok_69 : sInOk pPT i_69 := sInst3 (M := pm_179) (cus := us_69) pOk pg_179 (by decide +kernel) ⟨_, _, _, _, (pS_cons ok_68 (pS_nil)), (pV_cons (List.mem_of_getElem? (i := 0) rfl) (pV_nil)), e_69⟩ (show ∀ u ∈ us_69, pQ_69 u from qb_69_0)
def pQ_70 (u : sCu) : Prop := ∃ (SM : List sIn) (H : gHt) (cu : List sCu) (n : Nat), (∀ I ∈ SM, sInOk pPT I) ∧ (∀ v ∈ cu, v ∈ us_70) ∧ sWhU pPT SM H i_70 (mR pm_183) cu n u = true
theorem q_70_0 : pQ_70 u_70_0 := ⟨_, _, _, _, (pS_cons ok_27 (pS_cons ok_28 (pS_nil))), (pV_cons (List.mem_of_getElem? (i := 1) rfl) (pV_cons (List.mem_of_getElem? (i := 2) rfl) (pV_cons (List.mem_of_getElem? (i := 3) rfl) (pV_nil)))), f_70_0⟩
theorem q_70_1 : pQ_70 u_70_1 := ⟨_, _, _, _, (pS_cons ok_27 (pS_nil)), (pV_cons (List.mem_of_getElem? (i := 4) rfl) (pV_cons (List.mem_of_getElem? (i := 5) rfl) (pV_nil))), f_70_1⟩
theorem q_70_2 : pQ_70 u_70_2 := ⟨_, _, _, _, (pS_cons ok_27 (pS_nil)), (pV_cons (List.mem_of_getElem? (i := 4) rfl) (pV_cons (List.mem_of_getElem? (i := 5) rfl) (pV_nil))), f_70_2⟩
theorem q_70_3 : pQ_70 u_70_3 := ⟨_, _, _, _, (pS_nil), (pV_nil), f_70_3⟩
theorem q_70_4 : pQ_70 u_70_4 := ⟨_, _, _, _, (pS_cons ok_1 (pS_cons ok_69 (pS_nil))), (pV_cons (List.mem_of_getElem? (i := 6) rfl) (pV_nil)), f_70_4⟩
theorem q_70_5 : pQ_70 u_70_5 := ⟨_, _, _, _, (pS_cons ok_1 (pS_cons ok_69 (pS_nil))), (pV_cons (List.mem_of_getElem? (i := 6) rfl) (pV_nil)), f_70_5⟩
theorem q_70_6 : pQ_70 u_70_6 := ⟨_, _, _, _, (pS_cons ok_27 (pS_cons ok_28 (pS_nil))), (pV_cons (List.mem_of_getElem? (i := 3) rfl) (pV_cons (List.mem_of_getElem? (i := 1) rfl) (pV_cons (List.mem_of_getElem? (i := 2) rfl) (pV_nil)))), f_70_6⟩
theorem q_70_7 : pQ_70 u_70_7 := ⟨_, _, _, _, (pS_cons ok_27 (pS_cons ok_28 (pS_nil))), (pV_cons (List.mem_of_getElem? (i := 3) rfl) (pV_cons (List.mem_of_getElem? (i := 1) rfl) (pV_cons (List.mem_of_getElem? (i := 2) rfl) (pV_nil)))), f_70_7⟩
theorem qb_70_0 : ∀ u ∈ [u_70_0, u_70_1, u_70_2, u_70_3, u_70_4, u_70_5, u_70_6, u_70_7], pQ_70 u := pU_cons q_70_0 (pU_cons q_70_1 (pU_cons q_70_2 (pU_cons q_70_3 (pU_cons q_70_4 (pU_cons q_70_5 (pU_cons q_70_6 (pU_cons q_70_7 (pU_nil))))))))
theorem ok_70 : sInOk pPT i_70 := sInst3 (M := pm_183) (cus := us_70) pOk pg_183 (by decide +kernel) ⟨_, _, _, _, (pS_cons ok_69 (pS_nil)), (pV_cons (List.mem_of_getElem? (i := 0) rfl) (pV_nil)), e_70⟩ (show ∀ u ∈ us_70, pQ_70 u from qb_70_0)
def pQ_71 (u : sCu) : Prop := ∃ (SM : List sIn) (H : gHt) (cu : List sCu) (n : Nat), (∀ I ∈ SM, sInOk pPT I) ∧ (∀ v ∈ cu, v ∈ us_71) ∧ sWhU pPT SM H i_71 (mR pm_184) cu n u = true
theorem q_71_0 : pQ_71 u_71_0 := ⟨_, _, _, _, (pS_cons ok_1 (pS_cons ok_70 (pS_nil))), (pV_cons (List.mem_of_getElem? (i := 2) rfl) (pV_nil)), f_71_0⟩
theorem q_71_1 : pQ_71 u_71_1 := ⟨_, _, _, _, (pS_cons ok_1 (pS_cons ok_70 (pS_nil))), (pV_cons (List.mem_of_getElem? (i := 3) rfl) (pV_nil)), f_71_1⟩
theorem q_71_2 : pQ_71 u_71_2 := ⟨_, _, _, _, (pS_nil), (pV_nil), f_71_2⟩
theorem q_71_3 : pQ_71 u_71_3 := ⟨_, _, _, _, (pS_nil), (pV_nil), f_71_3⟩
theorem qb_71_0 : ∀ u ∈ [u_71_0, u_71_1, u_71_2, u_71_3], pQ_71 u := pU_cons q_71_0 (pU_cons q_71_1 (pU_cons q_71_2 (pU_cons q_71_3 (pU_nil))))
theorem ok_71 : sInOk pPT i_71 := sInst3 (M := pm_184) (cus := us_71) pOk pg_184 (by decide +kernel) ⟨_, _, _, _, (pS_cons ok_30 (pS_cons ok_31 (pS_cons ok_70 (pS_nil)))), (pV_cons (List.mem_of_getElem? (i := 0) rfl) (pV_cons (List.mem_of_getElem? (i := 1) rfl) (pV_nil))), e_71⟩ (show ∀ u ∈ us_71, pQ_71 u from qb_71_0)
def pQ_72 (u : sCu) : Prop := ∃ (SM : List sIn) (H : gHt) (cu : List sCu) (n : Nat), (∀ I ∈ SM, sInOk pPT I) ∧ (∀ v ∈ cu, v ∈ us_72) ∧ sWhU pPT SM H i_72 (mR pm_177) cu n u = true
theorem q_72_0 : pQ_72 u_72_0 := ⟨_, _, _, _, (pS_cons ok_1 (pS_cons ok_11 (pS_nil))), (pV_cons (List.mem_of_getElem? (i := 1) rfl) (pV_cons (List.mem_of_getElem? (i := 2) rfl) (pV_nil))), f_72_0⟩
theorem q_72_1 : pQ_72 u_72_1 := ⟨_, _, _, _, (pS_nil), (pV_cons (List.mem_of_getElem? (i := 3) rfl) (pV_nil)), f_72_1⟩
theorem q_72_2 : pQ_72 u_72_2 := ⟨_, _, _, _, (pS_cons ok_1 (pS_cons ok_11 (pS_nil))), (pV_cons (List.mem_of_getElem? (i := 4) rfl) (pV_cons (List.mem_of_getElem? (i := 5) rfl) (pV_nil))), f_72_2⟩
theorem q_72_3 : pQ_72 u_72_3 := ⟨_, _, _, _, (pS_cons ok_71 (pS_nil)), (pV_cons (List.mem_of_getElem? (i := 6) rfl) (pV_nil)), f_72_3⟩
theorem q_72_4 : pQ_72 u_72_4 := ⟨_, _, _, _, (pS_nil), (pV_cons (List.mem_of_getElem? (i := 7) rfl) (pV_nil)), f_72_4⟩
theorem q_72_5 : pQ_72 u_72_5 := ⟨_, _, _, _, (pS_cons ok_1 (pS_cons ok_11 (pS_nil))), (pV_cons (List.mem_of_getElem? (i := 8) rfl) (pV_cons (List.mem_of_getElem? (i := 9) rfl) (pV_nil))), f_72_5⟩
theorem q_72_6 : pQ_72 u_72_6 := ⟨_, _, _, _, (pS_nil), (pV_nil), f_72_6⟩
theorem q_72_7 : pQ_72 u_72_7 := ⟨_, _, _, _, (pS_cons ok_71 (pS_nil)), (pV_cons (List.mem_of_getElem? (i := 10) rfl) (pV_nil)), f_72_7⟩
theorem q_72_8 : pQ_72 u_72_8 := ⟨_, _, _, _, (pS_nil), (pV_cons (List.mem_of_getElem? (i := 11) rfl) (pV_nil)), f_72_8⟩
theorem q_72_9 : pQ_72 u_72_9 := ⟨_, _, _, _, (pS_cons ok_1 (pS_cons ok_11 (pS_nil))), (pV_cons (List.mem_of_getElem? (i := 12) rfl) (pV_cons (List.mem_of_getElem? (i := 13) rfl) (pV_nil))), f_72_9⟩
theorem q_72_10 : pQ_72 u_72_10 := ⟨_, _, _, _, (pS_nil), (pV_cons (List.mem_of_getElem? (i := 10) rfl) (pV_nil)), f_72_10⟩
theorem q_72_11 : pQ_72 u_72_11 := ⟨_, _, _, _, (pS_cons ok_71 (pS_nil)), (pV_cons (List.mem_of_getElem? (i := 14) rfl) (pV_nil)), f_72_11⟩
theorem q_72_12 : pQ_72 u_72_12 := ⟨_, _, _, _, (pS_nil), (pV_cons (List.mem_of_getElem? (i := 15) rfl) (pV_nil)), f_72_12⟩
theorem q_72_13 : pQ_72 u_72_13 := ⟨_, _, _, _, (pS_cons ok_1 (pS_cons ok_11 (pS_nil))), (pV_cons (List.mem_of_getElem? (i := 16) rfl) (pV_cons (List.mem_of_getElem? (i := 17) rfl) (pV_nil))), f_72_13⟩
theorem q_72_14 : pQ_72 u_72_14 := ⟨_, _, _, _, (pS_nil), (pV_cons (List.mem_of_getElem? (i := 14) rfl) (pV_nil)), f_72_14⟩
theorem q_72_15 : pQ_72 u_72_15 := ⟨_, _, _, _, (pS_cons ok_71 (pS_nil)), (pV_cons (List.mem_of_getElem? (i := 18) rfl) (pV_nil)), f_72_15⟩
theorem q_72_16 : pQ_72 u_72_16 := ⟨_, _, _, _, (pS_nil), (pV_cons (List.mem_of_getElem? (i := 19) rfl) (pV_nil)), f_72_16⟩
theorem q_72_17 : pQ_72 u_72_17 := ⟨_, _, _, _, (pS_cons ok_1 (pS_cons ok_11 (pS_nil))), (pV_cons (List.mem_of_getElem? (i := 20) rfl) (pV_cons (List.mem_of_getElem? (i := 21) rfl) (pV_nil))), f_72_17⟩
theorem q_72_18 : pQ_72 u_72_18 := ⟨_, _, _, _, (pS_nil), (pV_cons (List.mem_of_getElem? (i := 18) rfl) (pV_nil)), f_72_18⟩
theorem q_72_19 : pQ_72 u_72_19 := ⟨_, _, _, _, (pS_cons ok_71 (pS_nil)), (pV_cons (List.mem_of_getElem? (i := 22) rfl) (pV_nil)), f_72_19⟩
theorem q_72_20 : pQ_72 u_72_20 := ⟨_, _, _, _, (pS_nil), (pV_cons (List.mem_of_getElem? (i := 23) rfl) (pV_nil)), f_72_20⟩
theorem q_72_21 : pQ_72 u_72_21 := ⟨_, _, _, _, (pS_nil), (pV_cons (List.mem_of_getElem? (i := 24) rfl) (pV_nil)), f_72_21⟩
theorem q_72_22 : pQ_72 u_72_22 := ⟨_, _, _, _, (pS_nil), (pV_cons (List.mem_of_getElem? (i := 22) rfl) (pV_nil)), f_72_22⟩
theorem q_72_23 : pQ_72 u_72_23 := ⟨_, _, _, _, (pS_cons ok_71 (pS_nil)), (pV_cons (List.mem_of_getElem? (i := 25) rfl) (pV_nil)), f_72_23⟩
theorem q_72_24 : pQ_72 u_72_24 := ⟨_, _, _, _, (pS_cons ok_11 (pS_nil)), (pV_cons (List.mem_of_getElem? (i := 26) rfl) (pV_nil)), f_72_24⟩
theorem q_72_25 : pQ_72 u_72_25 := ⟨_, _, _, _, (pS_nil), (pV_cons (List.mem_of_getElem? (i := 25) rfl) (pV_nil)), f_72_25⟩
theorem q_72_26 : pQ_72 u_72_26 := ⟨_, _, _, _, (pS_cons ok_71 (pS_nil)), (pV_cons (List.mem_of_getElem? (i := 27) rfl) (pV_nil)), f_72_26⟩
theorem q_72_27 : pQ_72 u_72_27 := ⟨_, _, _, _, (pS_nil), (pV_cons (List.mem_of_getElem? (i := 27) rfl) (pV_nil)), f_72_27⟩
theorem qb_72_0 : ∀ u ∈ [u_72_0, u_72_1, u_72_2, u_72_3, u_72_4, u_72_5, u_72_6, u_72_7, u_72_8, u_72_9], pQ_72 u := pU_cons q_72_0 (pU_cons q_72_1 (pU_cons q_72_2 (pU_cons q_72_3 (pU_cons q_72_4 (pU_cons q_72_5 (pU_cons q_72_6 (pU_cons q_72_7 (pU_cons q_72_8 (pU_cons q_72_9 (pU_nil))))))))))
theorem qb_72_1 : ∀ u ∈ [u_72_10, u_72_11, u_72_12, u_72_13, u_72_14, u_72_15, u_72_16, u_72_17, u_72_18, u_72_19], pQ_72 u := pU_cons q_72_10 (pU_cons q_72_11 (pU_cons q_72_12 (pU_cons q_72_13 (pU_cons q_72_14 (pU_cons q_72_15 (pU_cons q_72_16 (pU_cons q_72_17 (pU_cons q_72_18 (pU_cons q_72_19 (pU_nil))))))))))
theorem qb_72_2 : ∀ u ∈ [u_72_20, u_72_21, u_72_22, u_72_23, u_72_24, u_72_25, u_72_26, u_72_27], pQ_72 u := pU_cons q_72_20 (pU_cons q_72_21 (pU_cons q_72_22 (pU_cons q_72_23 (pU_cons q_72_24 (pU_cons q_72_25 (pU_cons q_72_26 (pU_cons q_72_27 (pU_nil))))))))
theorem ok_72 : sInOk pPT i_72 := sInst3 (M := pm_177) (cus := us_72) pOk pg_177 (by decide +kernel) ⟨_, _, _, _, (pS_nil), (pV_cons (List.mem_of_getElem? (i := 0) rfl) (pV_nil)), e_72⟩ (show ∀ u ∈ us_72, pQ_72 u from (pU_app qb_72_0 (pU_app qb_72_1 qb_72_2)))
def pQ_73 (u : sCu) : Prop := ∃ (SM : List sIn) (H : gHt) (cu : List sCu) (n : Nat), (∀ I ∈ SM, sInOk pPT I) ∧ (∀ v ∈ cu, v ∈ us_73) ∧ sWhU pPT SM H i_73 (mR pm_173) cu n u = true
theorem q_73_0 : pQ_73 u_73_0 := ⟨_, _, _, _, (pS_cons ok_1 (pS_cons ok_34 (pS_cons ok_72 (pS_nil)))), (pV_cons (List.mem_of_getElem? (i := 1) rfl) (pV_cons (List.mem_of_getElem? (i := 0) rfl) (pV_nil))), f_73_0⟩
theorem q_73_1 : pQ_73 u_73_1 := ⟨_, _, _, _, (pS_nil), (pV_nil), f_73_1⟩
theorem qb_73_0 : ∀ u ∈ [u_73_0, u_73_1], pQ_73 u := pU_cons q_73_0 (pU_cons q_73_1 (pU_nil))
theorem ok_73 : sInOk pPT i_73 := sInst3 (M := pm_173) (cus := us_73) pOk pg_173 (by decide +kernel) ⟨_, _, _, _, (pS_cons ok_72 (pS_nil)), (pV_cons (List.mem_of_getElem? (i := 0) rfl) (pV_nil)), e_73⟩ (show ∀ u ∈ us_73, pQ_73 u from qb_73_0)
def pQ_74 (u : sCu) : Prop := ∃ (SM : List sIn) (H : gHt) (cu : List sCu) (n : Nat), (∀ I ∈ SM, sInOk pPT I) ∧ (∀ v ∈ cu, v ∈ us_74) ∧ sWhU pPT SM H i_74 (mR pm_174) cu n u = true
theorem q_74_0 : pQ_74 u_74_0 := ⟨_, _, _, _, (pS_cons ok_1 (pS_cons ok_36 (pS_cons ok_73 (pS_nil)))), (pV_cons (List.mem_of_getElem? (i := 1) rfl) (pV_cons (List.mem_of_getElem? (i := 0) rfl) (pV_nil))), f_74_0⟩
theorem q_74_1 : pQ_74 u_74_1 := ⟨_, _, _, _, (pS_nil), (pV_nil), f_74_1⟩
theorem qb_74_0 : ∀ u ∈ [u_74_0, u_74_1], pQ_74 u := pU_cons q_74_0 (pU_cons q_74_1 (pU_nil))
theorem ok_74 : sInOk pPT i_74 := sInst3 (M := pm_174) (cus := us_74) pOk pg_174 (by decide +kernel) ⟨_, _, _, _, (pS_cons ok_73 (pS_nil)), (pV_cons (List.mem_of_getElem? (i := 0) rfl) (pV_nil)), e_74⟩ (show ∀ u ∈ us_74, pQ_74 u from qb_74_0)
def pQ_75 (u : sCu) : Prop := ∃ (SM : List sIn) (H : gHt) (cu : List sCu) (n : Nat), (∀ I ∈ SM, sInOk pPT I) ∧ (∀ v ∈ cu, v ∈ us_75) ∧ sWhU pPT SM H i_75 (mR pm_165) cu n u = true
theorem q_75_0 : pQ_75 u_75_0 := ⟨_, _, _, _, (pS_nil), (pV_nil), f_75_0⟩
theorem qb_75_0 : ∀ u ∈ [u_75_0], pQ_75 u := pU_cons q_75_0 (pU_nil)
theorem ok_75 : sInOk pPT i_75 := sInst3 (M := pm_165) (cus := us_75) pOk pg_165 (by decide +kernel) ⟨_, _, _, _, (pS_nil), (pV_cons (List.mem_of_getElem? (i := 0) rfl) (pV_nil)), e_75⟩ (show ∀ u ∈ us_75, pQ_75 u from qb_75_0)
theorem ok_76 : sInOk pPT i_76 := sInst3 (M := pm_181) (cus := []) pOk pg_181 (by decide +kernel) ⟨_, _, _, _, (pS_cons ok_1 (pS_cons ok_75 (pS_nil))), pV_nil, e_76⟩ pU_nil
def pQ_77 (u : sCu) : Prop := ∃ (SM : List sIn) (H : gHt) (cu : List sCu) (n : Nat), (∀ I ∈ SM, sInOk pPT I) ∧ (∀ v ∈ cu, v ∈ us_77) ∧ sWhU pPT SM H i_77 (mR pm_169) cu n u = true
theorem q_77_0 : pQ_77 u_77_0 := ⟨_, _, _, _, (pS_nil), (pV_nil), f_77_0⟩
theorem qb_77_0 : ∀ u ∈ [u_77_0], pQ_77 u := pU_cons q_77_0 (pU_nil)
theorem ok_77 : sInOk pPT i_77 := sInst3 (M := pm_169) (cus := us_77) pOk pg_169 (by decide +kernel) ⟨_, _, _, _, (pS_nil), (pV_cons (List.mem_of_getElem? (i := 0) rfl) (pV_nil)), e_77⟩ (show ∀ u ∈ us_77, pQ_77 u from qb_77_0)
def pQ_78 (u : sCu) : Prop := ∃ (SM : List sIn) (H : gHt) (cu : List sCu) (n : Nat), (∀ I ∈ SM, sInOk pPT I) ∧ (∀ v ∈ cu, v ∈ us_78) ∧ sWhU pPT SM H i_78 (mR pm_156) cu n u = true
theorem q_78_0 : pQ_78 u_78_0 := ⟨_, _, _, _, (pS_nil), (pV_cons (List.mem_of_getElem? (i := 0) rfl) (pV_nil)), f_78_0⟩
theorem qb_78_0 : ∀ u ∈ [u_78_0], pQ_78 u := pU_cons q_78_0 (pU_nil)
theorem ok_78 : sInOk pPT i_78 := sInst3 (M := pm_156) (cus := us_78) pOk pg_156 (by decide +kernel) ⟨_, _, _, _, (pS_nil), (pV_cons (List.mem_of_getElem? (i := 0) rfl) (pV_nil)), e_78⟩ (show ∀ u ∈ us_78, pQ_78 u from qb_78_0)
def pQ_79 (u : sCu) : Prop := ∃ (SM : List sIn) (H : gHt) (cu : List sCu) (n : Nat), (∀ I ∈ SM, sInOk pPT I) ∧ (∀ v ∈ cu, v ∈ us_79) ∧ sWhU pPT SM H i_79 (mR pm_175) cu n u = true
theorem q_79_0 : pQ_79 u_79_0 := ⟨_, _, _, _, (pS_nil), (pV_nil), f_79_0⟩
theorem q_79_1 : pQ_79 u_79_1 := ⟨_, _, _, _, (pS_cons ok_22 (pS_nil)), (pV_nil), f_79_1⟩
theorem qb_79_0 : ∀ u ∈ [u_79_0, u_79_1], pQ_79 u := pU_cons q_79_0 (pU_cons q_79_1 (pU_nil))
theorem ok_79 : sInOk pPT i_79 := sInst3 (M := pm_175) (cus := us_79) pOk pg_175 (by decide +kernel) ⟨_, _, _, _, (pS_cons ok_1 (pS_cons ok_22 (pS_cons ok_77 (pS_cons ok_78 (pS_nil))))), (pV_cons (List.mem_of_getElem? (i := 0) rfl) (pV_cons (List.mem_of_getElem? (i := 1) rfl) (pV_nil))), e_79⟩ (show ∀ u ∈ us_79, pQ_79 u from qb_79_0)
def pQ_80 (u : sCu) : Prop := ∃ (SM : List sIn) (H : gHt) (cu : List sCu) (n : Nat), (∀ I ∈ SM, sInOk pPT I) ∧ (∀ v ∈ cu, v ∈ us_80) ∧ sWhU pPT SM H i_80 (mR pm_170) cu n u = true
theorem q_80_0 : pQ_80 u_80_0 := ⟨_, _, _, _, (pS_nil), (pV_nil), f_80_0⟩
theorem qb_80_0 : ∀ u ∈ [u_80_0], pQ_80 u := pU_cons q_80_0 (pU_nil)
theorem ok_80 : sInOk pPT i_80 := sInst3 (M := pm_170) (cus := us_80) pOk pg_170 (by decide +kernel) ⟨_, _, _, _, (pS_nil), (pV_cons (List.mem_of_getElem? (i := 0) rfl) (pV_nil)), e_80⟩ (show ∀ u ∈ us_80, pQ_80 u from qb_80_0)
def pQ_81 (u : sCu) : Prop := ∃ (SM : List sIn) (H : gHt) (cu : List sCu) (n : Nat), (∀ I ∈ SM, sInOk pPT I) ∧ (∀ v ∈ cu, v ∈ us_81) ∧ sWhU pPT SM H i_81 (mR pm_170) cu n u = true
theorem q_81_0 : pQ_81 u_81_0 := ⟨_, _, _, _, (pS_nil), (pV_nil), f_81_0⟩
theorem qb_81_0 : ∀ u ∈ [u_81_0], pQ_81 u := pU_cons q_81_0 (pU_nil)
theorem ok_81 : sInOk pPT i_81 := sInst3 (M := pm_170) (cus := us_81) pOk pg_170 (by decide +kernel) ⟨_, _, _, _, (pS_nil), (pV_cons (List.mem_of_getElem? (i := 0) rfl) (pV_nil)), e_81⟩ (show ∀ u ∈ us_81, pQ_81 u from qb_81_0)
theorem ok_82 : sInOk pPT i_82 := sInst3 (M := pm_180) (cus := []) pOk pg_180 (by decide +kernel) ⟨_, _, _, _, (pS_cons ok_1 (pS_cons ok_22 (pS_cons ok_77 (pS_cons ok_80 (pS_cons ok_81 (pS_nil)))))), pV_nil, e_82⟩ pU_nil
def pQ_83 (u : sCu) : Prop := ∃ (SM : List sIn) (H : gHt) (cu : List sCu) (n : Nat), (∀ I ∈ SM, sInOk pPT I) ∧ (∀ v ∈ cu, v ∈ us_83) ∧ sWhU pPT SM H i_83 (mR pm_157) cu n u = true
theorem q_83_0 : pQ_83 u_83_0 := ⟨_, _, _, _, (pS_nil), (pV_cons (List.mem_of_getElem? (i := 0) rfl) (pV_nil)), f_83_0⟩
theorem qb_83_0 : ∀ u ∈ [u_83_0], pQ_83 u := pU_cons q_83_0 (pU_nil)
theorem ok_83 : sInOk pPT i_83 := sInst3 (M := pm_157) (cus := us_83) pOk pg_157 (by decide +kernel) ⟨_, _, _, _, (pS_nil), (pV_cons (List.mem_of_getElem? (i := 0) rfl) (pV_nil)), e_83⟩ (show ∀ u ∈ us_83, pQ_83 u from qb_83_0)
def pQ_84 (u : sCu) : Prop := ∃ (SM : List sIn) (H : gHt) (cu : List sCu) (n : Nat), (∀ I ∈ SM, sInOk pPT I) ∧ (∀ v ∈ cu, v ∈ us_84) ∧ sWhU pPT SM H i_84 (mR pm_170) cu n u = true
theorem q_84_0 : pQ_84 u_84_0 := ⟨_, _, _, _, (pS_nil), (pV_nil), f_84_0⟩
theorem qb_84_0 : ∀ u ∈ [u_84_0], pQ_84 u := pU_cons q_84_0 (pU_nil)
theorem ok_84 : sInOk pPT i_84 := sInst3 (M := pm_170) (cus := us_84) pOk pg_170 (by decide +kernel) ⟨_, _, _, _, (pS_nil), (pV_cons (List.mem_of_getElem? (i := 0) rfl) (pV_nil)), e_84⟩ (show ∀ u ∈ us_84, pQ_84 u from qb_84_0)
def pQ_85 (u : sCu) : Prop := ∃ (SM : List sIn) (H : gHt) (cu : List sCu) (n : Nat), (∀ I ∈ SM, sInOk pPT I) ∧ (∀ v ∈ cu, v ∈ us_85) ∧ sWhU pPT SM H i_85 (mR pm_176) cu n u = true
theorem q_85_0 : pQ_85 u_85_0 := ⟨_, _, _, _, (pS_nil), (pV_nil), f_85_0⟩
theorem q_85_1 : pQ_85 u_85_1 := ⟨_, _, _, _, (pS_cons ok_22 (pS_cons ok_84 (pS_nil))), (pV_nil), f_85_1⟩
theorem qb_85_0 : ∀ u ∈ [u_85_0, u_85_1], pQ_85 u := pU_cons q_85_0 (pU_cons q_85_1 (pU_nil))
theorem ok_85 : sInOk pPT i_85 := sInst3 (M := pm_176) (cus := us_85) pOk pg_176 (by decide +kernel) ⟨_, _, _, _, (pS_cons ok_1 (pS_cons ok_22 (pS_cons ok_77 (pS_cons ok_83 (pS_nil))))), (pV_cons (List.mem_of_getElem? (i := 0) rfl) (pV_cons (List.mem_of_getElem? (i := 1) rfl) (pV_nil))), e_85⟩ (show ∀ u ∈ us_85, pQ_85 u from qb_85_0)
def pQ_86 (u : sCu) : Prop := ∃ (SM : List sIn) (H : gHt) (cu : List sCu) (n : Nat), (∀ I ∈ SM, sInOk pPT I) ∧ (∀ v ∈ cu, v ∈ us_86) ∧ sWhU pPT SM H i_86 (mR pm_170) cu n u = true
theorem q_86_0 : pQ_86 u_86_0 := ⟨_, _, _, _, (pS_nil), (pV_nil), f_86_0⟩
theorem qb_86_0 : ∀ u ∈ [u_86_0], pQ_86 u := pU_cons q_86_0 (pU_nil)
theorem ok_86 : sInOk pPT i_86 := sInst3 (M := pm_170) (cus := us_86) pOk pg_170 (by decide +kernel) ⟨_, _, _, _, (pS_nil), (pV_cons (List.mem_of_getElem? (i := 0) rfl) (pV_nil)), e_86⟩ (show ∀ u ∈ us_86, pQ_86 u from qb_86_0)
theorem ok_87 : sInOk pPT i_87 := sInst3 (M := pm_172) (cus := []) pOk pg_172 (by decide +kernel) ⟨_, _, _, _, (pS_cons ok_1 (pS_cons ok_22 (pS_cons ok_81 (pS_cons ok_86 (pS_nil))))), pV_nil, e_87⟩ pU_nil
theorem ok_88 : sInOk pPT i_88 := sInst3 (M := pm_172) (cus := []) pOk pg_172 (by decide +kernel) ⟨_, _, _, _, (pS_cons ok_1 (pS_cons ok_22 (pS_cons ok_81 (pS_cons ok_86 (pS_nil))))), pV_nil, e_88⟩ pU_nil
theorem ok_89 : sInOk pPT i_89 := sInst3 (M := pm_172) (cus := []) pOk pg_172 (by decide +kernel) ⟨_, _, _, _, (pS_cons ok_1 (pS_cons ok_22 (pS_cons ok_81 (pS_cons ok_86 (pS_nil))))), pV_nil, e_89⟩ pU_nil
theorem ok_90 : sInOk pPT i_90 := sInst3 (M := pm_172) (cus := []) pOk pg_172 (by decide +kernel) ⟨_, _, _, _, (pS_cons ok_1 (pS_cons ok_22 (pS_cons ok_81 (pS_cons ok_86 (pS_nil))))), pV_nil, e_90⟩ pU_nil
theorem ok_91 : sInOk pPT i_91 := sInst3 (M := pm_172) (cus := []) pOk pg_172 (by decide +kernel) ⟨_, _, _, _, (pS_cons ok_1 (pS_cons ok_22 (pS_cons ok_81 (pS_cons ok_86 (pS_nil))))), pV_nil, e_91⟩ pU_nil
theorem ok_92 : sInOk pPT i_92 := sInst3 (M := pm_182) (cus := []) pOk pg_182 (by decide +kernel) ⟨_, _, _, _, (pS_cons ok_1 (pS_cons ok_2 (pS_cons ok_3 (pS_cons ok_4 (pS_cons ok_5 (pS_cons ok_6 (pS_cons ok_7 (pS_cons ok_8 (pS_cons ok_9 (pS_cons ok_10 (pS_cons ok_74 (pS_cons ok_76 (pS_cons ok_79 (pS_cons ok_82 (pS_cons ok_85 (pS_cons ok_87 (pS_cons ok_88 (pS_cons ok_89 (pS_cons ok_90 (pS_cons ok_91 (pS_nil))))))))))))))))))))), pV_nil, e_92⟩ pU_nil
def pQ_93 (u : sCu) : Prop := ∃ (SM : List sIn) (H : gHt) (cu : List sCu) (n : Nat), (∀ I ∈ SM, sInOk pPT I) ∧ (∀ v ∈ cu, v ∈ us_93) ∧ sWhU pPT SM H i_93 (mR pm_175) cu n u = true
theorem q_93_0 : pQ_93 u_93_0 := ⟨_, _, _, _, (pS_nil), (pV_nil), f_93_0⟩
theorem q_93_1 : pQ_93 u_93_1 := ⟨_, _, _, _, (pS_cons ok_22 (pS_nil)), (pV_nil), f_93_1⟩
theorem qb_93_0 : ∀ u ∈ [u_93_0, u_93_1], pQ_93 u := pU_cons q_93_0 (pU_cons q_93_1 (pU_nil))
theorem ok_93 : sInOk pPT i_93 := sInst3 (M := pm_175) (cus := us_93) pOk pg_175 (by decide +kernel) ⟨_, _, _, _, (pS_cons ok_1 (pS_cons ok_22 (pS_cons ok_77 (pS_cons ok_78 (pS_nil))))), (pV_cons (List.mem_of_getElem? (i := 0) rfl) (pV_cons (List.mem_of_getElem? (i := 1) rfl) (pV_nil))), e_93⟩ (show ∀ u ∈ us_93, pQ_93 u from qb_93_0)
theorem ok_94 : sInOk pPT i_94 := sInst3 (M := pm_180) (cus := []) pOk pg_180 (by decide +kernel) ⟨_, _, _, _, (pS_cons ok_1 (pS_cons ok_22 (pS_cons ok_77 (pS_cons ok_80 (pS_cons ok_81 (pS_nil)))))), pV_nil, e_94⟩ pU_nil
def pQ_95 (u : sCu) : Prop := ∃ (SM : List sIn) (H : gHt) (cu : List sCu) (n : Nat), (∀ I ∈ SM, sInOk pPT I) ∧ (∀ v ∈ cu, v ∈ us_95) ∧ sWhU pPT SM H i_95 (mR pm_176) cu n u = true
theorem q_95_0 : pQ_95 u_95_0 := ⟨_, _, _, _, (pS_nil), (pV_nil), f_95_0⟩
theorem q_95_1 : pQ_95 u_95_1 := ⟨_, _, _, _, (pS_cons ok_22 (pS_cons ok_84 (pS_nil))), (pV_nil), f_95_1⟩
theorem qb_95_0 : ∀ u ∈ [u_95_0, u_95_1], pQ_95 u := pU_cons q_95_0 (pU_cons q_95_1 (pU_nil))
theorem ok_95 : sInOk pPT i_95 := sInst3 (M := pm_176) (cus := us_95) pOk pg_176 (by decide +kernel) ⟨_, _, _, _, (pS_cons ok_1 (pS_cons ok_22 (pS_cons ok_77 (pS_cons ok_83 (pS_nil))))), (pV_cons (List.mem_of_getElem? (i := 0) rfl) (pV_cons (List.mem_of_getElem? (i := 1) rfl) (pV_nil))), e_95⟩ (show ∀ u ∈ us_95, pQ_95 u from qb_95_0)
theorem ok_96 : sInOk pPT i_96 := sInst3 (M := pm_172) (cus := []) pOk pg_172 (by decide +kernel) ⟨_, _, _, _, (pS_cons ok_1 (pS_cons ok_22 (pS_cons ok_81 (pS_cons ok_86 (pS_nil))))), pV_nil, e_96⟩ pU_nil
theorem ok_97 : sInOk pPT i_97 := sInst3 (M := pm_172) (cus := []) pOk pg_172 (by decide +kernel) ⟨_, _, _, _, (pS_cons ok_1 (pS_cons ok_22 (pS_cons ok_81 (pS_cons ok_86 (pS_nil))))), pV_nil, e_97⟩ pU_nil
theorem ok_98 : sInOk pPT i_98 := sInst3 (M := pm_172) (cus := []) pOk pg_172 (by decide +kernel) ⟨_, _, _, _, (pS_cons ok_1 (pS_cons ok_22 (pS_cons ok_81 (pS_cons ok_86 (pS_nil))))), pV_nil, e_98⟩ pU_nil
theorem ok_99 : sInOk pPT i_99 := sInst3 (M := pm_172) (cus := []) pOk pg_172 (by decide +kernel) ⟨_, _, _, _, (pS_cons ok_1 (pS_cons ok_22 (pS_cons ok_81 (pS_cons ok_86 (pS_nil))))), pV_nil, e_99⟩ pU_nil
theorem ok_100 : sInOk pPT i_100 := sInst3 (M := pm_172) (cus := []) pOk pg_172 (by decide +kernel) ⟨_, _, _, _, (pS_cons ok_1 (pS_cons ok_22 (pS_cons ok_81 (pS_cons ok_86 (pS_nil))))), pV_nil, e_100⟩ pU_nil
theorem ok_101 : sInOk pPT i_101 := sInst3 (M := pm_182) (cus := []) pOk pg_182 (by decide +kernel) ⟨_, _, _, _, (pS_cons ok_2 (pS_cons ok_3 (pS_cons ok_4 (pS_cons ok_5 (pS_cons ok_6 (pS_cons ok_7 (pS_cons ok_8 (pS_cons ok_9 (pS_cons ok_10 (pS_cons ok_76 (pS_cons ok_93 (pS_cons ok_94 (pS_cons ok_95 (pS_cons ok_96 (pS_cons ok_97 (pS_cons ok_98 (pS_cons ok_99 (pS_cons ok_100 (pS_nil))))))))))))))))))), pV_nil, e_101⟩ pU_nil
def pQ_102 (u : sCu) : Prop := ∃ (SM : List sIn) (H : gHt) (cu : List sCu) (n : Nat), (∀ I ∈ SM, sInOk pPT I) ∧ (∀ v ∈ cu, v ∈ us_102) ∧ sWhU pPT SM H i_102 (mR pm_171) cu n u = true
theorem q_102_0 : pQ_102 u_102_0 := ⟨_, _, _, _, (pS_cons ok_1 (pS_nil)), (pV_cons (List.mem_of_getElem? (i := 1) rfl) (pV_nil)), f_102_0⟩
theorem q_102_1 : pQ_102 u_102_1 := ⟨_, _, _, _, (pS_cons ok_92 (pS_nil)), (pV_cons (List.mem_of_getElem? (i := 2) rfl) (pV_cons (List.mem_of_getElem? (i := 3) rfl) (pV_cons (List.mem_of_getElem? (i := 4) rfl) (pV_nil)))), f_102_1⟩
theorem q_102_2 : pQ_102 u_102_2 := ⟨_, _, _, _, (pS_nil), (pV_nil), f_102_2⟩
theorem q_102_3 : pQ_102 u_102_3 := ⟨_, _, _, _, (pS_cons ok_101 (pS_nil)), (pV_cons (List.mem_of_getElem? (i := 5) rfl) (pV_cons (List.mem_of_getElem? (i := 3) rfl) (pV_nil))), f_102_3⟩
theorem q_102_4 : pQ_102 u_102_4 := ⟨_, _, _, _, (pS_cons ok_92 (pS_nil)), (pV_cons (List.mem_of_getElem? (i := 2) rfl) (pV_cons (List.mem_of_getElem? (i := 3) rfl) (pV_cons (List.mem_of_getElem? (i := 4) rfl) (pV_nil)))), f_102_4⟩
theorem q_102_5 : pQ_102 u_102_5 := ⟨_, _, _, _, (pS_nil), (pV_nil), f_102_5⟩
theorem qb_102_0 : ∀ u ∈ [u_102_0, u_102_1, u_102_2, u_102_3, u_102_4, u_102_5], pQ_102 u := pU_cons q_102_0 (pU_cons q_102_1 (pU_cons q_102_2 (pU_cons q_102_3 (pU_cons q_102_4 (pU_cons q_102_5 (pU_nil))))))
theorem ok_102 : sInOk pPT i_102 := sInst3 (M := pm_171) (cus := us_102) pOk pg_171 (by decide +kernel) ⟨_, _, _, _, (pS_nil), (pV_cons (List.mem_of_getElem? (i := 0) rfl) (pV_nil)), e_102⟩ (show ∀ u ∈ us_102, pQ_102 u from qb_102_0)
theorem ok_103 : sInOk pPT i_103 := sInst3 (M := pm_153) (cus := []) pOk pg_153 (by decide +kernel) ⟨_, _, _, _, (pS_nil), pV_nil, e_103⟩ pU_nil
def pQ_104 (u : sCu) : Prop := ∃ (SM : List sIn) (H : gHt) (cu : List sCu) (n : Nat), (∀ I ∈ SM, sInOk pPT I) ∧ (∀ v ∈ cu, v ∈ us_104) ∧ sWhU pPT SM H i_104 (mR pm_145) cu n u = true
theorem q_104_0 : pQ_104 u_104_0 := ⟨_, _, _, _, (pS_nil), (pV_cons (List.mem_of_getElem? (i := 1) rfl) (pV_cons (List.mem_of_getElem? (i := 0) rfl) (pV_nil))), f_104_0⟩
theorem q_104_1 : pQ_104 u_104_1 := ⟨_, _, _, _, (pS_nil), (pV_cons (List.mem_of_getElem? (i := 2) rfl) (pV_cons (List.mem_of_getElem? (i := 3) rfl) (pV_nil))), f_104_1⟩
theorem q_104_2 : pQ_104 u_104_2 := ⟨_, _, _, _, (pS_nil), (pV_cons (List.mem_of_getElem? (i := 1) rfl) (pV_nil)), f_104_2⟩
theorem q_104_3 : pQ_104 u_104_3 := ⟨_, _, _, _, (pS_nil), (pV_cons (List.mem_of_getElem? (i := 2) rfl) (pV_nil)), f_104_3⟩
theorem qb_104_0 : ∀ u ∈ [u_104_0, u_104_1, u_104_2, u_104_3], pQ_104 u := pU_cons q_104_0 (pU_cons q_104_1 (pU_cons q_104_2 (pU_cons q_104_3 (pU_nil))))
theorem ok_104 : sInOk pPT i_104 := sInst3 (M := pm_145) (cus := us_104) pOk pg_145 (by decide +kernel) ⟨_, _, _, _, (pS_nil), (pV_cons (List.mem_of_getElem? (i := 0) rfl) (pV_nil)), e_104⟩ (show ∀ u ∈ us_104, pQ_104 u from qb_104_0)
def pQ_105 (u : sCu) : Prop := ∃ (SM : List sIn) (H : gHt) (cu : List sCu) (n : Nat), (∀ I ∈ SM, sInOk pPT I) ∧ (∀ v ∈ cu, v ∈ us_105) ∧ sWhU pPT SM H i_105 (mR pm_133) cu n u = true
theorem q_105_0 : pQ_105 u_105_0 := ⟨_, _, _, _, (pS_nil), (pV_cons (List.mem_of_getElem? (i := 1) rfl) (pV_cons (List.mem_of_getElem? (i := 2) rfl) (pV_nil))), f_105_0⟩
theorem q_105_1 : pQ_105 u_105_1 := ⟨_, _, _, _, (pS_nil), (pV_cons (List.mem_of_getElem? (i := 0) rfl) (pV_nil)), f_105_1⟩
theorem q_105_2 : pQ_105 u_105_2 := ⟨_, _, _, _, (pS_nil), (pV_cons (List.mem_of_getElem? (i := 1) rfl) (pV_nil)), f_105_2⟩
theorem qb_105_0 : ∀ u ∈ [u_105_0, u_105_1, u_105_2], pQ_105 u := pU_cons q_105_0 (pU_cons q_105_1 (pU_cons q_105_2 (pU_nil)))
theorem ok_105 : sInOk pPT i_105 := sInst3 (M := pm_133) (cus := us_105) pOk pg_133 (by decide +kernel) ⟨_, _, _, _, (pS_nil), (pV_cons (List.mem_of_getElem? (i := 0) rfl) (pV_nil)), e_105⟩ (show ∀ u ∈ us_105, pQ_105 u from qb_105_0)
def pQ_106 (u : sCu) : Prop := ∃ (SM : List sIn) (H : gHt) (cu : List sCu) (n : Nat), (∀ I ∈ SM, sInOk pPT I) ∧ (∀ v ∈ cu, v ∈ us_106) ∧ sWhU pPT SM H i_106 (mR pm_192) cu n u = true
theorem q_106_0 : pQ_106 u_106_0 := ⟨_, _, _, _, (pS_nil), (pV_cons (List.mem_of_getElem? (i := 1) rfl) (pV_cons (List.mem_of_getElem? (i := 4) rfl) (pV_cons (List.mem_of_getElem? (i := 5) rfl) (pV_cons (List.mem_of_getElem? (i := 6) rfl) (pV_cons (List.mem_of_getElem? (i := 7) rfl) (pV_cons (List.mem_of_getElem? (i := 8) rfl) (pV_cons (List.mem_of_getElem? (i := 9) rfl) (pV_cons (List.mem_of_getElem? (i := 10) rfl) (pV_cons (List.mem_of_getElem? (i := 3) rfl) (pV_cons (List.mem_of_getElem? (i := 2) rfl) (pV_nil))))))))))), f_106_0⟩
theorem q_106_1 : pQ_106 u_106_1 := ⟨_, _, _, _, (pS_nil), (pV_cons (List.mem_of_getElem? (i := 0) rfl) (pV_nil)), f_106_1⟩
theorem q_106_2 : pQ_106 u_106_2 := ⟨_, _, _, _, (pS_nil), (pV_cons (List.mem_of_getElem? (i := 1) rfl) (pV_nil)), f_106_2⟩
theorem q_106_3 : pQ_106 u_106_3 := ⟨_, _, _, _, (pS_nil), (pV_cons (List.mem_of_getElem? (i := 1) rfl) (pV_nil)), f_106_3⟩
theorem q_106_4 : pQ_106 u_106_4 := ⟨_, _, _, _, (pS_nil), (pV_cons (List.mem_of_getElem? (i := 1) rfl) (pV_nil)), f_106_4⟩
theorem q_106_5 : pQ_106 u_106_5 := ⟨_, _, _, _, (pS_nil), (pV_cons (List.mem_of_getElem? (i := 1) rfl) (pV_nil)), f_106_5⟩
theorem q_106_6 : pQ_106 u_106_6 := ⟨_, _, _, _, (pS_nil), (pV_cons (List.mem_of_getElem? (i := 1) rfl) (pV_nil)), f_106_6⟩
theorem q_106_7 : pQ_106 u_106_7 := ⟨_, _, _, _, (pS_nil), (pV_cons (List.mem_of_getElem? (i := 8) rfl) (pV_nil)), f_106_7⟩
theorem q_106_8 : pQ_106 u_106_8 := ⟨_, _, _, _, (pS_nil), (pV_cons (List.mem_of_getElem? (i := 1) rfl) (pV_nil)), f_106_8⟩
theorem q_106_9 : pQ_106 u_106_9 := ⟨_, _, _, _, (pS_nil), (pV_cons (List.mem_of_getElem? (i := 10) rfl) (pV_nil)), f_106_9⟩
theorem q_106_10 : pQ_106 u_106_10 := ⟨_, _, _, _, (pS_nil), (pV_cons (List.mem_of_getElem? (i := 1) rfl) (pV_nil)), f_106_10⟩
theorem qb_106_0 : ∀ u ∈ [u_106_0, u_106_1, u_106_2, u_106_3, u_106_4, u_106_5, u_106_6, u_106_7, u_106_8, u_106_9], pQ_106 u := pU_cons q_106_0 (pU_cons q_106_1 (pU_cons q_106_2 (pU_cons q_106_3 (pU_cons q_106_4 (pU_cons q_106_5 (pU_cons q_106_6 (pU_cons q_106_7 (pU_cons q_106_8 (pU_cons q_106_9 (pU_nil))))))))))
theorem qb_106_1 : ∀ u ∈ [u_106_10], pQ_106 u := pU_cons q_106_10 (pU_nil)
theorem ok_106 : sInOk pPT i_106 := sInst3 (M := pm_192) (cus := us_106) pOk pg_192 (by decide +kernel) ⟨_, _, _, _, (pS_nil), (pV_cons (List.mem_of_getElem? (i := 0) rfl) (pV_nil)), e_106⟩ (show ∀ u ∈ us_106, pQ_106 u from (pU_app qb_106_0 qb_106_1))
def pQ_107 (u : sCu) : Prop := ∃ (SM : List sIn) (H : gHt) (cu : List sCu) (n : Nat), (∀ I ∈ SM, sInOk pPT I) ∧ (∀ v ∈ cu, v ∈ us_107) ∧ sWhU pPT SM H i_107 (mR pm_151) cu n u = true
theorem q_107_0 : pQ_107 u_107_0 := ⟨_, _, _, _, (pS_nil), (pV_cons (List.mem_of_getElem? (i := 1) rfl) (pV_nil)), f_107_0⟩
theorem q_107_1 : pQ_107 u_107_1 := ⟨_, _, _, _, (pS_nil), (pV_cons (List.mem_of_getElem? (i := 2) rfl) (pV_nil)), f_107_1⟩
theorem q_107_2 : pQ_107 u_107_2 := ⟨_, _, _, _, (pS_nil), (pV_cons (List.mem_of_getElem? (i := 3) rfl) (pV_cons (List.mem_of_getElem? (i := 4) rfl) (pV_nil))), f_107_2⟩
theorem q_107_3 : pQ_107 u_107_3 := ⟨_, _, _, _, (pS_nil), (pV_cons (List.mem_of_getElem? (i := 4) rfl) (pV_nil)), f_107_3⟩
theorem q_107_4 : pQ_107 u_107_4 := ⟨_, _, _, _, (pS_nil), (pV_cons (List.mem_of_getElem? (i := 5) rfl) (pV_nil)), f_107_4⟩
theorem q_107_5 : pQ_107 u_107_5 := ⟨_, _, _, _, (pS_nil), (pV_cons (List.mem_of_getElem? (i := 6) rfl) (pV_nil)), f_107_5⟩
theorem q_107_6 : pQ_107 u_107_6 := ⟨_, _, _, _, (pS_cons ok_106 (pS_nil)), (pV_nil), f_107_6⟩
theorem qb_107_0 : ∀ u ∈ [u_107_0, u_107_1, u_107_2, u_107_3, u_107_4, u_107_5, u_107_6], pQ_107 u := pU_cons q_107_0 (pU_cons q_107_1 (pU_cons q_107_2 (pU_cons q_107_3 (pU_cons q_107_4 (pU_cons q_107_5 (pU_cons q_107_6 (pU_nil)))))))
theorem ok_107 : sInOk pPT i_107 := sInst3 (M := pm_151) (cus := us_107) pOk pg_151 (by decide +kernel) ⟨_, _, _, _, (pS_nil), (pV_cons (List.mem_of_getElem? (i := 0) rfl) (pV_cons (List.mem_of_getElem? (i := 1) rfl) (pV_nil))), e_107⟩ (show ∀ u ∈ us_107, pQ_107 u from qb_107_0)
def pQ_108 (u : sCu) : Prop := ∃ (SM : List sIn) (H : gHt) (cu : List sCu) (n : Nat), (∀ I ∈ SM, sInOk pPT I) ∧ (∀ v ∈ cu, v ∈ us_108) ∧ sWhU pPT SM H i_108 (mR pm_148) cu n u = true
theorem q_108_0 : pQ_108 u_108_0 := ⟨_, _, _, _, (pS_nil), (pV_cons (List.mem_of_getElem? (i := 1) rfl) (pV_nil)), f_108_0⟩
theorem q_108_1 : pQ_108 u_108_1 := ⟨_, _, _, _, (pS_nil), (pV_cons (List.mem_of_getElem? (i := 2) rfl) (pV_cons (List.mem_of_getElem? (i := 3) rfl) (pV_nil))), f_108_1⟩
theorem q_108_2 : pQ_108 u_108_2 := ⟨_, _, _, _, (pS_nil), (pV_cons (List.mem_of_getElem? (i := 3) rfl) (pV_nil)), f_108_2⟩
theorem q_108_3 : pQ_108 u_108_3 := ⟨_, _, _, _, (pS_nil), (pV_cons (List.mem_of_getElem? (i := 4) rfl) (pV_nil)), f_108_3⟩
theorem q_108_4 : pQ_108 u_108_4 := ⟨_, _, _, _, (pS_cons ok_107 (pS_nil)), (pV_nil), f_108_4⟩
theorem qb_108_0 : ∀ u ∈ [u_108_0, u_108_1, u_108_2, u_108_3, u_108_4], pQ_108 u := pU_cons q_108_0 (pU_cons q_108_1 (pU_cons q_108_2 (pU_cons q_108_3 (pU_cons q_108_4 (pU_nil)))))
theorem ok_108 : sInOk pPT i_108 := sInst3 (M := pm_148) (cus := us_108) pOk pg_148 (by decide +kernel) ⟨_, _, _, _, (pS_nil), (pV_cons (List.mem_of_getElem? (i := 0) rfl) (pV_cons (List.mem_of_getElem? (i := 1) rfl) (pV_nil))), e_108⟩ (show ∀ u ∈ us_108, pQ_108 u from qb_108_0)
def pQ_109 (u : sCu) : Prop := ∃ (SM : List sIn) (H : gHt) (cu : List sCu) (n : Nat), (∀ I ∈ SM, sInOk pPT I) ∧ (∀ v ∈ cu, v ∈ us_109) ∧ sWhU pPT SM H i_109 (mR pm_147) cu n u = true
theorem q_109_0 : pQ_109 u_109_0 := ⟨_, _, _, _, (pS_cons ok_108 (pS_nil)), (pV_cons (List.mem_of_getElem? (i := 1) rfl) (pV_nil)), f_109_0⟩
theorem q_109_1 : pQ_109 u_109_1 := ⟨_, _, _, _, (pS_nil), (pV_cons (List.mem_of_getElem? (i := 0) rfl) (pV_nil)), f_109_1⟩
theorem qb_109_0 : ∀ u ∈ [u_109_0, u_109_1], pQ_109 u := pU_cons q_109_0 (pU_cons q_109_1 (pU_nil))
theorem ok_109 : sInOk pPT i_109 := sInst3 (M := pm_147) (cus := us_109) pOk pg_147 (by decide +kernel) ⟨_, _, _, _, (pS_nil), (pV_cons (List.mem_of_getElem? (i := 0) rfl) (pV_nil)), e_109⟩ (show ∀ u ∈ us_109, pQ_109 u from qb_109_0)
def pQ_110 (u : sCu) : Prop := ∃ (SM : List sIn) (H : gHt) (cu : List sCu) (n : Nat), (∀ I ∈ SM, sInOk pPT I) ∧ (∀ v ∈ cu, v ∈ us_110) ∧ sWhU pPT SM H i_110 (mR pm_143) cu n u = true
theorem q_110_0 : pQ_110 u_110_0 := ⟨_, _, _, _, (pS_cons ok_105 (pS_cons ok_109 (pS_nil))), (pV_cons (List.mem_of_getElem? (i := 1) rfl) (pV_nil)), f_110_0⟩
theorem q_110_1 : pQ_110 u_110_1 := ⟨_, _, _, _, (pS_nil), (pV_cons (List.mem_of_getElem? (i := 0) rfl) (pV_nil)), f_110_1⟩
theorem qb_110_0 : ∀ u ∈ [u_110_0, u_110_1], pQ_110 u := pU_cons q_110_0 (pU_cons q_110_1 (pU_nil))
theorem ok_110 : sInOk pPT i_110 := sInst3 (M := pm_143) (cus := us_110) pOk pg_143 (by decide +kernel) ⟨_, _, _, _, (pS_cons ok_104 (pS_nil)), (pV_cons (List.mem_of_getElem? (i := 0) rfl) (pV_nil)), e_110⟩ (show ∀ u ∈ us_110, pQ_110 u from qb_110_0)
def pQ_111 (u : sCu) : Prop := ∃ (SM : List sIn) (H : gHt) (cu : List sCu) (n : Nat), (∀ I ∈ SM, sInOk pPT I) ∧ (∀ v ∈ cu, v ∈ us_111) ∧ sWhU pPT SM H i_111 (mR pm_144) cu n u = true
theorem q_111_0 : pQ_111 u_111_0 := ⟨_, _, _, _, (pS_cons ok_110 (pS_nil)), (pV_cons (List.mem_of_getElem? (i := 0) rfl) (pV_nil)), f_111_0⟩
theorem qb_111_0 : ∀ u ∈ [u_111_0], pQ_111 u := pU_cons q_111_0 (pU_nil)
theorem ok_111 : sInOk pPT i_111 := sInst3 (M := pm_144) (cus := us_111) pOk pg_144 (by decide +kernel) ⟨_, _, _, _, (pS_nil), (pV_cons (List.mem_of_getElem? (i := 0) rfl) (pV_nil)), e_111⟩ (show ∀ u ∈ us_111, pQ_111 u from qb_111_0)
theorem ok_112 : sInOk pPT i_112 := sInst3 (M := pm_257) (cus := []) pOk pg_257 (by decide +kernel) ⟨_, _, _, _, (pS_cons ok_102 (pS_cons ok_103 (pS_cons ok_111 (pS_nil)))), pV_nil, e_112⟩ pU_nil
theorem ok_113 : sInOk pPT i_113 := sInst3 (M := pm_15) (cus := []) pOk pg_15 (by decide +kernel) ⟨_, _, _, _, (pS_cons ok_112 (pS_nil)), pV_nil, e_113⟩ pU_nil
def pQ_114 (u : sCu) : Prop := ∃ (SM : List sIn) (H : gHt) (cu : List sCu) (n : Nat), (∀ I ∈ SM, sInOk pPT I) ∧ (∀ v ∈ cu, v ∈ us_114) ∧ sWhU pPT SM H i_114 (mR pm_110) cu n u = true
theorem q_114_0 : pQ_114 u_114_0 := ⟨_, _, _, _, (pS_nil), (pV_nil), f_114_0⟩
theorem q_114_1 : pQ_114 u_114_1 := ⟨_, _, _, _, (pS_nil), (pV_cons (List.mem_of_getElem? (i := 6) rfl) (pV_nil)), f_114_1⟩
theorem q_114_2 : pQ_114 u_114_2 := ⟨_, _, _, _, (pS_nil), (pV_cons (List.mem_of_getElem? (i := 0) rfl) (pV_nil)), f_114_2⟩
theorem q_114_3 : pQ_114 u_114_3 := ⟨_, _, _, _, (pS_nil), (pV_cons (List.mem_of_getElem? (i := 0) rfl) (pV_nil)), f_114_3⟩
theorem q_114_4 : pQ_114 u_114_4 := ⟨_, _, _, _, (pS_nil), (pV_cons (List.mem_of_getElem? (i := 7) rfl) (pV_nil)), f_114_4⟩
theorem q_114_5 : pQ_114 u_114_5 := ⟨_, _, _, _, (pS_nil), (pV_cons (List.mem_of_getElem? (i := 8) rfl) (pV_nil)), f_114_5⟩
theorem q_114_6 : pQ_114 u_114_6 := ⟨_, _, _, _, (pS_nil), (pV_cons (List.mem_of_getElem? (i := 0) rfl) (pV_cons (List.mem_of_getElem? (i := 1) rfl) (pV_cons (List.mem_of_getElem? (i := 2) rfl) (pV_cons (List.mem_of_getElem? (i := 3) rfl) (pV_cons (List.mem_of_getElem? (i := 4) rfl) (pV_cons (List.mem_of_getElem? (i := 5) rfl) (pV_nil))))))), f_114_6⟩
theorem q_114_7 : pQ_114 u_114_7 := ⟨_, _, _, _, (pS_nil), (pV_cons (List.mem_of_getElem? (i := 0) rfl) (pV_cons (List.mem_of_getElem? (i := 7) rfl) (pV_nil))), f_114_7⟩
theorem q_114_8 : pQ_114 u_114_8 := ⟨_, _, _, _, (pS_nil), (pV_cons (List.mem_of_getElem? (i := 0) rfl) (pV_cons (List.mem_of_getElem? (i := 8) rfl) (pV_nil))), f_114_8⟩
theorem qb_114_0 : ∀ u ∈ [u_114_0, u_114_1, u_114_2, u_114_3, u_114_4, u_114_5, u_114_6, u_114_7, u_114_8], pQ_114 u := pU_cons q_114_0 (pU_cons q_114_1 (pU_cons q_114_2 (pU_cons q_114_3 (pU_cons q_114_4 (pU_cons q_114_5 (pU_cons q_114_6 (pU_cons q_114_7 (pU_cons q_114_8 (pU_nil)))))))))
theorem ok_114 : sInOk pPT i_114 := sInst3 (M := pm_110) (cus := us_114) pOk pg_110 (by decide +kernel) ⟨_, _, _, _, (pS_nil), (pV_cons (List.mem_of_getElem? (i := 0) rfl) (pV_cons (List.mem_of_getElem? (i := 1) rfl) (pV_cons (List.mem_of_getElem? (i := 2) rfl) (pV_cons (List.mem_of_getElem? (i := 3) rfl) (pV_cons (List.mem_of_getElem? (i := 4) rfl) (pV_cons (List.mem_of_getElem? (i := 5) rfl) (pV_nil))))))), e_114⟩ (show ∀ u ∈ us_114, pQ_114 u from qb_114_0)
theorem ok_115 : sInOk pPT i_115 := sInst3 (M := pm_58) (cus := []) pOk pg_58 (by decide +kernel) ⟨_, _, _, _, (pS_nil), pV_nil, e_115⟩ pU_nil
theorem ok_116 : sInOk pPT i_116 := sInst3 (M := pm_58) (cus := []) pOk pg_58 (by decide +kernel) ⟨_, _, _, _, (pS_nil), pV_nil, e_116⟩ pU_nil
theorem ok_117 : sInOk pPT i_117 := sInst3 (M := pm_58) (cus := []) pOk pg_58 (by decide +kernel) ⟨_, _, _, _, (pS_nil), pV_nil, e_117⟩ pU_nil
theorem ok_118 : sInOk pPT i_118 := sInst3 (M := pm_58) (cus := []) pOk pg_58 (by decide +kernel) ⟨_, _, _, _, (pS_nil), pV_nil, e_118⟩ pU_nil
theorem ok_119 : sInOk pPT i_119 := sInst3 (M := pm_58) (cus := []) pOk pg_58 (by decide +kernel) ⟨_, _, _, _, (pS_nil), pV_nil, e_119⟩ pU_nil
theorem ok_120 : sInOk pPT i_120 := sInst3 (M := pm_124) (cus := []) pOk pg_124 (by decide +kernel) ⟨_, _, _, _, (pS_cons ok_115 (pS_cons ok_116 (pS_cons ok_117 (pS_cons ok_118 (pS_cons ok_119 (pS_nil)))))), pV_nil, e_120⟩ pU_nil
theorem ok_121 : sInOk pPT i_121 := sInst3 (M := pm_58) (cus := []) pOk pg_58 (by decide +kernel) ⟨_, _, _, _, (pS_nil), pV_nil, e_121⟩ pU_nil
theorem ok_122 : sInOk pPT i_122 := sInst3 (M := pm_58) (cus := []) pOk pg_58 (by decide +kernel) ⟨_, _, _, _, (pS_nil), pV_nil, e_122⟩ pU_nil
theorem ok_123 : sInOk pPT i_123 := sInst3 (M := pm_58) (cus := []) pOk pg_58 (by decide +kernel) ⟨_, _, _, _, (pS_nil), pV_nil, e_123⟩ pU_nil
theorem ok_124 : sInOk pPT i_124 := sInst3 (M := pm_58) (cus := []) pOk pg_58 (by decide +kernel) ⟨_, _, _, _, (pS_nil), pV_nil, e_124⟩ pU_nil
def pQ_125 (u : sCu) : Prop := ∃ (SM : List sIn) (H : gHt) (cu : List sCu) (n : Nat), (∀ I ∈ SM, sInOk pPT I) ∧ (∀ v ∈ cu, v ∈ us_125) ∧ sWhU pPT SM H i_125 (mR pm_30) cu n u = true
theorem q_125_0 : pQ_125 u_125_0 := ⟨_, _, _, _, (pS_cons ok_114 (pS_nil)), (pV_nil), f_125_0⟩
theorem q_125_1 : pQ_125 u_125_1 := ⟨_, _, _, _, (pS_nil), (pV_nil), f_125_1⟩
theorem qb_125_0 : ∀ u ∈ [u_125_0, u_125_1], pQ_125 u := pU_cons q_125_0 (pU_cons q_125_1 (pU_nil))
theorem ok_125 : sInOk pPT i_125 := sInst3 (M := pm_30) (cus := us_125) pOk pg_30 (by decide +kernel) ⟨_, _, _, _, (pS_nil), (pV_cons (List.mem_of_getElem? (i := 0) rfl) (pV_cons (List.mem_of_getElem? (i := 1) rfl) (pV_nil))), e_125⟩ (show ∀ u ∈ us_125, pQ_125 u from qb_125_0)
def pQ_126 (u : sCu) : Prop := ∃ (SM : List sIn) (H : gHt) (cu : List sCu) (n : Nat), (∀ I ∈ SM, sInOk pPT I) ∧ (∀ v ∈ cu, v ∈ us_126) ∧ sWhU pPT SM H i_126 (mR pm_84) cu n u = true
theorem q_126_0 : pQ_126 u_126_0 := ⟨_, _, _, _, (pS_nil), (pV_cons (List.mem_of_getElem? (i := 2) rfl) (pV_nil)), f_126_0⟩
theorem q_126_1 : pQ_126 u_126_1 := ⟨_, _, _, _, (pS_nil), (pV_nil), f_126_1⟩
theorem q_126_2 : pQ_126 u_126_2 := ⟨_, _, _, _, (pS_nil), (pV_nil), f_126_2⟩
theorem qb_126_0 : ∀ u ∈ [u_126_0, u_126_1, u_126_2], pQ_126 u := pU_cons q_126_0 (pU_cons q_126_1 (pU_cons q_126_2 (pU_nil)))
theorem ok_126 : sInOk pPT i_126 := sInst3 (M := pm_84) (cus := us_126) pOk pg_84 (by decide +kernel) ⟨_, _, _, _, (pS_nil), (pV_cons (List.mem_of_getElem? (i := 0) rfl) (pV_cons (List.mem_of_getElem? (i := 1) rfl) (pV_cons (List.mem_of_getElem? (i := 2) rfl) (pV_nil)))), e_126⟩ (show ∀ u ∈ us_126, pQ_126 u from qb_126_0)
def pQ_127 (u : sCu) : Prop := ∃ (SM : List sIn) (H : gHt) (cu : List sCu) (n : Nat), (∀ I ∈ SM, sInOk pPT I) ∧ (∀ v ∈ cu, v ∈ us_127) ∧ sWhU pPT SM H i_127 (mR pm_29) cu n u = true
theorem q_127_0 : pQ_127 u_127_0 := ⟨_, _, _, _, (pS_nil), (pV_nil), f_127_0⟩
theorem q_127_1 : pQ_127 u_127_1 := ⟨_, _, _, _, (pS_nil), (pV_nil), f_127_1⟩
theorem qb_127_0 : ∀ u ∈ [u_127_0, u_127_1], pQ_127 u := pU_cons q_127_0 (pU_cons q_127_1 (pU_nil))
theorem ok_127 : sInOk pPT i_127 := sInst3 (M := pm_29) (cus := us_127) pOk pg_29 (by decide +kernel) ⟨_, _, _, _, (pS_cons ok_126 (pS_nil)), (pV_cons (List.mem_of_getElem? (i := 0) rfl) (pV_cons (List.mem_of_getElem? (i := 1) rfl) (pV_nil))), e_127⟩ (show ∀ u ∈ us_127, pQ_127 u from qb_127_0)
def pQ_128 (u : sCu) : Prop := ∃ (SM : List sIn) (H : gHt) (cu : List sCu) (n : Nat), (∀ I ∈ SM, sInOk pPT I) ∧ (∀ v ∈ cu, v ∈ us_128) ∧ sWhU pPT SM H i_128 (mR pm_90) cu n u = true
theorem q_128_0 : pQ_128 u_128_0 := ⟨_, _, _, _, (pS_nil), (pV_nil), f_128_0⟩
theorem q_128_1 : pQ_128 u_128_1 := ⟨_, _, _, _, (pS_nil), (pV_nil), f_128_1⟩
theorem qb_128_0 : ∀ u ∈ [u_128_0, u_128_1], pQ_128 u := pU_cons q_128_0 (pU_cons q_128_1 (pU_nil))
theorem ok_128 : sInOk pPT i_128 := sInst3 (M := pm_90) (cus := us_128) pOk pg_90 (by decide +kernel) ⟨_, _, _, _, (pS_cons ok_114 (pS_cons ok_127 (pS_nil))), (pV_cons (List.mem_of_getElem? (i := 0) rfl) (pV_cons (List.mem_of_getElem? (i := 1) rfl) (pV_nil))), e_128⟩ (show ∀ u ∈ us_128, pQ_128 u from qb_128_0)
theorem ok_129 : sInOk pPT i_129 := sInst3 (M := pm_84) (cus := []) pOk pg_84 (by decide +kernel) ⟨_, _, _, _, (pS_nil), pV_nil, e_129⟩ pU_nil
def pQ_130 (u : sCu) : Prop := ∃ (SM : List sIn) (H : gHt) (cu : List sCu) (n : Nat), (∀ I ∈ SM, sInOk pPT I) ∧ (∀ v ∈ cu, v ∈ us_130) ∧ sWhU pPT SM H i_130 (mR pm_29) cu n u = true
theorem q_130_0 : pQ_130 u_130_0 := ⟨_, _, _, _, (pS_nil), (pV_nil), f_130_0⟩
theorem qb_130_0 : ∀ u ∈ [u_130_0], pQ_130 u := pU_cons q_130_0 (pU_nil)
theorem ok_130 : sInOk pPT i_130 := sInst3 (M := pm_29) (cus := us_130) pOk pg_29 (by decide +kernel) ⟨_, _, _, _, (pS_cons ok_129 (pS_nil)), (pV_cons (List.mem_of_getElem? (i := 0) rfl) (pV_nil)), e_130⟩ (show ∀ u ∈ us_130, pQ_130 u from qb_130_0)
def pQ_131 (u : sCu) : Prop := ∃ (SM : List sIn) (H : gHt) (cu : List sCu) (n : Nat), (∀ I ∈ SM, sInOk pPT I) ∧ (∀ v ∈ cu, v ∈ us_131) ∧ sWhU pPT SM H i_131 (mR pm_104) cu n u = true
theorem q_131_0 : pQ_131 u_131_0 := ⟨_, _, _, _, (pS_nil), (pV_cons (List.mem_of_getElem? (i := 4) rfl) (pV_cons (List.mem_of_getElem? (i := 0) rfl) (pV_cons (List.mem_of_getElem? (i := 1) rfl) (pV_nil)))), f_131_0⟩
theorem q_131_1 : pQ_131 u_131_1 := ⟨_, _, _, _, (pS_nil), (pV_cons (List.mem_of_getElem? (i := 5) rfl) (pV_cons (List.mem_of_getElem? (i := 1) rfl) (pV_nil))), f_131_1⟩
theorem q_131_2 : pQ_131 u_131_2 := ⟨_, _, _, _, (pS_nil), (pV_cons (List.mem_of_getElem? (i := 5) rfl) (pV_cons (List.mem_of_getElem? (i := 2) rfl) (pV_cons (List.mem_of_getElem? (i := 3) rfl) (pV_nil)))), f_131_2⟩
theorem q_131_3 : pQ_131 u_131_3 := ⟨_, _, _, _, (pS_nil), (pV_cons (List.mem_of_getElem? (i := 5) rfl) (pV_cons (List.mem_of_getElem? (i := 3) rfl) (pV_nil))), f_131_3⟩
theorem q_131_4 : pQ_131 u_131_4 := ⟨_, _, _, _, (pS_cons ok_114 (pS_nil)), (pV_cons (List.mem_of_getElem? (i := 7) rfl) (pV_nil)), f_131_4⟩
theorem q_131_5 : pQ_131 u_131_5 := ⟨_, _, _, _, (pS_nil), (pV_cons (List.mem_of_getElem? (i := 8) rfl) (pV_nil)), f_131_5⟩
theorem q_131_6 : pQ_131 u_131_6 := ⟨_, _, _, _, (pS_nil), (pV_cons (List.mem_of_getElem? (i := 8) rfl) (pV_nil)), f_131_6⟩
theorem q_131_7 : pQ_131 u_131_7 := ⟨_, _, _, _, (pS_nil), (pV_nil), f_131_7⟩
theorem q_131_8 : pQ_131 u_131_8 := ⟨_, _, _, _, (pS_nil), (pV_nil), f_131_8⟩
theorem qb_131_0 : ∀ u ∈ [u_131_0, u_131_1, u_131_2, u_131_3, u_131_4, u_131_5, u_131_6, u_131_7, u_131_8], pQ_131 u := pU_cons q_131_0 (pU_cons q_131_1 (pU_cons q_131_2 (pU_cons q_131_3 (pU_cons q_131_4 (pU_cons q_131_5 (pU_cons q_131_6 (pU_cons q_131_7 (pU_cons q_131_8 (pU_nil)))))))))
theorem ok_131 : sInOk pPT i_131 := sInst3 (M := pm_104) (cus := us_131) pOk pg_104 (by decide +kernel) ⟨_, _, _, _, (pS_cons ok_125 (pS_cons ok_127 (pS_cons ok_128 (pS_cons ok_130 (pS_nil))))), (pV_cons (List.mem_of_getElem? (i := 0) rfl) (pV_cons (List.mem_of_getElem? (i := 1) rfl) (pV_cons (List.mem_of_getElem? (i := 2) rfl) (pV_cons (List.mem_of_getElem? (i := 3) rfl) (pV_nil))))), e_131⟩ (show ∀ u ∈ us_131, pQ_131 u from qb_131_0)
def pQ_132 (u : sCu) : Prop := ∃ (SM : List sIn) (H : gHt) (cu : List sCu) (n : Nat), (∀ I ∈ SM, sInOk pPT I) ∧ (∀ v ∈ cu, v ∈ us_132) ∧ sWhU pPT SM H i_132 (mR pm_30) cu n u = true
theorem q_132_0 : pQ_132 u_132_0 := ⟨_, _, _, _, (pS_cons ok_114 (pS_nil)), (pV_nil), f_132_0⟩
theorem q_132_1 : pQ_132 u_132_1 := ⟨_, _, _, _, (pS_nil), (pV_nil), f_132_1⟩
theorem qb_132_0 : ∀ u ∈ [u_132_0, u_132_1], pQ_132 u := pU_cons q_132_0 (pU_cons q_132_1 (pU_nil))
theorem ok_132 : sInOk pPT i_132 := sInst3 (M := pm_30) (cus := us_132) pOk pg_30 (by decide +kernel) ⟨_, _, _, _, (pS_nil), (pV_cons (List.mem_of_getElem? (i := 0) rfl) (pV_cons (List.mem_of_getElem? (i := 1) rfl) (pV_nil))), e_132⟩ (show ∀ u ∈ us_132, pQ_132 u from qb_132_0)
def pQ_133 (u : sCu) : Prop := ∃ (SM : List sIn) (H : gHt) (cu : List sCu) (n : Nat), (∀ I ∈ SM, sInOk pPT I) ∧ (∀ v ∈ cu, v ∈ us_133) ∧ sWhU pPT SM H i_133 (mR pm_84) cu n u = true
theorem q_133_0 : pQ_133 u_133_0 := ⟨_, _, _, _, (pS_nil), (pV_cons (List.mem_of_getElem? (i := 2) rfl) (pV_nil)), f_133_0⟩
theorem q_133_1 : pQ_133 u_133_1 := ⟨_, _, _, _, (pS_nil), (pV_nil), f_133_1⟩
theorem q_133_2 : pQ_133 u_133_2 := ⟨_, _, _, _, (pS_nil), (pV_nil), f_133_2⟩
theorem qb_133_0 : ∀ u ∈ [u_133_0, u_133_1, u_133_2], pQ_133 u := pU_cons q_133_0 (pU_cons q_133_1 (pU_cons q_133_2 (pU_nil)))
theorem ok_133 : sInOk pPT i_133 := sInst3 (M := pm_84) (cus := us_133) pOk pg_84 (by decide +kernel) ⟨_, _, _, _, (pS_nil), (pV_cons (List.mem_of_getElem? (i := 0) rfl) (pV_cons (List.mem_of_getElem? (i := 1) rfl) (pV_cons (List.mem_of_getElem? (i := 2) rfl) (pV_nil)))), e_133⟩ (show ∀ u ∈ us_133, pQ_133 u from qb_133_0)
def pQ_134 (u : sCu) : Prop := ∃ (SM : List sIn) (H : gHt) (cu : List sCu) (n : Nat), (∀ I ∈ SM, sInOk pPT I) ∧ (∀ v ∈ cu, v ∈ us_134) ∧ sWhU pPT SM H i_134 (mR pm_95) cu n u = true
theorem q_134_0 : pQ_134 u_134_0 := ⟨_, _, _, _, (pS_nil), (pV_nil), f_134_0⟩
theorem q_134_1 : pQ_134 u_134_1 := ⟨_, _, _, _, (pS_nil), (pV_nil), f_134_1⟩
theorem qb_134_0 : ∀ u ∈ [u_134_0, u_134_1], pQ_134 u := pU_cons q_134_0 (pU_cons q_134_1 (pU_nil))
theorem ok_134 : sInOk pPT i_134 := sInst3 (M := pm_95) (cus := us_134) pOk pg_95 (by decide +kernel) ⟨_, _, _, _, (pS_cons ok_114 (pS_cons ok_133 (pS_nil))), (pV_cons (List.mem_of_getElem? (i := 0) rfl) (pV_cons (List.mem_of_getElem? (i := 1) rfl) (pV_nil))), e_134⟩ (show ∀ u ∈ us_134, pQ_134 u from qb_134_0)
def pQ_135 (u : sCu) : Prop := ∃ (SM : List sIn) (H : gHt) (cu : List sCu) (n : Nat), (∀ I ∈ SM, sInOk pPT I) ∧ (∀ v ∈ cu, v ∈ us_135) ∧ sWhU pPT SM H i_135 (mR pm_84) cu n u = true
theorem q_135_0 : pQ_135 u_135_0 := ⟨_, _, _, _, (pS_nil), (pV_cons (List.mem_of_getElem? (i := 2) rfl) (pV_nil)), f_135_0⟩
theorem q_135_1 : pQ_135 u_135_1 := ⟨_, _, _, _, (pS_nil), (pV_nil), f_135_1⟩
theorem q_135_2 : pQ_135 u_135_2 := ⟨_, _, _, _, (pS_nil), (pV_nil), f_135_2⟩
theorem qb_135_0 : ∀ u ∈ [u_135_0, u_135_1, u_135_2], pQ_135 u := pU_cons q_135_0 (pU_cons q_135_1 (pU_cons q_135_2 (pU_nil)))
theorem ok_135 : sInOk pPT i_135 := sInst3 (M := pm_84) (cus := us_135) pOk pg_84 (by decide +kernel) ⟨_, _, _, _, (pS_nil), (pV_cons (List.mem_of_getElem? (i := 0) rfl) (pV_cons (List.mem_of_getElem? (i := 1) rfl) (pV_cons (List.mem_of_getElem? (i := 2) rfl) (pV_nil)))), e_135⟩ (show ∀ u ∈ us_135, pQ_135 u from qb_135_0)
def pQ_136 (u : sCu) : Prop := ∃ (SM : List sIn) (H : gHt) (cu : List sCu) (n : Nat), (∀ I ∈ SM, sInOk pPT I) ∧ (∀ v ∈ cu, v ∈ us_136) ∧ sWhU pPT SM H i_136 (mR pm_95) cu n u = true
theorem q_136_0 : pQ_136 u_136_0 := ⟨_, _, _, _, (pS_nil), (pV_nil), f_136_0⟩
theorem q_136_1 : pQ_136 u_136_1 := ⟨_, _, _, _, (pS_nil), (pV_nil), f_136_1⟩
theorem qb_136_0 : ∀ u ∈ [u_136_0, u_136_1], pQ_136 u := pU_cons q_136_0 (pU_cons q_136_1 (pU_nil))
theorem ok_136 : sInOk pPT i_136 := sInst3 (M := pm_95) (cus := us_136) pOk pg_95 (by decide +kernel) ⟨_, _, _, _, (pS_cons ok_114 (pS_cons ok_135 (pS_nil))), (pV_cons (List.mem_of_getElem? (i := 0) rfl) (pV_cons (List.mem_of_getElem? (i := 1) rfl) (pV_nil))), e_136⟩ (show ∀ u ∈ us_136, pQ_136 u from qb_136_0)
def pQ_137 (u : sCu) : Prop := ∃ (SM : List sIn) (H : gHt) (cu : List sCu) (n : Nat), (∀ I ∈ SM, sInOk pPT I) ∧ (∀ v ∈ cu, v ∈ us_137) ∧ sWhU pPT SM H i_137 (mR pm_90) cu n u = true
theorem q_137_0 : pQ_137 u_137_0 := ⟨_, _, _, _, (pS_nil), (pV_nil), f_137_0⟩
theorem qb_137_0 : ∀ u ∈ [u_137_0], pQ_137 u := pU_cons q_137_0 (pU_nil)
theorem ok_137 : sInOk pPT i_137 := sInst3 (M := pm_90) (cus := us_137) pOk pg_90 (by decide +kernel) ⟨_, _, _, _, (pS_cons ok_130 (pS_nil)), (pV_cons (List.mem_of_getElem? (i := 0) rfl) (pV_nil)), e_137⟩ (show ∀ u ∈ us_137, pQ_137 u from qb_137_0)
theorem ok_138 : sInOk pPT i_138 := sInst3 (M := pm_84) (cus := []) pOk pg_84 (by decide +kernel) ⟨_, _, _, _, (pS_nil), pV_nil, e_138⟩ pU_nil
def pQ_139 (u : sCu) : Prop := ∃ (SM : List sIn) (H : gHt) (cu : List sCu) (n : Nat), (∀ I ∈ SM, sInOk pPT I) ∧ (∀ v ∈ cu, v ∈ us_139) ∧ sWhU pPT SM H i_139 (mR pm_95) cu n u = true
theorem q_139_0 : pQ_139 u_139_0 := ⟨_, _, _, _, (pS_nil), (pV_nil), f_139_0⟩
theorem qb_139_0 : ∀ u ∈ [u_139_0], pQ_139 u := pU_cons q_139_0 (pU_nil)
theorem ok_139 : sInOk pPT i_139 := sInst3 (M := pm_95) (cus := us_139) pOk pg_95 (by decide +kernel) ⟨_, _, _, _, (pS_cons ok_138 (pS_nil)), (pV_cons (List.mem_of_getElem? (i := 0) rfl) (pV_nil)), e_139⟩ (show ∀ u ∈ us_139, pQ_139 u from qb_139_0)
theorem ok_140 : sInOk pPT i_140 := sInst3 (M := pm_106) (cus := []) pOk pg_106 (by decide +kernel) ⟨_, _, _, _, (pS_cons ok_128 (pS_cons ok_132 (pS_cons ok_134 (pS_cons ok_136 (pS_cons ok_137 (pS_cons ok_139 (pS_nil))))))), pV_nil, e_140⟩ pU_nil
def pQ_141 (u : sCu) : Prop := ∃ (SM : List sIn) (H : gHt) (cu : List sCu) (n : Nat), (∀ I ∈ SM, sInOk pPT I) ∧ (∀ v ∈ cu, v ∈ us_141) ∧ sWhU pPT SM H i_141 (mR pm_30) cu n u = true
theorem q_141_0 : pQ_141 u_141_0 := ⟨_, _, _, _, (pS_cons ok_114 (pS_nil)), (pV_nil), f_141_0⟩
theorem q_141_1 : pQ_141 u_141_1 := ⟨_, _, _, _, (pS_nil), (pV_nil), f_141_1⟩
theorem qb_141_0 : ∀ u ∈ [u_141_0, u_141_1], pQ_141 u := pU_cons q_141_0 (pU_cons q_141_1 (pU_nil))
theorem ok_141 : sInOk pPT i_141 := sInst3 (M := pm_30) (cus := us_141) pOk pg_30 (by decide +kernel) ⟨_, _, _, _, (pS_nil), (pV_cons (List.mem_of_getElem? (i := 0) rfl) (pV_cons (List.mem_of_getElem? (i := 1) rfl) (pV_nil))), e_141⟩ (show ∀ u ∈ us_141, pQ_141 u from qb_141_0)
def pQ_142 (u : sCu) : Prop := ∃ (SM : List sIn) (H : gHt) (cu : List sCu) (n : Nat), (∀ I ∈ SM, sInOk pPT I) ∧ (∀ v ∈ cu, v ∈ us_142) ∧ sWhU pPT SM H i_142 (mR pm_84) cu n u = true
theorem q_142_0 : pQ_142 u_142_0 := ⟨_, _, _, _, (pS_nil), (pV_cons (List.mem_of_getElem? (i := 2) rfl) (pV_nil)), f_142_0⟩
theorem q_142_1 : pQ_142 u_142_1 := ⟨_, _, _, _, (pS_nil), (pV_nil), f_142_1⟩
theorem q_142_2 : pQ_142 u_142_2 := ⟨_, _, _, _, (pS_nil), (pV_nil), f_142_2⟩
theorem qb_142_0 : ∀ u ∈ [u_142_0, u_142_1, u_142_2], pQ_142 u := pU_cons q_142_0 (pU_cons q_142_1 (pU_cons q_142_2 (pU_nil)))
theorem ok_142 : sInOk pPT i_142 := sInst3 (M := pm_84) (cus := us_142) pOk pg_84 (by decide +kernel) ⟨_, _, _, _, (pS_nil), (pV_cons (List.mem_of_getElem? (i := 0) rfl) (pV_cons (List.mem_of_getElem? (i := 1) rfl) (pV_cons (List.mem_of_getElem? (i := 2) rfl) (pV_nil)))), e_142⟩ (show ∀ u ∈ us_142, pQ_142 u from qb_142_0)
def pQ_143 (u : sCu) : Prop := ∃ (SM : List sIn) (H : gHt) (cu : List sCu) (n : Nat), (∀ I ∈ SM, sInOk pPT I) ∧ (∀ v ∈ cu, v ∈ us_143) ∧ sWhU pPT SM H i_143 (mR pm_95) cu n u = true
theorem q_143_0 : pQ_143 u_143_0 := ⟨_, _, _, _, (pS_nil), (pV_nil), f_143_0⟩
theorem q_143_1 : pQ_143 u_143_1 := ⟨_, _, _, _, (pS_nil), (pV_nil), f_143_1⟩
theorem qb_143_0 : ∀ u ∈ [u_143_0, u_143_1], pQ_143 u := pU_cons q_143_0 (pU_cons q_143_1 (pU_nil))
theorem ok_143 : sInOk pPT i_143 := sInst3 (M := pm_95) (cus := us_143) pOk pg_95 (by decide +kernel) ⟨_, _, _, _, (pS_cons ok_114 (pS_cons ok_142 (pS_nil))), (pV_cons (List.mem_of_getElem? (i := 0) rfl) (pV_cons (List.mem_of_getElem? (i := 1) rfl) (pV_nil))), e_143⟩ (show ∀ u ∈ us_143, pQ_143 u from qb_143_0)
theorem ok_144 : sInOk pPT i_144 := sInst3 (M := pm_84) (cus := []) pOk pg_84 (by decide +kernel) ⟨_, _, _, _, (pS_nil), pV_nil, e_144⟩ pU_nil
def pQ_145 (u : sCu) : Prop := ∃ (SM : List sIn) (H : gHt) (cu : List sCu) (n : Nat), (∀ I ∈ SM, sInOk pPT I) ∧ (∀ v ∈ cu, v ∈ us_145) ∧ sWhU pPT SM H i_145 (mR pm_95) cu n u = true
theorem q_145_0 : pQ_145 u_145_0 := ⟨_, _, _, _, (pS_nil), (pV_nil), f_145_0⟩
theorem qb_145_0 : ∀ u ∈ [u_145_0], pQ_145 u := pU_cons q_145_0 (pU_nil)
theorem ok_145 : sInOk pPT i_145 := sInst3 (M := pm_95) (cus := us_145) pOk pg_95 (by decide +kernel) ⟨_, _, _, _, (pS_cons ok_144 (pS_nil)), (pV_cons (List.mem_of_getElem? (i := 0) rfl) (pV_nil)), e_145⟩ (show ∀ u ∈ us_145, pQ_145 u from qb_145_0)
def pQ_146 (u : sCu) : Prop := ∃ (SM : List sIn) (H : gHt) (cu : List sCu) (n : Nat), (∀ I ∈ SM, sInOk pPT I) ∧ (∀ v ∈ cu, v ∈ us_146) ∧ sWhU pPT SM H i_146 (mR pm_105) cu n u = true
theorem q_146_0 : pQ_146 u_146_0 := ⟨_, _, _, _, (pS_nil), (pV_cons (List.mem_of_getElem? (i := 4) rfl) (pV_cons (List.mem_of_getElem? (i := 0) rfl) (pV_cons (List.mem_of_getElem? (i := 1) rfl) (pV_nil)))), f_146_0⟩
theorem q_146_1 : pQ_146 u_146_1 := ⟨_, _, _, _, (pS_nil), (pV_cons (List.mem_of_getElem? (i := 5) rfl) (pV_cons (List.mem_of_getElem? (i := 1) rfl) (pV_nil))), f_146_1⟩
theorem q_146_2 : pQ_146 u_146_2 := ⟨_, _, _, _, (pS_nil), (pV_cons (List.mem_of_getElem? (i := 5) rfl) (pV_cons (List.mem_of_getElem? (i := 2) rfl) (pV_cons (List.mem_of_getElem? (i := 3) rfl) (pV_nil)))), f_146_2⟩
theorem q_146_3 : pQ_146 u_146_3 := ⟨_, _, _, _, (pS_nil), (pV_cons (List.mem_of_getElem? (i := 5) rfl) (pV_cons (List.mem_of_getElem? (i := 3) rfl) (pV_nil))), f_146_3⟩
theorem q_146_4 : pQ_146 u_146_4 := ⟨_, _, _, _, (pS_cons ok_114 (pS_nil)), (pV_cons (List.mem_of_getElem? (i := 7) rfl) (pV_nil)), f_146_4⟩
theorem q_146_5 : pQ_146 u_146_5 := ⟨_, _, _, _, (pS_nil), (pV_cons (List.mem_of_getElem? (i := 8) rfl) (pV_nil)), f_146_5⟩
theorem q_146_6 : pQ_146 u_146_6 := ⟨_, _, _, _, (pS_nil), (pV_cons (List.mem_of_getElem? (i := 8) rfl) (pV_nil)), f_146_6⟩
theorem q_146_7 : pQ_146 u_146_7 := ⟨_, _, _, _, (pS_cons ok_143 (pS_nil)), (pV_nil), f_146_7⟩
theorem q_146_8 : pQ_146 u_146_8 := ⟨_, _, _, _, (pS_cons ok_145 (pS_nil)), (pV_nil), f_146_8⟩
theorem qb_146_0 : ∀ u ∈ [u_146_0, u_146_1, u_146_2, u_146_3, u_146_4, u_146_5, u_146_6, u_146_7, u_146_8], pQ_146 u := pU_cons q_146_0 (pU_cons q_146_1 (pU_cons q_146_2 (pU_cons q_146_3 (pU_cons q_146_4 (pU_cons q_146_5 (pU_cons q_146_6 (pU_cons q_146_7 (pU_cons q_146_8 (pU_nil)))))))))
theorem ok_146 : sInOk pPT i_146 := sInst3 (M := pm_105) (cus := us_146) pOk pg_105 (by decide +kernel) ⟨_, _, _, _, (pS_cons ok_127 (pS_cons ok_128 (pS_cons ok_130 (pS_cons ok_141 (pS_nil))))), (pV_cons (List.mem_of_getElem? (i := 0) rfl) (pV_cons (List.mem_of_getElem? (i := 1) rfl) (pV_cons (List.mem_of_getElem? (i := 2) rfl) (pV_cons (List.mem_of_getElem? (i := 3) rfl) (pV_nil))))), e_146⟩ (show ∀ u ∈ us_146, pQ_146 u from qb_146_0)
def pQ_147 (u : sCu) : Prop := ∃ (SM : List sIn) (H : gHt) (cu : List sCu) (n : Nat), (∀ I ∈ SM, sInOk pPT I) ∧ (∀ v ∈ cu, v ∈ us_147) ∧ sWhU pPT SM H i_147 (mR pm_30) cu n u = true
theorem q_147_0 : pQ_147 u_147_0 := ⟨_, _, _, _, (pS_cons ok_114 (pS_nil)), (pV_nil), f_147_0⟩
theorem q_147_1 : pQ_147 u_147_1 := ⟨_, _, _, _, (pS_nil), (pV_nil), f_147_1⟩
theorem qb_147_0 : ∀ u ∈ [u_147_0, u_147_1], pQ_147 u := pU_cons q_147_0 (pU_cons q_147_1 (pU_nil))
theorem ok_147 : sInOk pPT i_147 := sInst3 (M := pm_30) (cus := us_147) pOk pg_30 (by decide +kernel) ⟨_, _, _, _, (pS_nil), (pV_cons (List.mem_of_getElem? (i := 0) rfl) (pV_cons (List.mem_of_getElem? (i := 1) rfl) (pV_nil))), e_147⟩ (show ∀ u ∈ us_147, pQ_147 u from qb_147_0)
def pQ_148 (u : sCu) : Prop := ∃ (SM : List sIn) (H : gHt) (cu : List sCu) (n : Nat), (∀ I ∈ SM, sInOk pPT I) ∧ (∀ v ∈ cu, v ∈ us_148) ∧ sWhU pPT SM H i_148 (mR pm_84) cu n u = true
theorem q_148_0 : pQ_148 u_148_0 := ⟨_, _, _, _, (pS_nil), (pV_cons (List.mem_of_getElem? (i := 2) rfl) (pV_nil)), f_148_0⟩
theorem q_148_1 : pQ_148 u_148_1 := ⟨_, _, _, _, (pS_nil), (pV_nil), f_148_1⟩
theorem q_148_2 : pQ_148 u_148_2 := ⟨_, _, _, _, (pS_nil), (pV_nil), f_148_2⟩
theorem qb_148_0 : ∀ u ∈ [u_148_0, u_148_1, u_148_2], pQ_148 u := pU_cons q_148_0 (pU_cons q_148_1 (pU_cons q_148_2 (pU_nil)))
theorem ok_148 : sInOk pPT i_148 := sInst3 (M := pm_84) (cus := us_148) pOk pg_84 (by decide +kernel) ⟨_, _, _, _, (pS_nil), (pV_cons (List.mem_of_getElem? (i := 0) rfl) (pV_cons (List.mem_of_getElem? (i := 1) rfl) (pV_cons (List.mem_of_getElem? (i := 2) rfl) (pV_nil)))), e_148⟩ (show ∀ u ∈ us_148, pQ_148 u from qb_148_0)
def pQ_149 (u : sCu) : Prop := ∃ (SM : List sIn) (H : gHt) (cu : List sCu) (n : Nat), (∀ I ∈ SM, sInOk pPT I) ∧ (∀ v ∈ cu, v ∈ us_149) ∧ sWhU pPT SM H i_149 (mR pm_95) cu n u = true
theorem q_149_0 : pQ_149 u_149_0 := ⟨_, _, _, _, (pS_nil), (pV_nil), f_149_0⟩
theorem q_149_1 : pQ_149 u_149_1 := ⟨_, _, _, _, (pS_nil), (pV_nil), f_149_1⟩
theorem qb_149_0 : ∀ u ∈ [u_149_0, u_149_1], pQ_149 u := pU_cons q_149_0 (pU_cons q_149_1 (pU_nil))
theorem ok_149 : sInOk pPT i_149 := sInst3 (M := pm_95) (cus := us_149) pOk pg_95 (by decide +kernel) ⟨_, _, _, _, (pS_cons ok_114 (pS_cons ok_148 (pS_nil))), (pV_cons (List.mem_of_getElem? (i := 0) rfl) (pV_cons (List.mem_of_getElem? (i := 1) rfl) (pV_nil))), e_149⟩ (show ∀ u ∈ us_149, pQ_149 u from qb_149_0)
theorem ok_150 : sInOk pPT i_150 := sInst3 (M := pm_84) (cus := []) pOk pg_84 (by decide +kernel) ⟨_, _, _, _, (pS_nil), pV_nil, e_150⟩ pU_nil
def pQ_151 (u : sCu) : Prop := ∃ (SM : List sIn) (H : gHt) (cu : List sCu) (n : Nat), (∀ I ∈ SM, sInOk pPT I) ∧ (∀ v ∈ cu, v ∈ us_151) ∧ sWhU pPT SM H i_151 (mR pm_95) cu n u = true
theorem q_151_0 : pQ_151 u_151_0 := ⟨_, _, _, _, (pS_nil), (pV_nil), f_151_0⟩
theorem qb_151_0 : ∀ u ∈ [u_151_0], pQ_151 u := pU_cons q_151_0 (pU_nil)
theorem ok_151 : sInOk pPT i_151 := sInst3 (M := pm_95) (cus := us_151) pOk pg_95 (by decide +kernel) ⟨_, _, _, _, (pS_cons ok_150 (pS_nil)), (pV_cons (List.mem_of_getElem? (i := 0) rfl) (pV_nil)), e_151⟩ (show ∀ u ∈ us_151, pQ_151 u from qb_151_0)
theorem ok_152 : sInOk pPT i_152 := sInst3 (M := pm_103) (cus := []) pOk pg_103 (by decide +kernel) ⟨_, _, _, _, (pS_cons ok_136 (pS_cons ok_139 (pS_cons ok_147 (pS_cons ok_149 (pS_cons ok_151 (pS_nil)))))), pV_nil, e_152⟩ pU_nil
theorem ok_153 : sInOk pPT i_153 := sInst3 (M := pm_103) (cus := []) pOk pg_103 (by decide +kernel) ⟨_, _, _, _, (pS_cons ok_136 (pS_cons ok_139 (pS_cons ok_147 (pS_cons ok_149 (pS_cons ok_151 (pS_nil)))))), pV_nil, e_153⟩ pU_nil
theorem ok_154 : sInOk pPT i_154 := sInst3 (M := pm_103) (cus := []) pOk pg_103 (by decide +kernel) ⟨_, _, _, _, (pS_cons ok_136 (pS_cons ok_139 (pS_cons ok_147 (pS_cons ok_149 (pS_cons ok_151 (pS_nil)))))), pV_nil, e_154⟩ pU_nil
theorem ok_155 : sInOk pPT i_155 := sInst3 (M := pm_103) (cus := []) pOk pg_103 (by decide +kernel) ⟨_, _, _, _, (pS_cons ok_136 (pS_cons ok_139 (pS_cons ok_147 (pS_cons ok_149 (pS_cons ok_151 (pS_nil)))))), pV_nil, e_155⟩ pU_nil
theorem ok_156 : sInOk pPT i_156 := sInst3 (M := pm_103) (cus := []) pOk pg_103 (by decide +kernel) ⟨_, _, _, _, (pS_cons ok_136 (pS_cons ok_139 (pS_cons ok_147 (pS_cons ok_149 (pS_cons ok_151 (pS_nil)))))), pV_nil, e_156⟩ pU_nil
def pQ_157 (u : sCu) : Prop := ∃ (SM : List sIn) (H : gHt) (cu : List sCu) (n : Nat), (∀ I ∈ SM, sInOk pPT I) ∧ (∀ v ∈ cu, v ∈ us_157) ∧ sWhU pPT SM H i_157 (mR pm_79) cu n u = true
theorem q_157_0 : pQ_157 u_157_0 := ⟨_, _, _, _, (pS_nil), (pV_nil), f_157_0⟩
theorem qb_157_0 : ∀ u ∈ [u_157_0], pQ_157 u := pU_cons q_157_0 (pU_nil)
theorem ok_157 : sInOk pPT i_157 := sInst3 (M := pm_79) (cus := us_157) pOk pg_79 (by decide +kernel) ⟨_, _, _, _, (pS_nil), (pV_cons (List.mem_of_getElem? (i := 0) rfl) (pV_nil)), e_157⟩ (show ∀ u ∈ us_157, pQ_157 u from qb_157_0)
def pQ_158 (u : sCu) : Prop := ∃ (SM : List sIn) (H : gHt) (cu : List sCu) (n : Nat), (∀ I ∈ SM, sInOk pPT I) ∧ (∀ v ∈ cu, v ∈ us_158) ∧ sWhU pPT SM H i_158 (mR pm_67) cu n u = true
theorem q_158_0 : pQ_158 u_158_0 := ⟨_, _, _, _, (pS_nil), (pV_nil), f_158_0⟩
theorem qb_158_0 : ∀ u ∈ [u_158_0], pQ_158 u := pU_cons q_158_0 (pU_nil)
theorem ok_158 : sInOk pPT i_158 := sInst3 (M := pm_67) (cus := us_158) pOk pg_67 (by decide +kernel) ⟨_, _, _, _, (pS_nil), (pV_cons (List.mem_of_getElem? (i := 0) rfl) (pV_nil)), e_158⟩ (show ∀ u ∈ us_158, pQ_158 u from qb_158_0)
def pQ_159 (u : sCu) : Prop := ∃ (SM : List sIn) (H : gHt) (cu : List sCu) (n : Nat), (∀ I ∈ SM, sInOk pPT I) ∧ (∀ v ∈ cu, v ∈ us_159) ∧ sWhU pPT SM H i_159 (mR pm_79) cu n u = true
theorem q_159_0 : pQ_159 u_159_0 := ⟨_, _, _, _, (pS_cons ok_114 (pS_nil)), (pV_nil), f_159_0⟩
theorem q_159_1 : pQ_159 u_159_1 := ⟨_, _, _, _, (pS_nil), (pV_nil), f_159_1⟩
theorem qb_159_0 : ∀ u ∈ [u_159_0, u_159_1], pQ_159 u := pU_cons q_159_0 (pU_cons q_159_1 (pU_nil))
theorem ok_159 : sInOk pPT i_159 := sInst3 (M := pm_79) (cus := us_159) pOk pg_79 (by decide +kernel) ⟨_, _, _, _, (pS_cons ok_158 (pS_nil)), (pV_cons (List.mem_of_getElem? (i := 0) rfl) (pV_cons (List.mem_of_getElem? (i := 1) rfl) (pV_nil))), e_159⟩ (show ∀ u ∈ us_159, pQ_159 u from qb_159_0)
def pQ_160 (u : sCu) : Prop := ∃ (SM : List sIn) (H : gHt) (cu : List sCu) (n : Nat), (∀ I ∈ SM, sInOk pPT I) ∧ (∀ v ∈ cu, v ∈ us_160) ∧ sWhU pPT SM H i_160 (mR pm_67) cu n u = true
theorem q_160_0 : pQ_160 u_160_0 := ⟨_, _, _, _, (pS_nil), (pV_nil), f_160_0⟩
theorem qb_160_0 : ∀ u ∈ [u_160_0], pQ_160 u := pU_cons q_160_0 (pU_nil)
theorem ok_160 : sInOk pPT i_160 := sInst3 (M := pm_67) (cus := us_160) pOk pg_67 (by decide +kernel) ⟨_, _, _, _, (pS_nil), (pV_cons (List.mem_of_getElem? (i := 0) rfl) (pV_nil)), e_160⟩ (show ∀ u ∈ us_160, pQ_160 u from qb_160_0)
theorem ok_161 : sInOk pPT i_161 := sInst3 (M := pm_58) (cus := []) pOk pg_58 (by decide +kernel) ⟨_, _, _, _, (pS_nil), pV_nil, e_161⟩ pU_nil
def pQ_162 (u : sCu) : Prop := ∃ (SM : List sIn) (H : gHt) (cu : List sCu) (n : Nat), (∀ I ∈ SM, sInOk pPT I) ∧ (∀ v ∈ cu, v ∈ us_162) ∧ sWhU pPT SM H i_162 (mR pm_79) cu n u = true
theorem q_162_0 : pQ_162 u_162_0 := ⟨_, _, _, _, (pS_cons ok_114 (pS_nil)), (pV_nil), f_162_0⟩
theorem q_162_1 : pQ_162 u_162_1 := ⟨_, _, _, _, (pS_nil), (pV_nil), f_162_1⟩
theorem qb_162_0 : ∀ u ∈ [u_162_0, u_162_1], pQ_162 u := pU_cons q_162_0 (pU_cons q_162_1 (pU_nil))
theorem ok_162 : sInOk pPT i_162 := sInst3 (M := pm_79) (cus := us_162) pOk pg_79 (by decide +kernel) ⟨_, _, _, _, (pS_cons ok_160 (pS_nil)), (pV_cons (List.mem_of_getElem? (i := 0) rfl) (pV_cons (List.mem_of_getElem? (i := 1) rfl) (pV_nil))), e_162⟩ (show ∀ u ∈ us_162, pQ_162 u from qb_162_0)
theorem ok_163 : sInOk pPT i_163 := sInst3 (M := pm_92) (cus := []) pOk pg_92 (by decide +kernel) ⟨_, _, _, _, (pS_nil), pV_nil, e_163⟩ pU_nil
def pQ_164 (u : sCu) : Prop := ∃ (SM : List sIn) (H : gHt) (cu : List sCu) (n : Nat), (∀ I ∈ SM, sInOk pPT I) ∧ (∀ v ∈ cu, v ∈ us_164) ∧ sWhU pPT SM H i_164 (mR pm_79) cu n u = true
theorem q_164_0 : pQ_164 u_164_0 := ⟨_, _, _, _, (pS_nil), (pV_nil), f_164_0⟩
theorem qb_164_0 : ∀ u ∈ [u_164_0], pQ_164 u := pU_cons q_164_0 (pU_nil)
theorem ok_164 : sInOk pPT i_164 := sInst3 (M := pm_79) (cus := us_164) pOk pg_79 (by decide +kernel) ⟨_, _, _, _, (pS_nil), (pV_cons (List.mem_of_getElem? (i := 0) rfl) (pV_nil)), e_164⟩ (show ∀ u ∈ us_164, pQ_164 u from qb_164_0)
theorem ok_165 : sInOk pPT i_165 := sInst3 (M := pm_58) (cus := []) pOk pg_58 (by decide +kernel) ⟨_, _, _, _, (pS_nil), pV_nil, e_165⟩ pU_nil
theorem ok_166 : sInOk pPT i_166 := sInst3 (M := pm_58) (cus := []) pOk pg_58 (by decide +kernel) ⟨_, _, _, _, (pS_nil), pV_nil, e_166⟩ pU_nil
theorem ok_167 : sInOk pPT i_167 := sInst3 (M := pm_58) (cus := []) pOk pg_58 (by decide +kernel) ⟨_, _, _, _, (pS_nil), pV_nil, e_167⟩ pU_nil
theorem ok_168 : sInOk pPT i_168 := sInst3 (M := pm_58) (cus := []) pOk pg_58 (by decide +kernel) ⟨_, _, _, _, (pS_nil), pV_nil, e_168⟩ pU_nil
theorem ok_169 : sInOk pPT i_169 := sInst3 (M := pm_58) (cus := []) pOk pg_58 (by decide +kernel) ⟨_, _, _, _, (pS_nil), pV_nil, e_169⟩ pU_nil
theorem ok_170 : sInOk pPT i_170 := sInst3 (M := pm_58) (cus := []) pOk pg_58 (by decide +kernel) ⟨_, _, _, _, (pS_nil), pV_nil, e_170⟩ pU_nil
theorem ok_171 : sInOk pPT i_171 := sInst3 (M := pm_58) (cus := []) pOk pg_58 (by decide +kernel) ⟨_, _, _, _, (pS_nil), pV_nil, e_171⟩ pU_nil
theorem ok_172 : sInOk pPT i_172 := sInst3 (M := pm_58) (cus := []) pOk pg_58 (by decide +kernel) ⟨_, _, _, _, (pS_nil), pV_nil, e_172⟩ pU_nil
theorem ok_173 : sInOk pPT i_173 := sInst3 (M := pm_124) (cus := []) pOk pg_124 (by decide +kernel) ⟨_, _, _, _, (pS_cons ok_165 (pS_cons ok_166 (pS_cons ok_167 (pS_cons ok_168 (pS_cons ok_169 (pS_cons ok_170 (pS_cons ok_171 (pS_cons ok_172 (pS_nil))))))))), pV_nil, e_173⟩ pU_nil
theorem ok_174 : sInOk pPT i_174 := sInst3 (M := pm_92) (cus := []) pOk pg_92 (by decide +kernel) ⟨_, _, _, _, (pS_nil), pV_nil, e_174⟩ pU_nil
theorem ok_175 : sInOk pPT i_175 := sInst3 (M := pm_92) (cus := []) pOk pg_92 (by decide +kernel) ⟨_, _, _, _, (pS_nil), pV_nil, e_175⟩ pU_nil
theorem ok_176 : sInOk pPT i_176 := sInst3 (M := pm_92) (cus := []) pOk pg_92 (by decide +kernel) ⟨_, _, _, _, (pS_nil), pV_nil, e_176⟩ pU_nil
theorem ok_177 : sInOk pPT i_177 := sInst3 (M := pm_92) (cus := []) pOk pg_92 (by decide +kernel) ⟨_, _, _, _, (pS_nil), pV_nil, e_177⟩ pU_nil
theorem ok_178 : sInOk pPT i_178 := sInst3 (M := pm_92) (cus := []) pOk pg_92 (by decide +kernel) ⟨_, _, _, _, (pS_nil), pV_nil, e_178⟩ pU_nil
theorem ok_179 : sInOk pPT i_179 := sInst3 (M := pm_58) (cus := []) pOk pg_58 (by decide +kernel) ⟨_, _, _, _, (pS_nil), pV_nil, e_179⟩ pU_nil
theorem ok_180 : sInOk pPT i_180 := sInst3 (M := pm_96) (cus := []) pOk pg_96 (by decide +kernel) ⟨_, _, _, _, (pS_nil), pV_nil, e_180⟩ pU_nil
def pQ_181 (u : sCu) : Prop := ∃ (SM : List sIn) (H : gHt) (cu : List sCu) (n : Nat), (∀ I ∈ SM, sInOk pPT I) ∧ (∀ v ∈ cu, v ∈ us_181) ∧ sWhU pPT SM H i_181 (mR pm_67) cu n u = true
theorem q_181_0 : pQ_181 u_181_0 := ⟨_, _, _, _, (pS_nil), (pV_nil), f_181_0⟩
theorem qb_181_0 : ∀ u ∈ [u_181_0], pQ_181 u := pU_cons q_181_0 (pU_nil)
theorem ok_181 : sInOk pPT i_181 := sInst3 (M := pm_67) (cus := us_181) pOk pg_67 (by decide +kernel) ⟨_, _, _, _, (pS_nil), (pV_cons (List.mem_of_getElem? (i := 0) rfl) (pV_nil)), e_181⟩ (show ∀ u ∈ us_181, pQ_181 u from qb_181_0)
def pQ_182 (u : sCu) : Prop := ∃ (SM : List sIn) (H : gHt) (cu : List sCu) (n : Nat), (∀ I ∈ SM, sInOk pPT I) ∧ (∀ v ∈ cu, v ∈ us_182) ∧ sWhU pPT SM H i_182 (mR pm_67) cu n u = true
theorem q_182_0 : pQ_182 u_182_0 := ⟨_, _, _, _, (pS_nil), (pV_nil), f_182_0⟩
theorem qb_182_0 : ∀ u ∈ [u_182_0], pQ_182 u := pU_cons q_182_0 (pU_nil)
theorem ok_182 : sInOk pPT i_182 := sInst3 (M := pm_67) (cus := us_182) pOk pg_67 (by decide +kernel) ⟨_, _, _, _, (pS_nil), (pV_cons (List.mem_of_getElem? (i := 0) rfl) (pV_nil)), e_182⟩ (show ∀ u ∈ us_182, pQ_182 u from qb_182_0)
def pQ_183 (u : sCu) : Prop := ∃ (SM : List sIn) (H : gHt) (cu : List sCu) (n : Nat), (∀ I ∈ SM, sInOk pPT I) ∧ (∀ v ∈ cu, v ∈ us_183) ∧ sWhU pPT SM H i_183 (mR pm_97) cu n u = true
theorem q_183_0 : pQ_183 u_183_0 := ⟨_, _, _, _, (pS_cons ok_181 (pS_cons ok_182 (pS_nil))), (pV_nil), f_183_0⟩
theorem qb_183_0 : ∀ u ∈ [u_183_0], pQ_183 u := pU_cons q_183_0 (pU_nil)
theorem ok_183 : sInOk pPT i_183 := sInst3 (M := pm_97) (cus := us_183) pOk pg_97 (by decide +kernel) ⟨_, _, _, _, (pS_cons ok_180 (pS_nil)), (pV_cons (List.mem_of_getElem? (i := 0) rfl) (pV_nil)), e_183⟩ (show ∀ u ∈ us_183, pQ_183 u from qb_183_0)
def pQ_184 (u : sCu) : Prop := ∃ (SM : List sIn) (H : gHt) (cu : List sCu) (n : Nat), (∀ I ∈ SM, sInOk pPT I) ∧ (∀ v ∈ cu, v ∈ us_184) ∧ sWhU pPT SM H i_184 (mR pm_67) cu n u = true
theorem q_184_0 : pQ_184 u_184_0 := ⟨_, _, _, _, (pS_nil), (pV_nil), f_184_0⟩
theorem qb_184_0 : ∀ u ∈ [u_184_0], pQ_184 u := pU_cons q_184_0 (pU_nil)
theorem ok_184 : sInOk pPT i_184 := sInst3 (M := pm_67) (cus := us_184) pOk pg_67 (by decide +kernel) ⟨_, _, _, _, (pS_nil), (pV_cons (List.mem_of_getElem? (i := 0) rfl) (pV_nil)), e_184⟩ (show ∀ u ∈ us_184, pQ_184 u from qb_184_0)
def pQ_185 (u : sCu) : Prop := ∃ (SM : List sIn) (H : gHt) (cu : List sCu) (n : Nat), (∀ I ∈ SM, sInOk pPT I) ∧ (∀ v ∈ cu, v ∈ us_185) ∧ sWhU pPT SM H i_185 (mR pm_67) cu n u = true
theorem q_185_0 : pQ_185 u_185_0 := ⟨_, _, _, _, (pS_nil), (pV_nil), f_185_0⟩
theorem qb_185_0 : ∀ u ∈ [u_185_0], pQ_185 u := pU_cons q_185_0 (pU_nil)
theorem ok_185 : sInOk pPT i_185 := sInst3 (M := pm_67) (cus := us_185) pOk pg_67 (by decide +kernel) ⟨_, _, _, _, (pS_nil), (pV_cons (List.mem_of_getElem? (i := 0) rfl) (pV_nil)), e_185⟩ (show ∀ u ∈ us_185, pQ_185 u from qb_185_0)
def pQ_186 (u : sCu) : Prop := ∃ (SM : List sIn) (H : gHt) (cu : List sCu) (n : Nat), (∀ I ∈ SM, sInOk pPT I) ∧ (∀ v ∈ cu, v ∈ us_186) ∧ sWhU pPT SM H i_186 (mR pm_98) cu n u = true
theorem q_186_0 : pQ_186 u_186_0 := ⟨_, _, _, _, (pS_cons ok_184 (pS_cons ok_185 (pS_nil))), (pV_nil), f_186_0⟩
theorem qb_186_0 : ∀ u ∈ [u_186_0], pQ_186 u := pU_cons q_186_0 (pU_nil)
theorem ok_186 : sInOk pPT i_186 := sInst3 (M := pm_98) (cus := us_186) pOk pg_98 (by decide +kernel) ⟨_, _, _, _, (pS_cons ok_183 (pS_nil)), (pV_cons (List.mem_of_getElem? (i := 0) rfl) (pV_nil)), e_186⟩ (show ∀ u ∈ us_186, pQ_186 u from qb_186_0)
def pQ_187 (u : sCu) : Prop := ∃ (SM : List sIn) (H : gHt) (cu : List sCu) (n : Nat), (∀ I ∈ SM, sInOk pPT I) ∧ (∀ v ∈ cu, v ∈ us_187) ∧ sWhU pPT SM H i_187 (mR pm_67) cu n u = true
theorem q_187_0 : pQ_187 u_187_0 := ⟨_, _, _, _, (pS_nil), (pV_nil), f_187_0⟩
theorem qb_187_0 : ∀ u ∈ [u_187_0], pQ_187 u := pU_cons q_187_0 (pU_nil)
theorem ok_187 : sInOk pPT i_187 := sInst3 (M := pm_67) (cus := us_187) pOk pg_67 (by decide +kernel) ⟨_, _, _, _, (pS_nil), (pV_cons (List.mem_of_getElem? (i := 0) rfl) (pV_nil)), e_187⟩ (show ∀ u ∈ us_187, pQ_187 u from qb_187_0)
def pQ_188 (u : sCu) : Prop := ∃ (SM : List sIn) (H : gHt) (cu : List sCu) (n : Nat), (∀ I ∈ SM, sInOk pPT I) ∧ (∀ v ∈ cu, v ∈ us_188) ∧ sWhU pPT SM H i_188 (mR pm_67) cu n u = true
theorem q_188_0 : pQ_188 u_188_0 := ⟨_, _, _, _, (pS_nil), (pV_nil), f_188_0⟩
theorem qb_188_0 : ∀ u ∈ [u_188_0], pQ_188 u := pU_cons q_188_0 (pU_nil)
theorem ok_188 : sInOk pPT i_188 := sInst3 (M := pm_67) (cus := us_188) pOk pg_67 (by decide +kernel) ⟨_, _, _, _, (pS_nil), (pV_cons (List.mem_of_getElem? (i := 0) rfl) (pV_nil)), e_188⟩ (show ∀ u ∈ us_188, pQ_188 u from qb_188_0)
def pQ_189 (u : sCu) : Prop := ∃ (SM : List sIn) (H : gHt) (cu : List sCu) (n : Nat), (∀ I ∈ SM, sInOk pPT I) ∧ (∀ v ∈ cu, v ∈ us_189) ∧ sWhU pPT SM H i_189 (mR pm_94) cu n u = true
theorem q_189_0 : pQ_189 u_189_0 := ⟨_, _, _, _, (pS_cons ok_179 (pS_cons ok_186 (pS_cons ok_187 (pS_cons ok_188 (pS_nil))))), (pV_cons (List.mem_of_getElem? (i := 1) rfl) (pV_nil)), f_189_0⟩
theorem q_189_1 : pQ_189 u_189_1 := ⟨_, _, _, _, (pS_nil), (pV_cons (List.mem_of_getElem? (i := 2) rfl) (pV_nil)), f_189_1⟩
theorem q_189_2 : pQ_189 u_189_2 := ⟨_, _, _, _, (pS_nil), (pV_nil), f_189_2⟩
theorem qb_189_0 : ∀ u ∈ [u_189_0, u_189_1, u_189_2], pQ_189 u := pU_cons q_189_0 (pU_cons q_189_1 (pU_cons q_189_2 (pU_nil)))
theorem ok_189 : sInOk pPT i_189 := sInst3 (M := pm_94) (cus := us_189) pOk pg_94 (by decide +kernel) ⟨_, _, _, _, (pS_nil), (pV_cons (List.mem_of_getElem? (i := 0) rfl) (pV_nil)), e_189⟩ (show ∀ u ∈ us_189, pQ_189 u from qb_189_0)
theorem ok_190 : sInOk pPT i_190 := sInst3 (M := pm_58) (cus := []) pOk pg_58 (by decide +kernel) ⟨_, _, _, _, (pS_nil), pV_nil, e_190⟩ pU_nil
def pQ_191 (u : sCu) : Prop := ∃ (SM : List sIn) (H : gHt) (cu : List sCu) (n : Nat), (∀ I ∈ SM, sInOk pPT I) ∧ (∀ v ∈ cu, v ∈ us_191) ∧ sWhU pPT SM H i_191 (mR pm_91) cu n u = true
theorem q_191_0 : pQ_191 u_191_0 := ⟨_, _, _, _, (pS_cons ok_190 (pS_nil)), (pV_nil), f_191_0⟩
theorem qb_191_0 : ∀ u ∈ [u_191_0], pQ_191 u := pU_cons q_191_0 (pU_nil)
theorem ok_191 : sInOk pPT i_191 := sInst3 (M := pm_91) (cus := us_191) pOk pg_91 (by decide +kernel) ⟨_, _, _, _, (pS_cons ok_189 (pS_nil)), (pV_cons (List.mem_of_getElem? (i := 0) rfl) (pV_nil)), e_191⟩ (show ∀ u ∈ us_191, pQ_191 u from qb_191_0)
theorem ok_192 : sInOk pPT i_192 := sInst3 (M := pm_58) (cus := []) pOk pg_58 (by decide +kernel) ⟨_, _, _, _, (pS_nil), pV_nil, e_192⟩ pU_nil
def pQ_193 (u : sCu) : Prop := ∃ (SM : List sIn) (H : gHt) (cu : List sCu) (n : Nat), (∀ I ∈ SM, sInOk pPT I) ∧ (∀ v ∈ cu, v ∈ us_193) ∧ sWhU pPT SM H i_193 (mR pm_92) cu n u = true
theorem q_193_0 : pQ_193 u_193_0 := ⟨_, _, _, _, (pS_cons ok_191 (pS_nil)), (pV_cons (List.mem_of_getElem? (i := 1) rfl) (pV_nil)), f_193_0⟩
theorem q_193_1 : pQ_193 u_193_1 := ⟨_, _, _, _, (pS_cons ok_192 (pS_nil)), (pV_nil), f_193_1⟩
theorem qb_193_0 : ∀ u ∈ [u_193_0, u_193_1], pQ_193 u := pU_cons q_193_0 (pU_cons q_193_1 (pU_nil))
theorem ok_193 : sInOk pPT i_193 := sInst3 (M := pm_92) (cus := us_193) pOk pg_92 (by decide +kernel) ⟨_, _, _, _, (pS_cons ok_160 (pS_nil)), (pV_cons (List.mem_of_getElem? (i := 0) rfl) (pV_nil)), e_193⟩ (show ∀ u ∈ us_193, pQ_193 u from qb_193_0)
def pQ_194 (u : sCu) : Prop := ∃ (SM : List sIn) (H : gHt) (cu : List sCu) (n : Nat), (∀ I ∈ SM, sInOk pPT I) ∧ (∀ v ∈ cu, v ∈ us_194) ∧ sWhU pPT SM H i_194 (mR pm_95) cu n u = true
theorem q_194_0 : pQ_194 u_194_0 := ⟨_, _, _, _, (pS_nil), (pV_nil), f_194_0⟩
theorem q_194_1 : pQ_194 u_194_1 := ⟨_, _, _, _, (pS_nil), (pV_nil), f_194_1⟩
theorem qb_194_0 : ∀ u ∈ [u_194_0, u_194_1], pQ_194 u := pU_cons q_194_0 (pU_cons q_194_1 (pU_nil))
theorem ok_194 : sInOk pPT i_194 := sInst3 (M := pm_95) (cus := us_194) pOk pg_95 (by decide +kernel) ⟨_, _, _, _, (pS_cons ok_114 (pS_cons ok_126 (pS_nil))), (pV_cons (List.mem_of_getElem? (i := 0) rfl) (pV_cons (List.mem_of_getElem? (i := 1) rfl) (pV_nil))), e_194⟩ (show ∀ u ∈ us_194, pQ_194 u from qb_194_0)
theorem ok_195 : sInOk pPT i_195 := sInst3 (M := pm_96) (cus := []) pOk pg_96 (by decide +kernel) ⟨_, _, _, _, (pS_cons ok_114 (pS_cons ok_162 (pS_cons ok_164 (pS_cons ok_173 (pS_cons ok_178 (pS_cons ok_193 (pS_cons ok_194 (pS_nil)))))))), pV_nil, e_195⟩ pU_nil
def pQ_196 (u : sCu) : Prop := ∃ (SM : List sIn) (H : gHt) (cu : List sCu) (n : Nat), (∀ I ∈ SM, sInOk pPT I) ∧ (∀ v ∈ cu, v ∈ us_196) ∧ sWhU pPT SM H i_196 (mR pm_67) cu n u = true
theorem q_196_0 : pQ_196 u_196_0 := ⟨_, _, _, _, (pS_nil), (pV_nil), f_196_0⟩
theorem qb_196_0 : ∀ u ∈ [u_196_0], pQ_196 u := pU_cons q_196_0 (pU_nil)
theorem ok_196 : sInOk pPT i_196 := sInst3 (M := pm_67) (cus := us_196) pOk pg_67 (by decide +kernel) ⟨_, _, _, _, (pS_nil), (pV_cons (List.mem_of_getElem? (i := 0) rfl) (pV_nil)), e_196⟩ (show ∀ u ∈ us_196, pQ_196 u from qb_196_0)
def pQ_197 (u : sCu) : Prop := ∃ (SM : List sIn) (H : gHt) (cu : List sCu) (n : Nat), (∀ I ∈ SM, sInOk pPT I) ∧ (∀ v ∈ cu, v ∈ us_197) ∧ sWhU pPT SM H i_197 (mR pm_67) cu n u = true
theorem q_197_0 : pQ_197 u_197_0 := ⟨_, _, _, _, (pS_nil), (pV_nil), f_197_0⟩
theorem qb_197_0 : ∀ u ∈ [u_197_0], pQ_197 u := pU_cons q_197_0 (pU_nil)
theorem ok_197 : sInOk pPT i_197 := sInst3 (M := pm_67) (cus := us_197) pOk pg_67 (by decide +kernel) ⟨_, _, _, _, (pS_nil), (pV_cons (List.mem_of_getElem? (i := 0) rfl) (pV_nil)), e_197⟩ (show ∀ u ∈ us_197, pQ_197 u from qb_197_0)
def pQ_198 (u : sCu) : Prop := ∃ (SM : List sIn) (H : gHt) (cu : List sCu) (n : Nat), (∀ I ∈ SM, sInOk pPT I) ∧ (∀ v ∈ cu, v ∈ us_198) ∧ sWhU pPT SM H i_198 (mR pm_97) cu n u = true
theorem q_198_0 : pQ_198 u_198_0 := ⟨_, _, _, _, (pS_cons ok_181 (pS_cons ok_182 (pS_nil))), (pV_nil), f_198_0⟩
theorem q_198_1 : pQ_198 u_198_1 := ⟨_, _, _, _, (pS_cons ok_196 (pS_cons ok_197 (pS_nil))), (pV_cons (List.mem_of_getElem? (i := 2) rfl) (pV_cons (List.mem_of_getElem? (i := 3) rfl) (pV_nil))), f_198_1⟩
theorem q_198_2 : pQ_198 u_198_2 := ⟨_, _, _, _, (pS_cons ok_196 (pS_nil)), (pV_cons (List.mem_of_getElem? (i := 4) rfl) (pV_cons (List.mem_of_getElem? (i := 5) rfl) (pV_nil))), f_198_2⟩
theorem q_198_3 : pQ_198 u_198_3 := ⟨_, _, _, _, (pS_cons ok_196 (pS_nil)), (pV_cons (List.mem_of_getElem? (i := 6) rfl) (pV_cons (List.mem_of_getElem? (i := 7) rfl) (pV_nil))), f_198_3⟩
theorem q_198_4 : pQ_198 u_198_4 := ⟨_, _, _, _, (pS_cons ok_114 (pS_cons ok_195 (pS_nil))), (pV_cons (List.mem_of_getElem? (i := 0) rfl) (pV_cons (List.mem_of_getElem? (i := 1) rfl) (pV_nil))), f_198_4⟩
theorem q_198_5 : pQ_198 u_198_5 := ⟨_, _, _, _, (pS_cons ok_114 (pS_cons ok_195 (pS_nil))), (pV_cons (List.mem_of_getElem? (i := 0) rfl) (pV_cons (List.mem_of_getElem? (i := 1) rfl) (pV_nil))), f_198_5⟩
theorem q_198_6 : pQ_198 u_198_6 := ⟨_, _, _, _, (pS_cons ok_114 (pS_cons ok_195 (pS_nil))), (pV_cons (List.mem_of_getElem? (i := 0) rfl) (pV_cons (List.mem_of_getElem? (i := 1) rfl) (pV_nil))), f_198_6⟩
theorem q_198_7 : pQ_198 u_198_7 := ⟨_, _, _, _, (pS_cons ok_114 (pS_cons ok_195 (pS_nil))), (pV_cons (List.mem_of_getElem? (i := 0) rfl) (pV_cons (List.mem_of_getElem? (i := 1) rfl) (pV_nil))), f_198_7⟩
theorem qb_198_0 : ∀ u ∈ [u_198_0, u_198_1, u_198_2, u_198_3, u_198_4, u_198_5, u_198_6, u_198_7], pQ_198 u := pU_cons q_198_0 (pU_cons q_198_1 (pU_cons q_198_2 (pU_cons q_198_3 (pU_cons q_198_4 (pU_cons q_198_5 (pU_cons q_198_6 (pU_cons q_198_7 (pU_nil))))))))
theorem ok_198 : sInOk pPT i_198 := sInst3 (M := pm_97) (cus := us_198) pOk pg_97 (by decide +kernel) ⟨_, _, _, _, (pS_cons ok_195 (pS_nil)), (pV_cons (List.mem_of_getElem? (i := 0) rfl) (pV_cons (List.mem_of_getElem? (i := 1) rfl) (pV_nil))), e_198⟩ (show ∀ u ∈ us_198, pQ_198 u from qb_198_0)
def pQ_199 (u : sCu) : Prop := ∃ (SM : List sIn) (H : gHt) (cu : List sCu) (n : Nat), (∀ I ∈ SM, sInOk pPT I) ∧ (∀ v ∈ cu, v ∈ us_199) ∧ sWhU pPT SM H i_199 (mR pm_67) cu n u = true
theorem q_199_0 : pQ_199 u_199_0 := ⟨_, _, _, _, (pS_nil), (pV_nil), f_199_0⟩
theorem qb_199_0 : ∀ u ∈ [u_199_0], pQ_199 u := pU_cons q_199_0 (pU_nil)
theorem ok_199 : sInOk pPT i_199 := sInst3 (M := pm_67) (cus := us_199) pOk pg_67 (by decide +kernel) ⟨_, _, _, _, (pS_nil), (pV_cons (List.mem_of_getElem? (i := 0) rfl) (pV_nil)), e_199⟩ (show ∀ u ∈ us_199, pQ_199 u from qb_199_0)
def pQ_200 (u : sCu) : Prop := ∃ (SM : List sIn) (H : gHt) (cu : List sCu) (n : Nat), (∀ I ∈ SM, sInOk pPT I) ∧ (∀ v ∈ cu, v ∈ us_200) ∧ sWhU pPT SM H i_200 (mR pm_67) cu n u = true
theorem q_200_0 : pQ_200 u_200_0 := ⟨_, _, _, _, (pS_nil), (pV_nil), f_200_0⟩
theorem qb_200_0 : ∀ u ∈ [u_200_0], pQ_200 u := pU_cons q_200_0 (pU_nil)
theorem ok_200 : sInOk pPT i_200 := sInst3 (M := pm_67) (cus := us_200) pOk pg_67 (by decide +kernel) ⟨_, _, _, _, (pS_nil), (pV_cons (List.mem_of_getElem? (i := 0) rfl) (pV_nil)), e_200⟩ (show ∀ u ∈ us_200, pQ_200 u from qb_200_0)
def pQ_201 (u : sCu) : Prop := ∃ (SM : List sIn) (H : gHt) (cu : List sCu) (n : Nat), (∀ I ∈ SM, sInOk pPT I) ∧ (∀ v ∈ cu, v ∈ us_201) ∧ sWhU pPT SM H i_201 (mR pm_98) cu n u = true
theorem q_201_0 : pQ_201 u_201_0 := ⟨_, _, _, _, (pS_cons ok_184 (pS_cons ok_185 (pS_nil))), (pV_nil), f_201_0⟩
theorem q_201_1 : pQ_201 u_201_1 := ⟨_, _, _, _, (pS_cons ok_199 (pS_cons ok_200 (pS_nil))), (pV_cons (List.mem_of_getElem? (i := 2) rfl) (pV_cons (List.mem_of_getElem? (i := 3) rfl) (pV_nil))), f_201_1⟩
theorem q_201_2 : pQ_201 u_201_2 := ⟨_, _, _, _, (pS_cons ok_199 (pS_nil)), (pV_cons (List.mem_of_getElem? (i := 4) rfl) (pV_cons (List.mem_of_getElem? (i := 5) rfl) (pV_nil))), f_201_2⟩
theorem q_201_3 : pQ_201 u_201_3 := ⟨_, _, _, _, (pS_cons ok_199 (pS_nil)), (pV_cons (List.mem_of_getElem? (i := 6) rfl) (pV_cons (List.mem_of_getElem? (i := 7) rfl) (pV_nil))), f_201_3⟩
theorem q_201_4 : pQ_201 u_201_4 := ⟨_, _, _, _, (pS_cons ok_114 (pS_cons ok_198 (pS_nil))), (pV_cons (List.mem_of_getElem? (i := 0) rfl) (pV_cons (List.mem_of_getElem? (i := 1) rfl) (pV_nil))), f_201_4⟩
theorem q_201_5 : pQ_201 u_201_5 := ⟨_, _, _, _, (pS_cons ok_114 (pS_cons ok_198 (pS_nil))), (pV_cons (List.mem_of_getElem? (i := 0) rfl) (pV_cons (List.mem_of_getElem? (i := 1) rfl) (pV_nil))), f_201_5⟩
theorem q_201_6 : pQ_201 u_201_6 := ⟨_, _, _, _, (pS_cons ok_114 (pS_cons ok_198 (pS_nil))), (pV_cons (List.mem_of_getElem? (i := 0) rfl) (pV_cons (List.mem_of_getElem? (i := 1) rfl) (pV_nil))), f_201_6⟩
theorem q_201_7 : pQ_201 u_201_7 := ⟨_, _, _, _, (pS_cons ok_114 (pS_cons ok_198 (pS_nil))), (pV_cons (List.mem_of_getElem? (i := 0) rfl) (pV_cons (List.mem_of_getElem? (i := 1) rfl) (pV_nil))), f_201_7⟩
theorem qb_201_0 : ∀ u ∈ [u_201_0, u_201_1, u_201_2, u_201_3, u_201_4, u_201_5, u_201_6, u_201_7], pQ_201 u := pU_cons q_201_0 (pU_cons q_201_1 (pU_cons q_201_2 (pU_cons q_201_3 (pU_cons q_201_4 (pU_cons q_201_5 (pU_cons q_201_6 (pU_cons q_201_7 (pU_nil))))))))
theorem ok_201 : sInOk pPT i_201 := sInst3 (M := pm_98) (cus := us_201) pOk pg_98 (by decide +kernel) ⟨_, _, _, _, (pS_cons ok_198 (pS_nil)), (pV_cons (List.mem_of_getElem? (i := 0) rfl) (pV_cons (List.mem_of_getElem? (i := 1) rfl) (pV_nil))), e_201⟩ (show ∀ u ∈ us_201, pQ_201 u from qb_201_0)
def pQ_202 (u : sCu) : Prop := ∃ (SM : List sIn) (H : gHt) (cu : List sCu) (n : Nat), (∀ I ∈ SM, sInOk pPT I) ∧ (∀ v ∈ cu, v ∈ us_202) ∧ sWhU pPT SM H i_202 (mR pm_67) cu n u = true
theorem q_202_0 : pQ_202 u_202_0 := ⟨_, _, _, _, (pS_nil), (pV_nil), f_202_0⟩
theorem qb_202_0 : ∀ u ∈ [u_202_0], pQ_202 u := pU_cons q_202_0 (pU_nil)
theorem ok_202 : sInOk pPT i_202 := sInst3 (M := pm_67) (cus := us_202) pOk pg_67 (by decide +kernel) ⟨_, _, _, _, (pS_nil), (pV_cons (List.mem_of_getElem? (i := 0) rfl) (pV_nil)), e_202⟩ (show ∀ u ∈ us_202, pQ_202 u from qb_202_0)
def pQ_203 (u : sCu) : Prop := ∃ (SM : List sIn) (H : gHt) (cu : List sCu) (n : Nat), (∀ I ∈ SM, sInOk pPT I) ∧ (∀ v ∈ cu, v ∈ us_203) ∧ sWhU pPT SM H i_203 (mR pm_67) cu n u = true
theorem q_203_0 : pQ_203 u_203_0 := ⟨_, _, _, _, (pS_nil), (pV_nil), f_203_0⟩
theorem qb_203_0 : ∀ u ∈ [u_203_0], pQ_203 u := pU_cons q_203_0 (pU_nil)
theorem ok_203 : sInOk pPT i_203 := sInst3 (M := pm_67) (cus := us_203) pOk pg_67 (by decide +kernel) ⟨_, _, _, _, (pS_nil), (pV_cons (List.mem_of_getElem? (i := 0) rfl) (pV_nil)), e_203⟩ (show ∀ u ∈ us_203, pQ_203 u from qb_203_0)
theorem ok_204 : sInOk pPT i_204 := sInst3 (M := pm_96) (cus := []) pOk pg_96 (by decide +kernel) ⟨_, _, _, _, (pS_nil), pV_nil, e_204⟩ pU_nil
def pQ_205 (u : sCu) : Prop := ∃ (SM : List sIn) (H : gHt) (cu : List sCu) (n : Nat), (∀ I ∈ SM, sInOk pPT I) ∧ (∀ v ∈ cu, v ∈ us_205) ∧ sWhU pPT SM H i_205 (mR pm_97) cu n u = true
theorem q_205_0 : pQ_205 u_205_0 := ⟨_, _, _, _, (pS_cons ok_181 (pS_cons ok_182 (pS_nil))), (pV_nil), f_205_0⟩
theorem qb_205_0 : ∀ u ∈ [u_205_0], pQ_205 u := pU_cons q_205_0 (pU_nil)
theorem ok_205 : sInOk pPT i_205 := sInst3 (M := pm_97) (cus := us_205) pOk pg_97 (by decide +kernel) ⟨_, _, _, _, (pS_cons ok_204 (pS_nil)), (pV_cons (List.mem_of_getElem? (i := 0) rfl) (pV_nil)), e_205⟩ (show ∀ u ∈ us_205, pQ_205 u from qb_205_0)
def pQ_206 (u : sCu) : Prop := ∃ (SM : List sIn) (H : gHt) (cu : List sCu) (n : Nat), (∀ I ∈ SM, sInOk pPT I) ∧ (∀ v ∈ cu, v ∈ us_206) ∧ sWhU pPT SM H i_206 (mR pm_98) cu n u = true
theorem q_206_0 : pQ_206 u_206_0 := ⟨_, _, _, _, (pS_cons ok_184 (pS_cons ok_185 (pS_nil))), (pV_nil), f_206_0⟩
theorem qb_206_0 : ∀ u ∈ [u_206_0], pQ_206 u := pU_cons q_206_0 (pU_nil)
theorem ok_206 : sInOk pPT i_206 := sInst3 (M := pm_98) (cus := us_206) pOk pg_98 (by decide +kernel) ⟨_, _, _, _, (pS_cons ok_205 (pS_nil)), (pV_cons (List.mem_of_getElem? (i := 0) rfl) (pV_nil)), e_206⟩ (show ∀ u ∈ us_206, pQ_206 u from qb_206_0)
def pQ_207 (u : sCu) : Prop := ∃ (SM : List sIn) (H : gHt) (cu : List sCu) (n : Nat), (∀ I ∈ SM, sInOk pPT I) ∧ (∀ v ∈ cu, v ∈ us_207) ∧ sWhU pPT SM H i_207 (mR pm_94) cu n u = true
theorem q_207_0 : pQ_207 u_207_0 := ⟨_, _, _, _, (pS_cons ok_161 (pS_cons ok_187 (pS_cons ok_188 (pS_cons ok_201 (pS_cons ok_202 (pS_cons ok_203 (pS_nil))))))), (pV_cons (List.mem_of_getElem? (i := 1) rfl) (pV_cons (List.mem_of_getElem? (i := 2) rfl) (pV_cons (List.mem_of_getElem? (i := 3) rfl) (pV_cons (List.mem_of_getElem? (i := 4) rfl) (pV_cons (List.mem_of_getElem? (i := 5) rfl) (pV_nil)))))), f_207_0⟩
theorem q_207_1 : pQ_207 u_207_1 := ⟨_, _, _, _, (pS_nil), (pV_cons (List.mem_of_getElem? (i := 6) rfl) (pV_nil)), f_207_1⟩
theorem q_207_2 : pQ_207 u_207_2 := ⟨_, _, _, _, (pS_cons ok_202 (pS_nil)), (pV_cons (List.mem_of_getElem? (i := 7) rfl) (pV_cons (List.mem_of_getElem? (i := 8) rfl) (pV_nil))), f_207_2⟩
theorem q_207_3 : pQ_207 u_207_3 := ⟨_, _, _, _, (pS_cons ok_202 (pS_nil)), (pV_cons (List.mem_of_getElem? (i := 7) rfl) (pV_cons (List.mem_of_getElem? (i := 10) rfl) (pV_nil))), f_207_3⟩
theorem q_207_4 : pQ_207 u_207_4 := ⟨_, _, _, _, (pS_nil), (pV_cons (List.mem_of_getElem? (i := 11) rfl) (pV_nil)), f_207_4⟩
theorem q_207_5 : pQ_207 u_207_5 := ⟨_, _, _, _, (pS_cons ok_114 (pS_nil)), (pV_cons (List.mem_of_getElem? (i := 12) rfl) (pV_nil)), f_207_5⟩
theorem q_207_6 : pQ_207 u_207_6 := ⟨_, _, _, _, (pS_nil), (pV_nil), f_207_6⟩
theorem q_207_7 : pQ_207 u_207_7 := ⟨_, _, _, _, (pS_cons ok_114 (pS_cons ok_201 (pS_nil))), (pV_cons (List.mem_of_getElem? (i := 1) rfl) (pV_cons (List.mem_of_getElem? (i := 14) rfl) (pV_nil))), f_207_7⟩
theorem q_207_8 : pQ_207 u_207_8 := ⟨_, _, _, _, (pS_cons ok_114 (pS_cons ok_201 (pS_nil))), (pV_cons (List.mem_of_getElem? (i := 1) rfl) (pV_cons (List.mem_of_getElem? (i := 14) rfl) (pV_nil))), f_207_8⟩
theorem q_207_9 : pQ_207 u_207_9 := ⟨_, _, _, _, (pS_cons ok_114 (pS_cons ok_201 (pS_nil))), (pV_cons (List.mem_of_getElem? (i := 1) rfl) (pV_cons (List.mem_of_getElem? (i := 14) rfl) (pV_nil))), f_207_9⟩
theorem q_207_10 : pQ_207 u_207_10 := ⟨_, _, _, _, (pS_cons ok_114 (pS_cons ok_201 (pS_nil))), (pV_cons (List.mem_of_getElem? (i := 1) rfl) (pV_cons (List.mem_of_getElem? (i := 14) rfl) (pV_nil))), f_207_10⟩
theorem q_207_11 : pQ_207 u_207_11 := ⟨_, _, _, _, (pS_nil), (pV_nil), f_207_11⟩
theorem q_207_12 : pQ_207 u_207_12 := ⟨_, _, _, _, (pS_cons ok_161 (pS_cons ok_187 (pS_cons ok_188 (pS_cons ok_201 (pS_cons ok_202 (pS_cons ok_203 (pS_nil))))))), (pV_cons (List.mem_of_getElem? (i := 17) rfl) (pV_cons (List.mem_of_getElem? (i := 18) rfl) (pV_cons (List.mem_of_getElem? (i := 19) rfl) (pV_cons (List.mem_of_getElem? (i := 20) rfl) (pV_cons (List.mem_of_getElem? (i := 21) rfl) (pV_nil)))))), f_207_12⟩
theorem q_207_13 : pQ_207 u_207_13 := ⟨_, _, _, _, (pS_nil), (pV_cons (List.mem_of_getElem? (i := 6) rfl) (pV_nil)), f_207_13⟩
theorem q_207_14 : pQ_207 u_207_14 := ⟨_, _, _, _, (pS_nil), (pV_cons (List.mem_of_getElem? (i := 11) rfl) (pV_nil)), f_207_14⟩
theorem q_207_15 : pQ_207 u_207_15 := ⟨_, _, _, _, (pS_nil), (pV_cons (List.mem_of_getElem? (i := 6) rfl) (pV_nil)), f_207_15⟩
theorem q_207_16 : pQ_207 u_207_16 := ⟨_, _, _, _, (pS_nil), (pV_cons (List.mem_of_getElem? (i := 11) rfl) (pV_nil)), f_207_16⟩
theorem q_207_17 : pQ_207 u_207_17 := ⟨_, _, _, _, (pS_nil), (pV_cons (List.mem_of_getElem? (i := 22) rfl) (pV_nil)), f_207_17⟩
theorem q_207_18 : pQ_207 u_207_18 := ⟨_, _, _, _, (pS_cons ok_202 (pS_nil)), (pV_cons (List.mem_of_getElem? (i := 23) rfl) (pV_cons (List.mem_of_getElem? (i := 24) rfl) (pV_nil))), f_207_18⟩
theorem q_207_19 : pQ_207 u_207_19 := ⟨_, _, _, _, (pS_cons ok_202 (pS_nil)), (pV_cons (List.mem_of_getElem? (i := 23) rfl) (pV_cons (List.mem_of_getElem? (i := 26) rfl) (pV_nil))), f_207_19⟩
theorem q_207_20 : pQ_207 u_207_20 := ⟨_, _, _, _, (pS_nil), (pV_cons (List.mem_of_getElem? (i := 27) rfl) (pV_nil)), f_207_20⟩
theorem q_207_21 : pQ_207 u_207_21 := ⟨_, _, _, _, (pS_cons ok_114 (pS_nil)), (pV_cons (List.mem_of_getElem? (i := 28) rfl) (pV_nil)), f_207_21⟩
theorem q_207_22 : pQ_207 u_207_22 := ⟨_, _, _, _, (pS_nil), (pV_cons (List.mem_of_getElem? (i := 29) rfl) (pV_nil)), f_207_22⟩
theorem q_207_23 : pQ_207 u_207_23 := ⟨_, _, _, _, (pS_cons ok_114 (pS_cons ok_201 (pS_nil))), (pV_cons (List.mem_of_getElem? (i := 17) rfl) (pV_cons (List.mem_of_getElem? (i := 31) rfl) (pV_nil))), f_207_23⟩
theorem q_207_24 : pQ_207 u_207_24 := ⟨_, _, _, _, (pS_cons ok_114 (pS_cons ok_201 (pS_nil))), (pV_cons (List.mem_of_getElem? (i := 17) rfl) (pV_cons (List.mem_of_getElem? (i := 31) rfl) (pV_nil))), f_207_24⟩
theorem q_207_25 : pQ_207 u_207_25 := ⟨_, _, _, _, (pS_cons ok_114 (pS_cons ok_201 (pS_nil))), (pV_cons (List.mem_of_getElem? (i := 17) rfl) (pV_cons (List.mem_of_getElem? (i := 31) rfl) (pV_nil))), f_207_25⟩
theorem q_207_26 : pQ_207 u_207_26 := ⟨_, _, _, _, (pS_cons ok_114 (pS_cons ok_201 (pS_nil))), (pV_cons (List.mem_of_getElem? (i := 17) rfl) (pV_cons (List.mem_of_getElem? (i := 31) rfl) (pV_nil))), f_207_26⟩
theorem q_207_27 : pQ_207 u_207_27 := ⟨_, _, _, _, (pS_nil), (pV_cons (List.mem_of_getElem? (i := 34) rfl) (pV_nil)), f_207_27⟩
theorem q_207_28 : pQ_207 u_207_28 := ⟨_, _, _, _, (pS_cons ok_161 (pS_cons ok_187 (pS_cons ok_188 (pS_cons ok_201 (pS_cons ok_202 (pS_cons ok_203 (pS_nil))))))), (pV_cons (List.mem_of_getElem? (i := 35) rfl) (pV_cons (List.mem_of_getElem? (i := 36) rfl) (pV_cons (List.mem_of_getElem? (i := 37) rfl) (pV_cons (List.mem_of_getElem? (i := 38) rfl) (pV_cons (List.mem_of_getElem? (i := 39) rfl) (pV_nil)))))), f_207_28⟩
theorem q_207_29 : pQ_207 u_207_29 := ⟨_, _, _, _, (pS_nil), (pV_nil), f_207_29⟩
theorem q_207_30 : pQ_207 u_207_30 := ⟨_, _, _, _, (pS_nil), (pV_cons (List.mem_of_getElem? (i := 22) rfl) (pV_nil)), f_207_30⟩
theorem q_207_31 : pQ_207 u_207_31 := ⟨_, _, _, _, (pS_nil), (pV_cons (List.mem_of_getElem? (i := 27) rfl) (pV_nil)), f_207_31⟩
theorem q_207_32 : pQ_207 u_207_32 := ⟨_, _, _, _, (pS_nil), (pV_cons (List.mem_of_getElem? (i := 22) rfl) (pV_nil)), f_207_32⟩
theorem q_207_33 : pQ_207 u_207_33 := ⟨_, _, _, _, (pS_nil), (pV_cons (List.mem_of_getElem? (i := 27) rfl) (pV_nil)), f_207_33⟩
theorem q_207_34 : pQ_207 u_207_34 := ⟨_, _, _, _, (pS_nil), (pV_nil), f_207_34⟩
theorem q_207_35 : pQ_207 u_207_35 := ⟨_, _, _, _, (pS_nil), (pV_cons (List.mem_of_getElem? (i := 40) rfl) (pV_nil)), f_207_35⟩
theorem q_207_36 : pQ_207 u_207_36 := ⟨_, _, _, _, (pS_cons ok_202 (pS_nil)), (pV_cons (List.mem_of_getElem? (i := 41) rfl) (pV_cons (List.mem_of_getElem? (i := 42) rfl) (pV_nil))), f_207_36⟩
theorem q_207_37 : pQ_207 u_207_37 := ⟨_, _, _, _, (pS_cons ok_202 (pS_nil)), (pV_cons (List.mem_of_getElem? (i := 41) rfl) (pV_cons (List.mem_of_getElem? (i := 44) rfl) (pV_nil))), f_207_37⟩
theorem q_207_38 : pQ_207 u_207_38 := ⟨_, _, _, _, (pS_nil), (pV_cons (List.mem_of_getElem? (i := 45) rfl) (pV_nil)), f_207_38⟩
theorem q_207_39 : pQ_207 u_207_39 := ⟨_, _, _, _, (pS_cons ok_114 (pS_nil)), (pV_cons (List.mem_of_getElem? (i := 46) rfl) (pV_nil)), f_207_39⟩
theorem q_207_40 : pQ_207 u_207_40 := ⟨_, _, _, _, (pS_nil), (pV_cons (List.mem_of_getElem? (i := 47) rfl) (pV_nil)), f_207_40⟩
theorem q_207_41 : pQ_207 u_207_41 := ⟨_, _, _, _, (pS_cons ok_114 (pS_cons ok_201 (pS_nil))), (pV_cons (List.mem_of_getElem? (i := 35) rfl) (pV_cons (List.mem_of_getElem? (i := 49) rfl) (pV_nil))), f_207_41⟩
theorem q_207_42 : pQ_207 u_207_42 := ⟨_, _, _, _, (pS_cons ok_114 (pS_cons ok_201 (pS_nil))), (pV_cons (List.mem_of_getElem? (i := 35) rfl) (pV_cons (List.mem_of_getElem? (i := 49) rfl) (pV_nil))), f_207_42⟩
theorem q_207_43 : pQ_207 u_207_43 := ⟨_, _, _, _, (pS_cons ok_114 (pS_cons ok_201 (pS_nil))), (pV_cons (List.mem_of_getElem? (i := 35) rfl) (pV_cons (List.mem_of_getElem? (i := 49) rfl) (pV_nil))), f_207_43⟩
theorem q_207_44 : pQ_207 u_207_44 := ⟨_, _, _, _, (pS_cons ok_114 (pS_cons ok_201 (pS_nil))), (pV_cons (List.mem_of_getElem? (i := 35) rfl) (pV_cons (List.mem_of_getElem? (i := 49) rfl) (pV_nil))), f_207_44⟩
theorem q_207_45 : pQ_207 u_207_45 := ⟨_, _, _, _, (pS_nil), (pV_cons (List.mem_of_getElem? (i := 52) rfl) (pV_nil)), f_207_45⟩
theorem q_207_46 : pQ_207 u_207_46 := ⟨_, _, _, _, (pS_cons ok_161 (pS_cons ok_187 (pS_cons ok_188 (pS_cons ok_201 (pS_cons ok_202 (pS_cons ok_203 (pS_nil))))))), (pV_cons (List.mem_of_getElem? (i := 53) rfl) (pV_cons (List.mem_of_getElem? (i := 54) rfl) (pV_cons (List.mem_of_getElem? (i := 55) rfl) (pV_cons (List.mem_of_getElem? (i := 56) rfl) (pV_cons (List.mem_of_getElem? (i := 57) rfl) (pV_nil)))))), f_207_46⟩
theorem q_207_47 : pQ_207 u_207_47 := ⟨_, _, _, _, (pS_nil), (pV_cons (List.mem_of_getElem? (i := 58) rfl) (pV_nil)), f_207_47⟩
theorem q_207_48 : pQ_207 u_207_48 := ⟨_, _, _, _, (pS_nil), (pV_cons (List.mem_of_getElem? (i := 40) rfl) (pV_nil)), f_207_48⟩
theorem q_207_49 : pQ_207 u_207_49 := ⟨_, _, _, _, (pS_nil), (pV_cons (List.mem_of_getElem? (i := 45) rfl) (pV_nil)), f_207_49⟩
theorem q_207_50 : pQ_207 u_207_50 := ⟨_, _, _, _, (pS_nil), (pV_cons (List.mem_of_getElem? (i := 40) rfl) (pV_nil)), f_207_50⟩
theorem q_207_51 : pQ_207 u_207_51 := ⟨_, _, _, _, (pS_nil), (pV_cons (List.mem_of_getElem? (i := 45) rfl) (pV_nil)), f_207_51⟩
theorem q_207_52 : pQ_207 u_207_52 := ⟨_, _, _, _, (pS_nil), (pV_cons (List.mem_of_getElem? (i := 59) rfl) (pV_nil)), f_207_52⟩
theorem q_207_53 : pQ_207 u_207_53 := ⟨_, _, _, _, (pS_nil), (pV_cons (List.mem_of_getElem? (i := 60) rfl) (pV_nil)), f_207_53⟩
theorem q_207_54 : pQ_207 u_207_54 := ⟨_, _, _, _, (pS_cons ok_202 (pS_nil)), (pV_cons (List.mem_of_getElem? (i := 61) rfl) (pV_cons (List.mem_of_getElem? (i := 62) rfl) (pV_nil))), f_207_54⟩
theorem q_207_55 : pQ_207 u_207_55 := ⟨_, _, _, _, (pS_cons ok_202 (pS_nil)), (pV_cons (List.mem_of_getElem? (i := 61) rfl) (pV_cons (List.mem_of_getElem? (i := 64) rfl) (pV_nil))), f_207_55⟩
theorem q_207_56 : pQ_207 u_207_56 := ⟨_, _, _, _, (pS_nil), (pV_cons (List.mem_of_getElem? (i := 65) rfl) (pV_nil)), f_207_56⟩
theorem q_207_57 : pQ_207 u_207_57 := ⟨_, _, _, _, (pS_cons ok_114 (pS_nil)), (pV_cons (List.mem_of_getElem? (i := 66) rfl) (pV_nil)), f_207_57⟩
theorem q_207_58 : pQ_207 u_207_58 := ⟨_, _, _, _, (pS_nil), (pV_nil), f_207_58⟩
theorem q_207_59 : pQ_207 u_207_59 := ⟨_, _, _, _, (pS_nil), (pV_nil), f_207_59⟩
theorem q_207_60 : pQ_207 u_207_60 := ⟨_, _, _, _, (pS_nil), (pV_cons (List.mem_of_getElem? (i := 67) rfl) (pV_nil)), f_207_60⟩
theorem q_207_61 : pQ_207 u_207_61 := ⟨_, _, _, _, (pS_cons ok_114 (pS_cons ok_201 (pS_nil))), (pV_cons (List.mem_of_getElem? (i := 53) rfl) (pV_cons (List.mem_of_getElem? (i := 69) rfl) (pV_nil))), f_207_61⟩
theorem q_207_62 : pQ_207 u_207_62 := ⟨_, _, _, _, (pS_cons ok_114 (pS_cons ok_201 (pS_nil))), (pV_cons (List.mem_of_getElem? (i := 53) rfl) (pV_cons (List.mem_of_getElem? (i := 69) rfl) (pV_nil))), f_207_62⟩
theorem q_207_63 : pQ_207 u_207_63 := ⟨_, _, _, _, (pS_cons ok_114 (pS_cons ok_201 (pS_nil))), (pV_cons (List.mem_of_getElem? (i := 53) rfl) (pV_cons (List.mem_of_getElem? (i := 69) rfl) (pV_nil))), f_207_63⟩
theorem q_207_64 : pQ_207 u_207_64 := ⟨_, _, _, _, (pS_cons ok_114 (pS_cons ok_201 (pS_nil))), (pV_cons (List.mem_of_getElem? (i := 53) rfl) (pV_cons (List.mem_of_getElem? (i := 69) rfl) (pV_nil))), f_207_64⟩
theorem q_207_65 : pQ_207 u_207_65 := ⟨_, _, _, _, (pS_nil), (pV_cons (List.mem_of_getElem? (i := 72) rfl) (pV_nil)), f_207_65⟩
theorem q_207_66 : pQ_207 u_207_66 := ⟨_, _, _, _, (pS_cons ok_161 (pS_cons ok_187 (pS_cons ok_188 (pS_cons ok_201 (pS_cons ok_202 (pS_cons ok_203 (pS_nil))))))), (pV_cons (List.mem_of_getElem? (i := 73) rfl) (pV_cons (List.mem_of_getElem? (i := 74) rfl) (pV_cons (List.mem_of_getElem? (i := 75) rfl) (pV_cons (List.mem_of_getElem? (i := 76) rfl) (pV_cons (List.mem_of_getElem? (i := 77) rfl) (pV_nil)))))), f_207_66⟩
theorem q_207_67 : pQ_207 u_207_67 := ⟨_, _, _, _, (pS_nil), (pV_cons (List.mem_of_getElem? (i := 78) rfl) (pV_nil)), f_207_67⟩
theorem q_207_68 : pQ_207 u_207_68 := ⟨_, _, _, _, (pS_nil), (pV_cons (List.mem_of_getElem? (i := 60) rfl) (pV_nil)), f_207_68⟩
theorem q_207_69 : pQ_207 u_207_69 := ⟨_, _, _, _, (pS_nil), (pV_cons (List.mem_of_getElem? (i := 65) rfl) (pV_nil)), f_207_69⟩
theorem q_207_70 : pQ_207 u_207_70 := ⟨_, _, _, _, (pS_nil), (pV_cons (List.mem_of_getElem? (i := 60) rfl) (pV_nil)), f_207_70⟩
theorem q_207_71 : pQ_207 u_207_71 := ⟨_, _, _, _, (pS_nil), (pV_cons (List.mem_of_getElem? (i := 65) rfl) (pV_nil)), f_207_71⟩
theorem q_207_72 : pQ_207 u_207_72 := ⟨_, _, _, _, (pS_nil), (pV_cons (List.mem_of_getElem? (i := 79) rfl) (pV_nil)), f_207_72⟩
theorem q_207_73 : pQ_207 u_207_73 := ⟨_, _, _, _, (pS_nil), (pV_cons (List.mem_of_getElem? (i := 80) rfl) (pV_nil)), f_207_73⟩
theorem q_207_74 : pQ_207 u_207_74 := ⟨_, _, _, _, (pS_cons ok_202 (pS_nil)), (pV_cons (List.mem_of_getElem? (i := 81) rfl) (pV_cons (List.mem_of_getElem? (i := 82) rfl) (pV_nil))), f_207_74⟩
theorem q_207_75 : pQ_207 u_207_75 := ⟨_, _, _, _, (pS_cons ok_202 (pS_nil)), (pV_cons (List.mem_of_getElem? (i := 81) rfl) (pV_cons (List.mem_of_getElem? (i := 84) rfl) (pV_nil))), f_207_75⟩
theorem q_207_76 : pQ_207 u_207_76 := ⟨_, _, _, _, (pS_nil), (pV_cons (List.mem_of_getElem? (i := 85) rfl) (pV_nil)), f_207_76⟩
theorem q_207_77 : pQ_207 u_207_77 := ⟨_, _, _, _, (pS_cons ok_114 (pS_nil)), (pV_cons (List.mem_of_getElem? (i := 86) rfl) (pV_nil)), f_207_77⟩
theorem q_207_78 : pQ_207 u_207_78 := ⟨_, _, _, _, (pS_nil), (pV_cons (List.mem_of_getElem? (i := 87) rfl) (pV_nil)), f_207_78⟩
theorem q_207_79 : pQ_207 u_207_79 := ⟨_, _, _, _, (pS_nil), (pV_cons (List.mem_of_getElem? (i := 88) rfl) (pV_nil)), f_207_79⟩
theorem q_207_80 : pQ_207 u_207_80 := ⟨_, _, _, _, (pS_nil), (pV_cons (List.mem_of_getElem? (i := 89) rfl) (pV_nil)), f_207_80⟩
theorem q_207_81 : pQ_207 u_207_81 := ⟨_, _, _, _, (pS_cons ok_114 (pS_cons ok_201 (pS_nil))), (pV_cons (List.mem_of_getElem? (i := 73) rfl) (pV_cons (List.mem_of_getElem? (i := 91) rfl) (pV_nil))), f_207_81⟩
theorem q_207_82 : pQ_207 u_207_82 := ⟨_, _, _, _, (pS_cons ok_114 (pS_cons ok_201 (pS_nil))), (pV_cons (List.mem_of_getElem? (i := 73) rfl) (pV_cons (List.mem_of_getElem? (i := 91) rfl) (pV_nil))), f_207_82⟩
theorem q_207_83 : pQ_207 u_207_83 := ⟨_, _, _, _, (pS_cons ok_114 (pS_cons ok_201 (pS_nil))), (pV_cons (List.mem_of_getElem? (i := 73) rfl) (pV_cons (List.mem_of_getElem? (i := 91) rfl) (pV_nil))), f_207_83⟩
theorem q_207_84 : pQ_207 u_207_84 := ⟨_, _, _, _, (pS_cons ok_114 (pS_cons ok_201 (pS_nil))), (pV_cons (List.mem_of_getElem? (i := 73) rfl) (pV_cons (List.mem_of_getElem? (i := 91) rfl) (pV_nil))), f_207_84⟩
theorem q_207_85 : pQ_207 u_207_85 := ⟨_, _, _, _, (pS_nil), (pV_cons (List.mem_of_getElem? (i := 94) rfl) (pV_nil)), f_207_85⟩
theorem q_207_86 : pQ_207 u_207_86 := ⟨_, _, _, _, (pS_cons ok_161 (pS_cons ok_187 (pS_cons ok_188 (pS_cons ok_201 (pS_cons ok_202 (pS_cons ok_203 (pS_nil))))))), (pV_cons (List.mem_of_getElem? (i := 95) rfl) (pV_cons (List.mem_of_getElem? (i := 96) rfl) (pV_cons (List.mem_of_getElem? (i := 97) rfl) (pV_cons (List.mem_of_getElem? (i := 98) rfl) (pV_cons (List.mem_of_getElem? (i := 99) rfl) (pV_nil)))))), f_207_86⟩
theorem q_207_87 : pQ_207 u_207_87 := ⟨_, _, _, _, (pS_nil), (pV_nil), f_207_87⟩
theorem q_207_88 : pQ_207 u_207_88 := ⟨_, _, _, _, (pS_nil), (pV_nil), f_207_88⟩
theorem q_207_89 : pQ_207 u_207_89 := ⟨_, _, _, _, (pS_nil), (pV_cons (List.mem_of_getElem? (i := 100) rfl) (pV_nil)), f_207_89⟩
theorem q_207_90 : pQ_207 u_207_90 := ⟨_, _, _, _, (pS_nil), (pV_cons (List.mem_of_getElem? (i := 80) rfl) (pV_nil)), f_207_90⟩
theorem q_207_91 : pQ_207 u_207_91 := ⟨_, _, _, _, (pS_nil), (pV_cons (List.mem_of_getElem? (i := 85) rfl) (pV_nil)), f_207_91⟩
theorem q_207_92 : pQ_207 u_207_92 := ⟨_, _, _, _, (pS_nil), (pV_cons (List.mem_of_getElem? (i := 80) rfl) (pV_nil)), f_207_92⟩
theorem q_207_93 : pQ_207 u_207_93 := ⟨_, _, _, _, (pS_nil), (pV_cons (List.mem_of_getElem? (i := 85) rfl) (pV_nil)), f_207_93⟩
theorem q_207_94 : pQ_207 u_207_94 := ⟨_, _, _, _, (pS_nil), (pV_cons (List.mem_of_getElem? (i := 101) rfl) (pV_nil)), f_207_94⟩
theorem q_207_95 : pQ_207 u_207_95 := ⟨_, _, _, _, (pS_nil), (pV_cons (List.mem_of_getElem? (i := 102) rfl) (pV_nil)), f_207_95⟩
theorem q_207_96 : pQ_207 u_207_96 := ⟨_, _, _, _, (pS_cons ok_202 (pS_nil)), (pV_cons (List.mem_of_getElem? (i := 103) rfl) (pV_cons (List.mem_of_getElem? (i := 104) rfl) (pV_nil))), f_207_96⟩
theorem q_207_97 : pQ_207 u_207_97 := ⟨_, _, _, _, (pS_cons ok_202 (pS_nil)), (pV_cons (List.mem_of_getElem? (i := 103) rfl) (pV_cons (List.mem_of_getElem? (i := 106) rfl) (pV_nil))), f_207_97⟩
theorem q_207_98 : pQ_207 u_207_98 := ⟨_, _, _, _, (pS_nil), (pV_cons (List.mem_of_getElem? (i := 107) rfl) (pV_nil)), f_207_98⟩
theorem q_207_99 : pQ_207 u_207_99 := ⟨_, _, _, _, (pS_cons ok_114 (pS_nil)), (pV_cons (List.mem_of_getElem? (i := 108) rfl) (pV_nil)), f_207_99⟩
theorem q_207_100 : pQ_207 u_207_100 := ⟨_, _, _, _, (pS_nil), (pV_cons (List.mem_of_getElem? (i := 109) rfl) (pV_nil)), f_207_100⟩
theorem q_207_101 : pQ_207 u_207_101 := ⟨_, _, _, _, (pS_nil), (pV_cons (List.mem_of_getElem? (i := 110) rfl) (pV_nil)), f_207_101⟩
theorem q_207_102 : pQ_207 u_207_102 := ⟨_, _, _, _, (pS_nil), (pV_cons (List.mem_of_getElem? (i := 111) rfl) (pV_nil)), f_207_102⟩
theorem q_207_103 : pQ_207 u_207_103 := ⟨_, _, _, _, (pS_cons ok_114 (pS_cons ok_201 (pS_nil))), (pV_cons (List.mem_of_getElem? (i := 95) rfl) (pV_cons (List.mem_of_getElem? (i := 113) rfl) (pV_nil))), f_207_103⟩
theorem q_207_104 : pQ_207 u_207_104 := ⟨_, _, _, _, (pS_cons ok_114 (pS_cons ok_201 (pS_nil))), (pV_cons (List.mem_of_getElem? (i := 95) rfl) (pV_cons (List.mem_of_getElem? (i := 113) rfl) (pV_nil))), f_207_104⟩
theorem q_207_105 : pQ_207 u_207_105 := ⟨_, _, _, _, (pS_cons ok_114 (pS_cons ok_201 (pS_nil))), (pV_cons (List.mem_of_getElem? (i := 95) rfl) (pV_cons (List.mem_of_getElem? (i := 113) rfl) (pV_nil))), f_207_105⟩
theorem q_207_106 : pQ_207 u_207_106 := ⟨_, _, _, _, (pS_cons ok_114 (pS_cons ok_201 (pS_nil))), (pV_cons (List.mem_of_getElem? (i := 95) rfl) (pV_cons (List.mem_of_getElem? (i := 113) rfl) (pV_nil))), f_207_106⟩
theorem q_207_107 : pQ_207 u_207_107 := ⟨_, _, _, _, (pS_nil), (pV_cons (List.mem_of_getElem? (i := 116) rfl) (pV_nil)), f_207_107⟩
theorem q_207_108 : pQ_207 u_207_108 := ⟨_, _, _, _, (pS_cons ok_161 (pS_cons ok_187 (pS_cons ok_188 (pS_cons ok_201 (pS_cons ok_202 (pS_cons ok_203 (pS_nil))))))), (pV_cons (List.mem_of_getElem? (i := 117) rfl) (pV_cons (List.mem_of_getElem? (i := 118) rfl) (pV_cons (List.mem_of_getElem? (i := 119) rfl) (pV_cons (List.mem_of_getElem? (i := 120) rfl) (pV_cons (List.mem_of_getElem? (i := 121) rfl) (pV_nil)))))), f_207_108⟩
theorem q_207_109 : pQ_207 u_207_109 := ⟨_, _, _, _, (pS_nil), (pV_cons (List.mem_of_getElem? (i := 122) rfl) (pV_nil)), f_207_109⟩
theorem q_207_110 : pQ_207 u_207_110 := ⟨_, _, _, _, (pS_nil), (pV_cons (List.mem_of_getElem? (i := 123) rfl) (pV_nil)), f_207_110⟩
theorem q_207_111 : pQ_207 u_207_111 := ⟨_, _, _, _, (pS_nil), (pV_cons (List.mem_of_getElem? (i := 124) rfl) (pV_nil)), f_207_111⟩
theorem q_207_112 : pQ_207 u_207_112 := ⟨_, _, _, _, (pS_nil), (pV_cons (List.mem_of_getElem? (i := 102) rfl) (pV_nil)), f_207_112⟩
theorem q_207_113 : pQ_207 u_207_113 := ⟨_, _, _, _, (pS_nil), (pV_cons (List.mem_of_getElem? (i := 107) rfl) (pV_nil)), f_207_113⟩
theorem q_207_114 : pQ_207 u_207_114 := ⟨_, _, _, _, (pS_nil), (pV_cons (List.mem_of_getElem? (i := 102) rfl) (pV_nil)), f_207_114⟩
theorem q_207_115 : pQ_207 u_207_115 := ⟨_, _, _, _, (pS_nil), (pV_cons (List.mem_of_getElem? (i := 107) rfl) (pV_nil)), f_207_115⟩
theorem q_207_116 : pQ_207 u_207_116 := ⟨_, _, _, _, (pS_nil), (pV_cons (List.mem_of_getElem? (i := 125) rfl) (pV_nil)), f_207_116⟩
theorem q_207_117 : pQ_207 u_207_117 := ⟨_, _, _, _, (pS_nil), (pV_cons (List.mem_of_getElem? (i := 126) rfl) (pV_nil)), f_207_117⟩
theorem q_207_118 : pQ_207 u_207_118 := ⟨_, _, _, _, (pS_cons ok_202 (pS_nil)), (pV_cons (List.mem_of_getElem? (i := 127) rfl) (pV_cons (List.mem_of_getElem? (i := 128) rfl) (pV_nil))), f_207_118⟩
theorem q_207_119 : pQ_207 u_207_119 := ⟨_, _, _, _, (pS_cons ok_202 (pS_nil)), (pV_cons (List.mem_of_getElem? (i := 127) rfl) (pV_cons (List.mem_of_getElem? (i := 130) rfl) (pV_nil))), f_207_119⟩
theorem q_207_120 : pQ_207 u_207_120 := ⟨_, _, _, _, (pS_nil), (pV_cons (List.mem_of_getElem? (i := 131) rfl) (pV_nil)), f_207_120⟩
theorem q_207_121 : pQ_207 u_207_121 := ⟨_, _, _, _, (pS_nil), (pV_cons (List.mem_of_getElem? (i := 132) rfl) (pV_nil)), f_207_121⟩
theorem q_207_122 : pQ_207 u_207_122 := ⟨_, _, _, _, (pS_nil), (pV_nil), f_207_122⟩
theorem q_207_123 : pQ_207 u_207_123 := ⟨_, _, _, _, (pS_nil), (pV_nil), f_207_123⟩
theorem q_207_124 : pQ_207 u_207_124 := ⟨_, _, _, _, (pS_nil), (pV_cons (List.mem_of_getElem? (i := 133) rfl) (pV_nil)), f_207_124⟩
theorem q_207_125 : pQ_207 u_207_125 := ⟨_, _, _, _, (pS_nil), (pV_cons (List.mem_of_getElem? (i := 134) rfl) (pV_nil)), f_207_125⟩
theorem q_207_126 : pQ_207 u_207_126 := ⟨_, _, _, _, (pS_nil), (pV_cons (List.mem_of_getElem? (i := 135) rfl) (pV_nil)), f_207_126⟩
theorem q_207_127 : pQ_207 u_207_127 := ⟨_, _, _, _, (pS_cons ok_114 (pS_cons ok_201 (pS_nil))), (pV_cons (List.mem_of_getElem? (i := 117) rfl) (pV_cons (List.mem_of_getElem? (i := 137) rfl) (pV_nil))), f_207_127⟩
theorem q_207_128 : pQ_207 u_207_128 := ⟨_, _, _, _, (pS_cons ok_114 (pS_cons ok_201 (pS_nil))), (pV_cons (List.mem_of_getElem? (i := 117) rfl) (pV_cons (List.mem_of_getElem? (i := 137) rfl) (pV_nil))), f_207_128⟩
theorem q_207_129 : pQ_207 u_207_129 := ⟨_, _, _, _, (pS_cons ok_114 (pS_cons ok_201 (pS_nil))), (pV_cons (List.mem_of_getElem? (i := 117) rfl) (pV_cons (List.mem_of_getElem? (i := 137) rfl) (pV_nil))), f_207_129⟩
theorem q_207_130 : pQ_207 u_207_130 := ⟨_, _, _, _, (pS_cons ok_114 (pS_cons ok_201 (pS_nil))), (pV_cons (List.mem_of_getElem? (i := 117) rfl) (pV_cons (List.mem_of_getElem? (i := 137) rfl) (pV_nil))), f_207_130⟩
theorem q_207_131 : pQ_207 u_207_131 := ⟨_, _, _, _, (pS_nil), (pV_cons (List.mem_of_getElem? (i := 140) rfl) (pV_nil)), f_207_131⟩
theorem q_207_132 : pQ_207 u_207_132 := ⟨_, _, _, _, (pS_cons ok_179 (pS_cons ok_187 (pS_cons ok_188 (pS_cons ok_206 (pS_nil))))), (pV_cons (List.mem_of_getElem? (i := 141) rfl) (pV_nil)), f_207_132⟩
theorem q_207_133 : pQ_207 u_207_133 := ⟨_, _, _, _, (pS_nil), (pV_cons (List.mem_of_getElem? (i := 142) rfl) (pV_nil)), f_207_133⟩
theorem q_207_134 : pQ_207 u_207_134 := ⟨_, _, _, _, (pS_nil), (pV_cons (List.mem_of_getElem? (i := 143) rfl) (pV_nil)), f_207_134⟩
theorem q_207_135 : pQ_207 u_207_135 := ⟨_, _, _, _, (pS_nil), (pV_cons (List.mem_of_getElem? (i := 144) rfl) (pV_nil)), f_207_135⟩
theorem q_207_136 : pQ_207 u_207_136 := ⟨_, _, _, _, (pS_nil), (pV_cons (List.mem_of_getElem? (i := 126) rfl) (pV_nil)), f_207_136⟩
theorem q_207_137 : pQ_207 u_207_137 := ⟨_, _, _, _, (pS_nil), (pV_cons (List.mem_of_getElem? (i := 131) rfl) (pV_nil)), f_207_137⟩
theorem q_207_138 : pQ_207 u_207_138 := ⟨_, _, _, _, (pS_nil), (pV_cons (List.mem_of_getElem? (i := 126) rfl) (pV_nil)), f_207_138⟩
theorem q_207_139 : pQ_207 u_207_139 := ⟨_, _, _, _, (pS_nil), (pV_cons (List.mem_of_getElem? (i := 131) rfl) (pV_nil)), f_207_139⟩
theorem q_207_140 : pQ_207 u_207_140 := ⟨_, _, _, _, (pS_nil), (pV_cons (List.mem_of_getElem? (i := 145) rfl) (pV_nil)), f_207_140⟩
theorem q_207_141 : pQ_207 u_207_141 := ⟨_, _, _, _, (pS_nil), (pV_cons (List.mem_of_getElem? (i := 146) rfl) (pV_nil)), f_207_141⟩
theorem q_207_142 : pQ_207 u_207_142 := ⟨_, _, _, _, (pS_nil), (pV_cons (List.mem_of_getElem? (i := 147) rfl) (pV_nil)), f_207_142⟩
theorem q_207_143 : pQ_207 u_207_143 := ⟨_, _, _, _, (pS_nil), (pV_cons (List.mem_of_getElem? (i := 148) rfl) (pV_nil)), f_207_143⟩
theorem q_207_144 : pQ_207 u_207_144 := ⟨_, _, _, _, (pS_nil), (pV_cons (List.mem_of_getElem? (i := 149) rfl) (pV_nil)), f_207_144⟩
theorem q_207_145 : pQ_207 u_207_145 := ⟨_, _, _, _, (pS_nil), (pV_cons (List.mem_of_getElem? (i := 150) rfl) (pV_nil)), f_207_145⟩
theorem q_207_146 : pQ_207 u_207_146 := ⟨_, _, _, _, (pS_nil), (pV_cons (List.mem_of_getElem? (i := 151) rfl) (pV_nil)), f_207_146⟩
theorem q_207_147 : pQ_207 u_207_147 := ⟨_, _, _, _, (pS_nil), (pV_nil), f_207_147⟩
theorem q_207_148 : pQ_207 u_207_148 := ⟨_, _, _, _, (pS_nil), (pV_nil), f_207_148⟩
theorem q_207_149 : pQ_207 u_207_149 := ⟨_, _, _, _, (pS_nil), (pV_cons (List.mem_of_getElem? (i := 152) rfl) (pV_nil)), f_207_149⟩
theorem q_207_150 : pQ_207 u_207_150 := ⟨_, _, _, _, (pS_nil), (pV_cons (List.mem_of_getElem? (i := 153) rfl) (pV_nil)), f_207_150⟩
theorem q_207_151 : pQ_207 u_207_151 := ⟨_, _, _, _, (pS_nil), (pV_cons (List.mem_of_getElem? (i := 154) rfl) (pV_nil)), f_207_151⟩
theorem q_207_152 : pQ_207 u_207_152 := ⟨_, _, _, _, (pS_nil), (pV_cons (List.mem_of_getElem? (i := 155) rfl) (pV_nil)), f_207_152⟩
theorem q_207_153 : pQ_207 u_207_153 := ⟨_, _, _, _, (pS_nil), (pV_cons (List.mem_of_getElem? (i := 156) rfl) (pV_nil)), f_207_153⟩
theorem q_207_154 : pQ_207 u_207_154 := ⟨_, _, _, _, (pS_nil), (pV_cons (List.mem_of_getElem? (i := 157) rfl) (pV_nil)), f_207_154⟩
theorem q_207_155 : pQ_207 u_207_155 := ⟨_, _, _, _, (pS_nil), (pV_cons (List.mem_of_getElem? (i := 158) rfl) (pV_nil)), f_207_155⟩
theorem q_207_156 : pQ_207 u_207_156 := ⟨_, _, _, _, (pS_nil), (pV_cons (List.mem_of_getElem? (i := 159) rfl) (pV_nil)), f_207_156⟩
theorem q_207_157 : pQ_207 u_207_157 := ⟨_, _, _, _, (pS_nil), (pV_cons (List.mem_of_getElem? (i := 160) rfl) (pV_nil)), f_207_157⟩
theorem q_207_158 : pQ_207 u_207_158 := ⟨_, _, _, _, (pS_nil), (pV_nil), f_207_158⟩
theorem q_207_159 : pQ_207 u_207_159 := ⟨_, _, _, _, (pS_nil), (pV_nil), f_207_159⟩
theorem q_207_160 : pQ_207 u_207_160 := ⟨_, _, _, _, (pS_nil), (pV_cons (List.mem_of_getElem? (i := 161) rfl) (pV_nil)), f_207_160⟩
theorem q_207_161 : pQ_207 u_207_161 := ⟨_, _, _, _, (pS_nil), (pV_cons (List.mem_of_getElem? (i := 162) rfl) (pV_nil)), f_207_161⟩
theorem q_207_162 : pQ_207 u_207_162 := ⟨_, _, _, _, (pS_nil), (pV_cons (List.mem_of_getElem? (i := 163) rfl) (pV_nil)), f_207_162⟩
theorem q_207_163 : pQ_207 u_207_163 := ⟨_, _, _, _, (pS_nil), (pV_nil), f_207_163⟩
theorem qb_207_0 : ∀ u ∈ [u_207_0, u_207_1, u_207_2, u_207_3, u_207_4, u_207_5, u_207_6, u_207_7, u_207_8, u_207_9], pQ_207 u := pU_cons q_207_0 (pU_cons q_207_1 (pU_cons q_207_2 (pU_cons q_207_3 (pU_cons q_207_4 (pU_cons q_207_5 (pU_cons q_207_6 (pU_cons q_207_7 (pU_cons q_207_8 (pU_cons q_207_9 (pU_nil))))))))))
theorem qb_207_1 : ∀ u ∈ [u_207_10, u_207_11, u_207_12, u_207_13, u_207_14, u_207_15, u_207_16, u_207_17, u_207_18, u_207_19], pQ_207 u := pU_cons q_207_10 (pU_cons q_207_11 (pU_cons q_207_12 (pU_cons q_207_13 (pU_cons q_207_14 (pU_cons q_207_15 (pU_cons q_207_16 (pU_cons q_207_17 (pU_cons q_207_18 (pU_cons q_207_19 (pU_nil))))))))))
theorem qb_207_2 : ∀ u ∈ [u_207_20, u_207_21, u_207_22, u_207_23, u_207_24, u_207_25, u_207_26, u_207_27, u_207_28, u_207_29], pQ_207 u := pU_cons q_207_20 (pU_cons q_207_21 (pU_cons q_207_22 (pU_cons q_207_23 (pU_cons q_207_24 (pU_cons q_207_25 (pU_cons q_207_26 (pU_cons q_207_27 (pU_cons q_207_28 (pU_cons q_207_29 (pU_nil))))))))))
theorem qb_207_3 : ∀ u ∈ [u_207_30, u_207_31, u_207_32, u_207_33, u_207_34, u_207_35, u_207_36, u_207_37, u_207_38, u_207_39], pQ_207 u := pU_cons q_207_30 (pU_cons q_207_31 (pU_cons q_207_32 (pU_cons q_207_33 (pU_cons q_207_34 (pU_cons q_207_35 (pU_cons q_207_36 (pU_cons q_207_37 (pU_cons q_207_38 (pU_cons q_207_39 (pU_nil))))))))))
theorem qb_207_4 : ∀ u ∈ [u_207_40, u_207_41, u_207_42, u_207_43, u_207_44, u_207_45, u_207_46, u_207_47, u_207_48, u_207_49], pQ_207 u := pU_cons q_207_40 (pU_cons q_207_41 (pU_cons q_207_42 (pU_cons q_207_43 (pU_cons q_207_44 (pU_cons q_207_45 (pU_cons q_207_46 (pU_cons q_207_47 (pU_cons q_207_48 (pU_cons q_207_49 (pU_nil))))))))))
theorem qb_207_5 : ∀ u ∈ [u_207_50, u_207_51, u_207_52, u_207_53, u_207_54, u_207_55, u_207_56, u_207_57, u_207_58, u_207_59], pQ_207 u := pU_cons q_207_50 (pU_cons q_207_51 (pU_cons q_207_52 (pU_cons q_207_53 (pU_cons q_207_54 (pU_cons q_207_55 (pU_cons q_207_56 (pU_cons q_207_57 (pU_cons q_207_58 (pU_cons q_207_59 (pU_nil))))))))))
theorem qb_207_6 : ∀ u ∈ [u_207_60, u_207_61, u_207_62, u_207_63, u_207_64, u_207_65, u_207_66, u_207_67, u_207_68, u_207_69], pQ_207 u := pU_cons q_207_60 (pU_cons q_207_61 (pU_cons q_207_62 (pU_cons q_207_63 (pU_cons q_207_64 (pU_cons q_207_65 (pU_cons q_207_66 (pU_cons q_207_67 (pU_cons q_207_68 (pU_cons q_207_69 (pU_nil))))))))))
theorem qb_207_7 : ∀ u ∈ [u_207_70, u_207_71, u_207_72, u_207_73, u_207_74, u_207_75, u_207_76, u_207_77, u_207_78, u_207_79], pQ_207 u := pU_cons q_207_70 (pU_cons q_207_71 (pU_cons q_207_72 (pU_cons q_207_73 (pU_cons q_207_74 (pU_cons q_207_75 (pU_cons q_207_76 (pU_cons q_207_77 (pU_cons q_207_78 (pU_cons q_207_79 (pU_nil))))))))))
theorem qb_207_8 : ∀ u ∈ [u_207_80, u_207_81, u_207_82, u_207_83, u_207_84, u_207_85, u_207_86, u_207_87, u_207_88, u_207_89], pQ_207 u := pU_cons q_207_80 (pU_cons q_207_81 (pU_cons q_207_82 (pU_cons q_207_83 (pU_cons q_207_84 (pU_cons q_207_85 (pU_cons q_207_86 (pU_cons q_207_87 (pU_cons q_207_88 (pU_cons q_207_89 (pU_nil))))))))))
theorem qb_207_9 : ∀ u ∈ [u_207_90, u_207_91, u_207_92, u_207_93, u_207_94, u_207_95, u_207_96, u_207_97, u_207_98, u_207_99], pQ_207 u := pU_cons q_207_90 (pU_cons q_207_91 (pU_cons q_207_92 (pU_cons q_207_93 (pU_cons q_207_94 (pU_cons q_207_95 (pU_cons q_207_96 (pU_cons q_207_97 (pU_cons q_207_98 (pU_cons q_207_99 (pU_nil))))))))))
theorem qb_207_10 : ∀ u ∈ [u_207_100, u_207_101, u_207_102, u_207_103, u_207_104, u_207_105, u_207_106, u_207_107, u_207_108, u_207_109], pQ_207 u := pU_cons q_207_100 (pU_cons q_207_101 (pU_cons q_207_102 (pU_cons q_207_103 (pU_cons q_207_104 (pU_cons q_207_105 (pU_cons q_207_106 (pU_cons q_207_107 (pU_cons q_207_108 (pU_cons q_207_109 (pU_nil))))))))))
theorem qb_207_11 : ∀ u ∈ [u_207_110, u_207_111, u_207_112, u_207_113, u_207_114, u_207_115, u_207_116, u_207_117, u_207_118, u_207_119], pQ_207 u := pU_cons q_207_110 (pU_cons q_207_111 (pU_cons q_207_112 (pU_cons q_207_113 (pU_cons q_207_114 (pU_cons q_207_115 (pU_cons q_207_116 (pU_cons q_207_117 (pU_cons q_207_118 (pU_cons q_207_119 (pU_nil))))))))))
theorem qb_207_12 : ∀ u ∈ [u_207_120, u_207_121, u_207_122, u_207_123, u_207_124, u_207_125, u_207_126, u_207_127, u_207_128, u_207_129], pQ_207 u := pU_cons q_207_120 (pU_cons q_207_121 (pU_cons q_207_122 (pU_cons q_207_123 (pU_cons q_207_124 (pU_cons q_207_125 (pU_cons q_207_126 (pU_cons q_207_127 (pU_cons q_207_128 (pU_cons q_207_129 (pU_nil))))))))))
theorem qb_207_13 : ∀ u ∈ [u_207_130, u_207_131, u_207_132, u_207_133, u_207_134, u_207_135, u_207_136, u_207_137, u_207_138, u_207_139], pQ_207 u := pU_cons q_207_130 (pU_cons q_207_131 (pU_cons q_207_132 (pU_cons q_207_133 (pU_cons q_207_134 (pU_cons q_207_135 (pU_cons q_207_136 (pU_cons q_207_137 (pU_cons q_207_138 (pU_cons q_207_139 (pU_nil))))))))))
theorem qb_207_14 : ∀ u ∈ [u_207_140, u_207_141, u_207_142, u_207_143, u_207_144, u_207_145, u_207_146, u_207_147, u_207_148, u_207_149], pQ_207 u := pU_cons q_207_140 (pU_cons q_207_141 (pU_cons q_207_142 (pU_cons q_207_143 (pU_cons q_207_144 (pU_cons q_207_145 (pU_cons q_207_146 (pU_cons q_207_147 (pU_cons q_207_148 (pU_cons q_207_149 (pU_nil))))))))))
theorem qb_207_15 : ∀ u ∈ [u_207_150, u_207_151, u_207_152, u_207_153, u_207_154, u_207_155, u_207_156, u_207_157, u_207_158, u_207_159], pQ_207 u := pU_cons q_207_150 (pU_cons q_207_151 (pU_cons q_207_152 (pU_cons q_207_153 (pU_cons q_207_154 (pU_cons q_207_155 (pU_cons q_207_156 (pU_cons q_207_157 (pU_cons q_207_158 (pU_cons q_207_159 (pU_nil))))))))))
theorem qb_207_16 : ∀ u ∈ [u_207_160, u_207_161, u_207_162, u_207_163], pQ_207 u := pU_cons q_207_160 (pU_cons q_207_161 (pU_cons q_207_162 (pU_cons q_207_163 (pU_nil))))
theorem ok_207 : sInOk pPT i_207 := sInst3 (M := pm_94) (cus := us_207) pOk pg_94 (by decide +kernel) ⟨_, _, _, _, (pS_nil), (pV_cons (List.mem_of_getElem? (i := 0) rfl) (pV_nil)), e_207⟩ (show ∀ u ∈ us_207, pQ_207 u from (pU_app qb_207_0 (pU_app qb_207_1 (pU_app qb_207_2 (pU_app qb_207_3 (pU_app qb_207_4 (pU_app qb_207_5 (pU_app qb_207_6 (pU_app qb_207_7 (pU_app qb_207_8 (pU_app qb_207_9 (pU_app qb_207_10 (pU_app qb_207_11 (pU_app qb_207_12 (pU_app qb_207_13 (pU_app qb_207_14 (pU_app qb_207_15 qb_207_16)))))))))))))))))
theorem ok_208 : sInOk pPT i_208 := sInst3 (M := pm_58) (cus := []) pOk pg_58 (by decide +kernel) ⟨_, _, _, _, (pS_nil), pV_nil, e_208⟩ pU_nil
def pQ_209 (u : sCu) : Prop := ∃ (SM : List sIn) (H : gHt) (cu : List sCu) (n : Nat), (∀ I ∈ SM, sInOk pPT I) ∧ (∀ v ∈ cu, v ∈ us_209) ∧ sWhU pPT SM H i_209 (mR pm_91) cu n u = true
theorem q_209_0 : pQ_209 u_209_0 := ⟨_, _, _, _, (pS_cons ok_190 (pS_nil)), (pV_nil), f_209_0⟩
theorem q_209_1 : pQ_209 u_209_1 := ⟨_, _, _, _, (pS_cons ok_114 (pS_cons ok_207 (pS_cons ok_208 (pS_nil)))), (pV_cons (List.mem_of_getElem? (i := 0) rfl) (pV_cons (List.mem_of_getElem? (i := 1) rfl) (pV_nil))), f_209_1⟩
theorem qb_209_0 : ∀ u ∈ [u_209_0, u_209_1], pQ_209 u := pU_cons q_209_0 (pU_cons q_209_1 (pU_nil))
theorem ok_209 : sInOk pPT i_209 := sInst3 (M := pm_91) (cus := us_209) pOk pg_91 (by decide +kernel) ⟨_, _, _, _, (pS_cons ok_207 (pS_nil)), (pV_cons (List.mem_of_getElem? (i := 0) rfl) (pV_cons (List.mem_of_getElem? (i := 1) rfl) (pV_nil))), e_209⟩ (show ∀ u ∈ us_209, pQ_209 u from qb_209_0)
def pQ_210 (u : sCu) : Prop := ∃ (SM : List sIn) (H : gHt) (cu : List sCu) (n : Nat), (∀ I ∈ SM, sInOk pPT I) ∧ (∀ v ∈ cu, v ∈ us_210) ∧ sWhU pPT SM H i_210 (mR pm_94) cu n u = true
theorem q_210_0 : pQ_210 u_210_0 := ⟨_, _, _, _, (pS_cons ok_179 (pS_cons ok_187 (pS_cons ok_188 (pS_cons ok_206 (pS_nil))))), (pV_cons (List.mem_of_getElem? (i := 1) rfl) (pV_nil)), f_210_0⟩
theorem q_210_1 : pQ_210 u_210_1 := ⟨_, _, _, _, (pS_nil), (pV_cons (List.mem_of_getElem? (i := 2) rfl) (pV_nil)), f_210_1⟩
theorem q_210_2 : pQ_210 u_210_2 := ⟨_, _, _, _, (pS_nil), (pV_nil), f_210_2⟩
theorem qb_210_0 : ∀ u ∈ [u_210_0, u_210_1, u_210_2], pQ_210 u := pU_cons q_210_0 (pU_cons q_210_1 (pU_cons q_210_2 (pU_nil)))
theorem ok_210 : sInOk pPT i_210 := sInst3 (M := pm_94) (cus := us_210) pOk pg_94 (by decide +kernel) ⟨_, _, _, _, (pS_nil), (pV_cons (List.mem_of_getElem? (i := 0) rfl) (pV_nil)), e_210⟩ (show ∀ u ∈ us_210, pQ_210 u from qb_210_0)
def pQ_211 (u : sCu) : Prop := ∃ (SM : List sIn) (H : gHt) (cu : List sCu) (n : Nat), (∀ I ∈ SM, sInOk pPT I) ∧ (∀ v ∈ cu, v ∈ us_211) ∧ sWhU pPT SM H i_211 (mR pm_91) cu n u = true
theorem q_211_0 : pQ_211 u_211_0 := ⟨_, _, _, _, (pS_cons ok_190 (pS_nil)), (pV_nil), f_211_0⟩
theorem qb_211_0 : ∀ u ∈ [u_211_0], pQ_211 u := pU_cons q_211_0 (pU_nil)
theorem ok_211 : sInOk pPT i_211 := sInst3 (M := pm_91) (cus := us_211) pOk pg_91 (by decide +kernel) ⟨_, _, _, _, (pS_cons ok_210 (pS_nil)), (pV_cons (List.mem_of_getElem? (i := 0) rfl) (pV_nil)), e_211⟩ (show ∀ u ∈ us_211, pQ_211 u from qb_211_0)
theorem ok_212 : sInOk pPT i_212 := sInst3 (M := pm_58) (cus := []) pOk pg_58 (by decide +kernel) ⟨_, _, _, _, (pS_nil), pV_nil, e_212⟩ pU_nil
def pQ_213 (u : sCu) : Prop := ∃ (SM : List sIn) (H : gHt) (cu : List sCu) (n : Nat), (∀ I ∈ SM, sInOk pPT I) ∧ (∀ v ∈ cu, v ∈ us_213) ∧ sWhU pPT SM H i_213 (mR pm_92) cu n u = true
theorem q_213_0 : pQ_213 u_213_0 := ⟨_, _, _, _, (pS_cons ok_209 (pS_nil)), (pV_cons (List.mem_of_getElem? (i := 2) rfl) (pV_cons (List.mem_of_getElem? (i := 3) rfl) (pV_nil))), f_213_0⟩
theorem q_213_1 : pQ_213 u_213_1 := ⟨_, _, _, _, (pS_cons ok_211 (pS_nil)), (pV_cons (List.mem_of_getElem? (i := 2) rfl) (pV_nil)), f_213_1⟩
theorem q_213_2 : pQ_213 u_213_2 := ⟨_, _, _, _, (pS_cons ok_192 (pS_nil)), (pV_nil), f_213_2⟩
theorem q_213_3 : pQ_213 u_213_3 := ⟨_, _, _, _, (pS_cons ok_114 (pS_cons ok_209 (pS_cons ok_212 (pS_nil)))), (pV_cons (List.mem_of_getElem? (i := 2) rfl) (pV_cons (List.mem_of_getElem? (i := 3) rfl) (pV_nil))), f_213_3⟩
theorem qb_213_0 : ∀ u ∈ [u_213_0, u_213_1, u_213_2, u_213_3], pQ_213 u := pU_cons q_213_0 (pU_cons q_213_1 (pU_cons q_213_2 (pU_cons q_213_3 (pU_nil))))
theorem ok_213 : sInOk pPT i_213 := sInst3 (M := pm_92) (cus := us_213) pOk pg_92 (by decide +kernel) ⟨_, _, _, _, (pS_cons ok_160 (pS_nil)), (pV_cons (List.mem_of_getElem? (i := 0) rfl) (pV_cons (List.mem_of_getElem? (i := 1) rfl) (pV_nil))), e_213⟩ (show ∀ u ∈ us_213, pQ_213 u from qb_213_0)
def pQ_214 (u : sCu) : Prop := ∃ (SM : List sIn) (H : gHt) (cu : List sCu) (n : Nat), (∀ I ∈ SM, sInOk pPT I) ∧ (∀ v ∈ cu, v ∈ us_214) ∧ sWhU pPT SM H i_214 (mR pm_67) cu n u = true
theorem q_214_0 : pQ_214 u_214_0 := ⟨_, _, _, _, (pS_nil), (pV_nil), f_214_0⟩
theorem qb_214_0 : ∀ u ∈ [u_214_0], pQ_214 u := pU_cons q_214_0 (pU_nil)
theorem ok_214 : sInOk pPT i_214 := sInst3 (M := pm_67) (cus := us_214) pOk pg_67 (by decide +kernel) ⟨_, _, _, _, (pS_nil), (pV_cons (List.mem_of_getElem? (i := 0) rfl) (pV_nil)), e_214⟩ (show ∀ u ∈ us_214, pQ_214 u from qb_214_0)
def pQ_215 (u : sCu) : Prop := ∃ (SM : List sIn) (H : gHt) (cu : List sCu) (n : Nat), (∀ I ∈ SM, sInOk pPT I) ∧ (∀ v ∈ cu, v ∈ us_215) ∧ sWhU pPT SM H i_215 (mR pm_79) cu n u = true
theorem q_215_0 : pQ_215 u_215_0 := ⟨_, _, _, _, (pS_cons ok_114 (pS_nil)), (pV_nil), f_215_0⟩
theorem q_215_1 : pQ_215 u_215_1 := ⟨_, _, _, _, (pS_nil), (pV_nil), f_215_1⟩
theorem qb_215_0 : ∀ u ∈ [u_215_0, u_215_1], pQ_215 u := pU_cons q_215_0 (pU_cons q_215_1 (pU_nil))
theorem ok_215 : sInOk pPT i_215 := sInst3 (M := pm_79) (cus := us_215) pOk pg_79 (by decide +kernel) ⟨_, _, _, _, (pS_cons ok_214 (pS_nil)), (pV_cons (List.mem_of_getElem? (i := 0) rfl) (pV_cons (List.mem_of_getElem? (i := 1) rfl) (pV_nil))), e_215⟩ (show ∀ u ∈ us_215, pQ_215 u from qb_215_0)
theorem ok_216 : sInOk pPT i_216 := sInst3 (M := pm_96) (cus := []) pOk pg_96 (by decide +kernel) ⟨_, _, _, _, (pS_cons ok_114 (pS_cons ok_162 (pS_cons ok_164 (pS_cons ok_173 (pS_cons ok_177 (pS_cons ok_194 (pS_cons ok_213 (pS_cons ok_215 (pS_nil))))))))), pV_nil, e_216⟩ pU_nil
def pQ_217 (u : sCu) : Prop := ∃ (SM : List sIn) (H : gHt) (cu : List sCu) (n : Nat), (∀ I ∈ SM, sInOk pPT I) ∧ (∀ v ∈ cu, v ∈ us_217) ∧ sWhU pPT SM H i_217 (mR pm_97) cu n u = true
theorem q_217_0 : pQ_217 u_217_0 := ⟨_, _, _, _, (pS_cons ok_181 (pS_cons ok_182 (pS_nil))), (pV_nil), f_217_0⟩
theorem q_217_1 : pQ_217 u_217_1 := ⟨_, _, _, _, (pS_cons ok_196 (pS_cons ok_197 (pS_nil))), (pV_cons (List.mem_of_getElem? (i := 2) rfl) (pV_cons (List.mem_of_getElem? (i := 3) rfl) (pV_nil))), f_217_1⟩
theorem q_217_2 : pQ_217 u_217_2 := ⟨_, _, _, _, (pS_cons ok_196 (pS_nil)), (pV_cons (List.mem_of_getElem? (i := 4) rfl) (pV_cons (List.mem_of_getElem? (i := 5) rfl) (pV_nil))), f_217_2⟩
theorem q_217_3 : pQ_217 u_217_3 := ⟨_, _, _, _, (pS_cons ok_196 (pS_nil)), (pV_cons (List.mem_of_getElem? (i := 6) rfl) (pV_cons (List.mem_of_getElem? (i := 7) rfl) (pV_nil))), f_217_3⟩
theorem q_217_4 : pQ_217 u_217_4 := ⟨_, _, _, _, (pS_cons ok_114 (pS_cons ok_216 (pS_nil))), (pV_cons (List.mem_of_getElem? (i := 0) rfl) (pV_cons (List.mem_of_getElem? (i := 1) rfl) (pV_nil))), f_217_4⟩
theorem q_217_5 : pQ_217 u_217_5 := ⟨_, _, _, _, (pS_cons ok_114 (pS_cons ok_216 (pS_nil))), (pV_cons (List.mem_of_getElem? (i := 0) rfl) (pV_cons (List.mem_of_getElem? (i := 1) rfl) (pV_nil))), f_217_5⟩
theorem q_217_6 : pQ_217 u_217_6 := ⟨_, _, _, _, (pS_cons ok_114 (pS_cons ok_216 (pS_nil))), (pV_cons (List.mem_of_getElem? (i := 0) rfl) (pV_cons (List.mem_of_getElem? (i := 1) rfl) (pV_nil))), f_217_6⟩
theorem q_217_7 : pQ_217 u_217_7 := ⟨_, _, _, _, (pS_cons ok_114 (pS_cons ok_216 (pS_nil))), (pV_cons (List.mem_of_getElem? (i := 0) rfl) (pV_cons (List.mem_of_getElem? (i := 1) rfl) (pV_nil))), f_217_7⟩
theorem qb_217_0 : ∀ u ∈ [u_217_0, u_217_1, u_217_2, u_217_3, u_217_4, u_217_5, u_217_6, u_217_7], pQ_217 u := pU_cons q_217_0 (pU_cons q_217_1 (pU_cons q_217_2 (pU_cons q_217_3 (pU_cons q_217_4 (pU_cons q_217_5 (pU_cons q_217_6 (pU_cons q_217_7 (pU_nil))))))))
theorem ok_217 : sInOk pPT i_217 := sInst3 (M := pm_97) (cus := us_217) pOk pg_97 (by decide +kernel) ⟨_, _, _, _, (pS_cons ok_216 (pS_nil)), (pV_cons (List.mem_of_getElem? (i := 0) rfl) (pV_cons (List.mem_of_getElem? (i := 1) rfl) (pV_nil))), e_217⟩ (show ∀ u ∈ us_217, pQ_217 u from qb_217_0)
def pQ_218 (u : sCu) : Prop := ∃ (SM : List sIn) (H : gHt) (cu : List sCu) (n : Nat), (∀ I ∈ SM, sInOk pPT I) ∧ (∀ v ∈ cu, v ∈ us_218) ∧ sWhU pPT SM H i_218 (mR pm_98) cu n u = true
theorem q_218_0 : pQ_218 u_218_0 := ⟨_, _, _, _, (pS_cons ok_184 (pS_cons ok_185 (pS_nil))), (pV_nil), f_218_0⟩
theorem q_218_1 : pQ_218 u_218_1 := ⟨_, _, _, _, (pS_cons ok_199 (pS_cons ok_200 (pS_nil))), (pV_cons (List.mem_of_getElem? (i := 2) rfl) (pV_cons (List.mem_of_getElem? (i := 3) rfl) (pV_nil))), f_218_1⟩
theorem q_218_2 : pQ_218 u_218_2 := ⟨_, _, _, _, (pS_cons ok_199 (pS_nil)), (pV_cons (List.mem_of_getElem? (i := 4) rfl) (pV_cons (List.mem_of_getElem? (i := 5) rfl) (pV_nil))), f_218_2⟩
theorem q_218_3 : pQ_218 u_218_3 := ⟨_, _, _, _, (pS_cons ok_199 (pS_nil)), (pV_cons (List.mem_of_getElem? (i := 6) rfl) (pV_cons (List.mem_of_getElem? (i := 7) rfl) (pV_nil))), f_218_3⟩
theorem q_218_4 : pQ_218 u_218_4 := ⟨_, _, _, _, (pS_cons ok_114 (pS_cons ok_217 (pS_nil))), (pV_cons (List.mem_of_getElem? (i := 0) rfl) (pV_cons (List.mem_of_getElem? (i := 1) rfl) (pV_nil))), f_218_4⟩
theorem q_218_5 : pQ_218 u_218_5 := ⟨_, _, _, _, (pS_cons ok_114 (pS_cons ok_217 (pS_nil))), (pV_cons (List.mem_of_getElem? (i := 0) rfl) (pV_cons (List.mem_of_getElem? (i := 1) rfl) (pV_nil))), f_218_5⟩
theorem q_218_6 : pQ_218 u_218_6 := ⟨_, _, _, _, (pS_cons ok_114 (pS_cons ok_217 (pS_nil))), (pV_cons (List.mem_of_getElem? (i := 0) rfl) (pV_cons (List.mem_of_getElem? (i := 1) rfl) (pV_nil))), f_218_6⟩
theorem q_218_7 : pQ_218 u_218_7 := ⟨_, _, _, _, (pS_cons ok_114 (pS_cons ok_217 (pS_nil))), (pV_cons (List.mem_of_getElem? (i := 0) rfl) (pV_cons (List.mem_of_getElem? (i := 1) rfl) (pV_nil))), f_218_7⟩
theorem qb_218_0 : ∀ u ∈ [u_218_0, u_218_1, u_218_2, u_218_3, u_218_4, u_218_5, u_218_6, u_218_7], pQ_218 u := pU_cons q_218_0 (pU_cons q_218_1 (pU_cons q_218_2 (pU_cons q_218_3 (pU_cons q_218_4 (pU_cons q_218_5 (pU_cons q_218_6 (pU_cons q_218_7 (pU_nil))))))))
theorem ok_218 : sInOk pPT i_218 := sInst3 (M := pm_98) (cus := us_218) pOk pg_98 (by decide +kernel) ⟨_, _, _, _, (pS_cons ok_217 (pS_nil)), (pV_cons (List.mem_of_getElem? (i := 0) rfl) (pV_cons (List.mem_of_getElem? (i := 1) rfl) (pV_nil))), e_218⟩ (show ∀ u ∈ us_218, pQ_218 u from qb_218_0)
theorem ok_219 : sInOk pPT i_219 := sInst3 (M := pm_96) (cus := []) pOk pg_96 (by decide +kernel) ⟨_, _, _, _, (pS_nil), pV_nil, e_219⟩ pU_nil
def pQ_220 (u : sCu) : Prop := ∃ (SM : List sIn) (H : gHt) (cu : List sCu) (n : Nat), (∀ I ∈ SM, sInOk pPT I) ∧ (∀ v ∈ cu, v ∈ us_220) ∧ sWhU pPT SM H i_220 (mR pm_97) cu n u = true
theorem q_220_0 : pQ_220 u_220_0 := ⟨_, _, _, _, (pS_cons ok_181 (pS_cons ok_182 (pS_nil))), (pV_nil), f_220_0⟩
theorem qb_220_0 : ∀ u ∈ [u_220_0], pQ_220 u := pU_cons q_220_0 (pU_nil)
theorem ok_220 : sInOk pPT i_220 := sInst3 (M := pm_97) (cus := us_220) pOk pg_97 (by decide +kernel) ⟨_, _, _, _, (pS_cons ok_219 (pS_nil)), (pV_cons (List.mem_of_getElem? (i := 0) rfl) (pV_nil)), e_220⟩ (show ∀ u ∈ us_220, pQ_220 u from qb_220_0)
def pQ_221 (u : sCu) : Prop := ∃ (SM : List sIn) (H : gHt) (cu : List sCu) (n : Nat), (∀ I ∈ SM, sInOk pPT I) ∧ (∀ v ∈ cu, v ∈ us_221) ∧ sWhU pPT SM H i_221 (mR pm_98) cu n u = true
theorem q_221_0 : pQ_221 u_221_0 := ⟨_, _, _, _, (pS_cons ok_184 (pS_cons ok_185 (pS_nil))), (pV_nil), f_221_0⟩
theorem qb_221_0 : ∀ u ∈ [u_221_0], pQ_221 u := pU_cons q_221_0 (pU_nil)
theorem ok_221 : sInOk pPT i_221 := sInst3 (M := pm_98) (cus := us_221) pOk pg_98 (by decide +kernel) ⟨_, _, _, _, (pS_cons ok_220 (pS_nil)), (pV_cons (List.mem_of_getElem? (i := 0) rfl) (pV_nil)), e_221⟩ (show ∀ u ∈ us_221, pQ_221 u from qb_221_0)
def pQ_222 (u : sCu) : Prop := ∃ (SM : List sIn) (H : gHt) (cu : List sCu) (n : Nat), (∀ I ∈ SM, sInOk pPT I) ∧ (∀ v ∈ cu, v ∈ us_222) ∧ sWhU pPT SM H i_222 (mR pm_94) cu n u = true
theorem q_222_0 : pQ_222 u_222_0 := ⟨_, _, _, _, (pS_cons ok_161 (pS_cons ok_187 (pS_cons ok_188 (pS_cons ok_202 (pS_cons ok_203 (pS_cons ok_218 (pS_nil))))))), (pV_cons (List.mem_of_getElem? (i := 1) rfl) (pV_cons (List.mem_of_getElem? (i := 2) rfl) (pV_cons (List.mem_of_getElem? (i := 3) rfl) (pV_cons (List.mem_of_getElem? (i := 4) rfl) (pV_cons (List.mem_of_getElem? (i := 5) rfl) (pV_nil)))))), f_222_0⟩
theorem q_222_1 : pQ_222 u_222_1 := ⟨_, _, _, _, (pS_nil), (pV_cons (List.mem_of_getElem? (i := 6) rfl) (pV_nil)), f_222_1⟩
theorem q_222_2 : pQ_222 u_222_2 := ⟨_, _, _, _, (pS_cons ok_202 (pS_nil)), (pV_cons (List.mem_of_getElem? (i := 7) rfl) (pV_cons (List.mem_of_getElem? (i := 8) rfl) (pV_nil))), f_222_2⟩
theorem q_222_3 : pQ_222 u_222_3 := ⟨_, _, _, _, (pS_cons ok_202 (pS_nil)), (pV_cons (List.mem_of_getElem? (i := 7) rfl) (pV_cons (List.mem_of_getElem? (i := 10) rfl) (pV_nil))), f_222_3⟩
theorem q_222_4 : pQ_222 u_222_4 := ⟨_, _, _, _, (pS_nil), (pV_cons (List.mem_of_getElem? (i := 11) rfl) (pV_nil)), f_222_4⟩
theorem q_222_5 : pQ_222 u_222_5 := ⟨_, _, _, _, (pS_cons ok_114 (pS_nil)), (pV_cons (List.mem_of_getElem? (i := 12) rfl) (pV_nil)), f_222_5⟩
theorem q_222_6 : pQ_222 u_222_6 := ⟨_, _, _, _, (pS_nil), (pV_nil), f_222_6⟩
theorem q_222_7 : pQ_222 u_222_7 := ⟨_, _, _, _, (pS_cons ok_114 (pS_cons ok_218 (pS_nil))), (pV_cons (List.mem_of_getElem? (i := 1) rfl) (pV_cons (List.mem_of_getElem? (i := 14) rfl) (pV_nil))), f_222_7⟩
theorem q_222_8 : pQ_222 u_222_8 := ⟨_, _, _, _, (pS_cons ok_114 (pS_cons ok_218 (pS_nil))), (pV_cons (List.mem_of_getElem? (i := 1) rfl) (pV_cons (List.mem_of_getElem? (i := 14) rfl) (pV_nil))), f_222_8⟩
theorem q_222_9 : pQ_222 u_222_9 := ⟨_, _, _, _, (pS_cons ok_114 (pS_cons ok_218 (pS_nil))), (pV_cons (List.mem_of_getElem? (i := 1) rfl) (pV_cons (List.mem_of_getElem? (i := 14) rfl) (pV_nil))), f_222_9⟩
theorem q_222_10 : pQ_222 u_222_10 := ⟨_, _, _, _, (pS_cons ok_114 (pS_cons ok_218 (pS_nil))), (pV_cons (List.mem_of_getElem? (i := 1) rfl) (pV_cons (List.mem_of_getElem? (i := 14) rfl) (pV_nil))), f_222_10⟩
theorem q_222_11 : pQ_222 u_222_11 := ⟨_, _, _, _, (pS_nil), (pV_nil), f_222_11⟩
theorem q_222_12 : pQ_222 u_222_12 := ⟨_, _, _, _, (pS_cons ok_161 (pS_cons ok_187 (pS_cons ok_188 (pS_cons ok_202 (pS_cons ok_203 (pS_cons ok_218 (pS_nil))))))), (pV_cons (List.mem_of_getElem? (i := 17) rfl) (pV_cons (List.mem_of_getElem? (i := 18) rfl) (pV_cons (List.mem_of_getElem? (i := 19) rfl) (pV_cons (List.mem_of_getElem? (i := 20) rfl) (pV_cons (List.mem_of_getElem? (i := 21) rfl) (pV_nil)))))), f_222_12⟩
theorem q_222_13 : pQ_222 u_222_13 := ⟨_, _, _, _, (pS_nil), (pV_cons (List.mem_of_getElem? (i := 6) rfl) (pV_nil)), f_222_13⟩
theorem q_222_14 : pQ_222 u_222_14 := ⟨_, _, _, _, (pS_nil), (pV_cons (List.mem_of_getElem? (i := 11) rfl) (pV_nil)), f_222_14⟩
theorem q_222_15 : pQ_222 u_222_15 := ⟨_, _, _, _, (pS_nil), (pV_cons (List.mem_of_getElem? (i := 6) rfl) (pV_nil)), f_222_15⟩
theorem q_222_16 : pQ_222 u_222_16 := ⟨_, _, _, _, (pS_nil), (pV_cons (List.mem_of_getElem? (i := 11) rfl) (pV_nil)), f_222_16⟩
theorem q_222_17 : pQ_222 u_222_17 := ⟨_, _, _, _, (pS_nil), (pV_cons (List.mem_of_getElem? (i := 22) rfl) (pV_nil)), f_222_17⟩
theorem q_222_18 : pQ_222 u_222_18 := ⟨_, _, _, _, (pS_cons ok_202 (pS_nil)), (pV_cons (List.mem_of_getElem? (i := 23) rfl) (pV_cons (List.mem_of_getElem? (i := 24) rfl) (pV_nil))), f_222_18⟩
theorem q_222_19 : pQ_222 u_222_19 := ⟨_, _, _, _, (pS_cons ok_202 (pS_nil)), (pV_cons (List.mem_of_getElem? (i := 23) rfl) (pV_cons (List.mem_of_getElem? (i := 26) rfl) (pV_nil))), f_222_19⟩
theorem q_222_20 : pQ_222 u_222_20 := ⟨_, _, _, _, (pS_nil), (pV_cons (List.mem_of_getElem? (i := 27) rfl) (pV_nil)), f_222_20⟩
theorem q_222_21 : pQ_222 u_222_21 := ⟨_, _, _, _, (pS_cons ok_114 (pS_nil)), (pV_cons (List.mem_of_getElem? (i := 28) rfl) (pV_nil)), f_222_21⟩
theorem q_222_22 : pQ_222 u_222_22 := ⟨_, _, _, _, (pS_nil), (pV_cons (List.mem_of_getElem? (i := 29) rfl) (pV_nil)), f_222_22⟩
theorem q_222_23 : pQ_222 u_222_23 := ⟨_, _, _, _, (pS_cons ok_114 (pS_cons ok_218 (pS_nil))), (pV_cons (List.mem_of_getElem? (i := 17) rfl) (pV_cons (List.mem_of_getElem? (i := 31) rfl) (pV_nil))), f_222_23⟩
theorem q_222_24 : pQ_222 u_222_24 := ⟨_, _, _, _, (pS_cons ok_114 (pS_cons ok_218 (pS_nil))), (pV_cons (List.mem_of_getElem? (i := 17) rfl) (pV_cons (List.mem_of_getElem? (i := 31) rfl) (pV_nil))), f_222_24⟩
theorem q_222_25 : pQ_222 u_222_25 := ⟨_, _, _, _, (pS_cons ok_114 (pS_cons ok_218 (pS_nil))), (pV_cons (List.mem_of_getElem? (i := 17) rfl) (pV_cons (List.mem_of_getElem? (i := 31) rfl) (pV_nil))), f_222_25⟩
theorem q_222_26 : pQ_222 u_222_26 := ⟨_, _, _, _, (pS_cons ok_114 (pS_cons ok_218 (pS_nil))), (pV_cons (List.mem_of_getElem? (i := 17) rfl) (pV_cons (List.mem_of_getElem? (i := 31) rfl) (pV_nil))), f_222_26⟩
theorem q_222_27 : pQ_222 u_222_27 := ⟨_, _, _, _, (pS_nil), (pV_cons (List.mem_of_getElem? (i := 34) rfl) (pV_nil)), f_222_27⟩
theorem q_222_28 : pQ_222 u_222_28 := ⟨_, _, _, _, (pS_cons ok_161 (pS_cons ok_187 (pS_cons ok_188 (pS_cons ok_202 (pS_cons ok_203 (pS_cons ok_218 (pS_nil))))))), (pV_cons (List.mem_of_getElem? (i := 35) rfl) (pV_cons (List.mem_of_getElem? (i := 36) rfl) (pV_cons (List.mem_of_getElem? (i := 37) rfl) (pV_cons (List.mem_of_getElem? (i := 38) rfl) (pV_cons (List.mem_of_getElem? (i := 39) rfl) (pV_nil)))))), f_222_28⟩
theorem q_222_29 : pQ_222 u_222_29 := ⟨_, _, _, _, (pS_nil), (pV_nil), f_222_29⟩
theorem q_222_30 : pQ_222 u_222_30 := ⟨_, _, _, _, (pS_nil), (pV_cons (List.mem_of_getElem? (i := 22) rfl) (pV_nil)), f_222_30⟩
theorem q_222_31 : pQ_222 u_222_31 := ⟨_, _, _, _, (pS_nil), (pV_cons (List.mem_of_getElem? (i := 27) rfl) (pV_nil)), f_222_31⟩
theorem q_222_32 : pQ_222 u_222_32 := ⟨_, _, _, _, (pS_nil), (pV_cons (List.mem_of_getElem? (i := 22) rfl) (pV_nil)), f_222_32⟩
theorem q_222_33 : pQ_222 u_222_33 := ⟨_, _, _, _, (pS_nil), (pV_cons (List.mem_of_getElem? (i := 27) rfl) (pV_nil)), f_222_33⟩
theorem q_222_34 : pQ_222 u_222_34 := ⟨_, _, _, _, (pS_nil), (pV_nil), f_222_34⟩
theorem q_222_35 : pQ_222 u_222_35 := ⟨_, _, _, _, (pS_nil), (pV_cons (List.mem_of_getElem? (i := 40) rfl) (pV_nil)), f_222_35⟩
theorem q_222_36 : pQ_222 u_222_36 := ⟨_, _, _, _, (pS_cons ok_202 (pS_nil)), (pV_cons (List.mem_of_getElem? (i := 41) rfl) (pV_cons (List.mem_of_getElem? (i := 42) rfl) (pV_nil))), f_222_36⟩
theorem q_222_37 : pQ_222 u_222_37 := ⟨_, _, _, _, (pS_cons ok_202 (pS_nil)), (pV_cons (List.mem_of_getElem? (i := 41) rfl) (pV_cons (List.mem_of_getElem? (i := 44) rfl) (pV_nil))), f_222_37⟩
theorem q_222_38 : pQ_222 u_222_38 := ⟨_, _, _, _, (pS_nil), (pV_cons (List.mem_of_getElem? (i := 45) rfl) (pV_nil)), f_222_38⟩
theorem q_222_39 : pQ_222 u_222_39 := ⟨_, _, _, _, (pS_cons ok_114 (pS_nil)), (pV_cons (List.mem_of_getElem? (i := 46) rfl) (pV_nil)), f_222_39⟩
theorem q_222_40 : pQ_222 u_222_40 := ⟨_, _, _, _, (pS_nil), (pV_cons (List.mem_of_getElem? (i := 47) rfl) (pV_nil)), f_222_40⟩
theorem q_222_41 : pQ_222 u_222_41 := ⟨_, _, _, _, (pS_cons ok_114 (pS_cons ok_218 (pS_nil))), (pV_cons (List.mem_of_getElem? (i := 35) rfl) (pV_cons (List.mem_of_getElem? (i := 49) rfl) (pV_nil))), f_222_41⟩
theorem q_222_42 : pQ_222 u_222_42 := ⟨_, _, _, _, (pS_cons ok_114 (pS_cons ok_218 (pS_nil))), (pV_cons (List.mem_of_getElem? (i := 35) rfl) (pV_cons (List.mem_of_getElem? (i := 49) rfl) (pV_nil))), f_222_42⟩
theorem q_222_43 : pQ_222 u_222_43 := ⟨_, _, _, _, (pS_cons ok_114 (pS_cons ok_218 (pS_nil))), (pV_cons (List.mem_of_getElem? (i := 35) rfl) (pV_cons (List.mem_of_getElem? (i := 49) rfl) (pV_nil))), f_222_43⟩
theorem q_222_44 : pQ_222 u_222_44 := ⟨_, _, _, _, (pS_cons ok_114 (pS_cons ok_218 (pS_nil))), (pV_cons (List.mem_of_getElem? (i := 35) rfl) (pV_cons (List.mem_of_getElem? (i := 49) rfl) (pV_nil))), f_222_44⟩
theorem q_222_45 : pQ_222 u_222_45 := ⟨_, _, _, _, (pS_nil), (pV_cons (List.mem_of_getElem? (i := 52) rfl) (pV_nil)), f_222_45⟩
theorem q_222_46 : pQ_222 u_222_46 := ⟨_, _, _, _, (pS_cons ok_161 (pS_cons ok_187 (pS_cons ok_188 (pS_cons ok_202 (pS_cons ok_203 (pS_cons ok_218 (pS_nil))))))), (pV_cons (List.mem_of_getElem? (i := 53) rfl) (pV_cons (List.mem_of_getElem? (i := 54) rfl) (pV_cons (List.mem_of_getElem? (i := 55) rfl) (pV_cons (List.mem_of_getElem? (i := 56) rfl) (pV_cons (List.mem_of_getElem? (i := 57) rfl) (pV_nil)))))), f_222_46⟩
theorem q_222_47 : pQ_222 u_222_47 := ⟨_, _, _, _, (pS_nil), (pV_cons (List.mem_of_getElem? (i := 58) rfl) (pV_nil)), f_222_47⟩
theorem q_222_48 : pQ_222 u_222_48 := ⟨_, _, _, _, (pS_nil), (pV_cons (List.mem_of_getElem? (i := 40) rfl) (pV_nil)), f_222_48⟩
theorem q_222_49 : pQ_222 u_222_49 := ⟨_, _, _, _, (pS_nil), (pV_cons (List.mem_of_getElem? (i := 45) rfl) (pV_nil)), f_222_49⟩
theorem q_222_50 : pQ_222 u_222_50 := ⟨_, _, _, _, (pS_nil), (pV_cons (List.mem_of_getElem? (i := 40) rfl) (pV_nil)), f_222_50⟩
theorem q_222_51 : pQ_222 u_222_51 := ⟨_, _, _, _, (pS_nil), (pV_cons (List.mem_of_getElem? (i := 45) rfl) (pV_nil)), f_222_51⟩
theorem q_222_52 : pQ_222 u_222_52 := ⟨_, _, _, _, (pS_nil), (pV_cons (List.mem_of_getElem? (i := 59) rfl) (pV_nil)), f_222_52⟩
theorem q_222_53 : pQ_222 u_222_53 := ⟨_, _, _, _, (pS_nil), (pV_cons (List.mem_of_getElem? (i := 60) rfl) (pV_nil)), f_222_53⟩
theorem q_222_54 : pQ_222 u_222_54 := ⟨_, _, _, _, (pS_cons ok_202 (pS_nil)), (pV_cons (List.mem_of_getElem? (i := 61) rfl) (pV_cons (List.mem_of_getElem? (i := 62) rfl) (pV_nil))), f_222_54⟩
theorem q_222_55 : pQ_222 u_222_55 := ⟨_, _, _, _, (pS_cons ok_202 (pS_nil)), (pV_cons (List.mem_of_getElem? (i := 61) rfl) (pV_cons (List.mem_of_getElem? (i := 64) rfl) (pV_nil))), f_222_55⟩
theorem q_222_56 : pQ_222 u_222_56 := ⟨_, _, _, _, (pS_nil), (pV_cons (List.mem_of_getElem? (i := 65) rfl) (pV_nil)), f_222_56⟩
theorem q_222_57 : pQ_222 u_222_57 := ⟨_, _, _, _, (pS_cons ok_114 (pS_nil)), (pV_cons (List.mem_of_getElem? (i := 66) rfl) (pV_nil)), f_222_57⟩
theorem q_222_58 : pQ_222 u_222_58 := ⟨_, _, _, _, (pS_nil), (pV_nil), f_222_58⟩
theorem q_222_59 : pQ_222 u_222_59 := ⟨_, _, _, _, (pS_nil), (pV_nil), f_222_59⟩
theorem q_222_60 : pQ_222 u_222_60 := ⟨_, _, _, _, (pS_nil), (pV_cons (List.mem_of_getElem? (i := 67) rfl) (pV_nil)), f_222_60⟩
theorem q_222_61 : pQ_222 u_222_61 := ⟨_, _, _, _, (pS_cons ok_114 (pS_cons ok_218 (pS_nil))), (pV_cons (List.mem_of_getElem? (i := 53) rfl) (pV_cons (List.mem_of_getElem? (i := 69) rfl) (pV_nil))), f_222_61⟩
theorem q_222_62 : pQ_222 u_222_62 := ⟨_, _, _, _, (pS_cons ok_114 (pS_cons ok_218 (pS_nil))), (pV_cons (List.mem_of_getElem? (i := 53) rfl) (pV_cons (List.mem_of_getElem? (i := 69) rfl) (pV_nil))), f_222_62⟩
theorem q_222_63 : pQ_222 u_222_63 := ⟨_, _, _, _, (pS_cons ok_114 (pS_cons ok_218 (pS_nil))), (pV_cons (List.mem_of_getElem? (i := 53) rfl) (pV_cons (List.mem_of_getElem? (i := 69) rfl) (pV_nil))), f_222_63⟩
theorem q_222_64 : pQ_222 u_222_64 := ⟨_, _, _, _, (pS_cons ok_114 (pS_cons ok_218 (pS_nil))), (pV_cons (List.mem_of_getElem? (i := 53) rfl) (pV_cons (List.mem_of_getElem? (i := 69) rfl) (pV_nil))), f_222_64⟩
theorem q_222_65 : pQ_222 u_222_65 := ⟨_, _, _, _, (pS_nil), (pV_cons (List.mem_of_getElem? (i := 72) rfl) (pV_nil)), f_222_65⟩
theorem q_222_66 : pQ_222 u_222_66 := ⟨_, _, _, _, (pS_cons ok_161 (pS_cons ok_187 (pS_cons ok_188 (pS_cons ok_202 (pS_cons ok_203 (pS_cons ok_218 (pS_nil))))))), (pV_cons (List.mem_of_getElem? (i := 73) rfl) (pV_cons (List.mem_of_getElem? (i := 74) rfl) (pV_cons (List.mem_of_getElem? (i := 75) rfl) (pV_cons (List.mem_of_getElem? (i := 76) rfl) (pV_cons (List.mem_of_getElem? (i := 77) rfl) (pV_nil)))))), f_222_66⟩
theorem q_222_67 : pQ_222 u_222_67 := ⟨_, _, _, _, (pS_nil), (pV_cons (List.mem_of_getElem? (i := 78) rfl) (pV_nil)), f_222_67⟩
theorem q_222_68 : pQ_222 u_222_68 := ⟨_, _, _, _, (pS_nil), (pV_cons (List.mem_of_getElem? (i := 60) rfl) (pV_nil)), f_222_68⟩
theorem q_222_69 : pQ_222 u_222_69 := ⟨_, _, _, _, (pS_nil), (pV_cons (List.mem_of_getElem? (i := 65) rfl) (pV_nil)), f_222_69⟩
theorem q_222_70 : pQ_222 u_222_70 := ⟨_, _, _, _, (pS_nil), (pV_cons (List.mem_of_getElem? (i := 60) rfl) (pV_nil)), f_222_70⟩
theorem q_222_71 : pQ_222 u_222_71 := ⟨_, _, _, _, (pS_nil), (pV_cons (List.mem_of_getElem? (i := 65) rfl) (pV_nil)), f_222_71⟩
theorem q_222_72 : pQ_222 u_222_72 := ⟨_, _, _, _, (pS_nil), (pV_cons (List.mem_of_getElem? (i := 79) rfl) (pV_nil)), f_222_72⟩
theorem q_222_73 : pQ_222 u_222_73 := ⟨_, _, _, _, (pS_nil), (pV_cons (List.mem_of_getElem? (i := 80) rfl) (pV_nil)), f_222_73⟩
theorem q_222_74 : pQ_222 u_222_74 := ⟨_, _, _, _, (pS_cons ok_202 (pS_nil)), (pV_cons (List.mem_of_getElem? (i := 81) rfl) (pV_cons (List.mem_of_getElem? (i := 82) rfl) (pV_nil))), f_222_74⟩
theorem q_222_75 : pQ_222 u_222_75 := ⟨_, _, _, _, (pS_cons ok_202 (pS_nil)), (pV_cons (List.mem_of_getElem? (i := 81) rfl) (pV_cons (List.mem_of_getElem? (i := 84) rfl) (pV_nil))), f_222_75⟩
theorem q_222_76 : pQ_222 u_222_76 := ⟨_, _, _, _, (pS_nil), (pV_cons (List.mem_of_getElem? (i := 85) rfl) (pV_nil)), f_222_76⟩
theorem q_222_77 : pQ_222 u_222_77 := ⟨_, _, _, _, (pS_cons ok_114 (pS_nil)), (pV_cons (List.mem_of_getElem? (i := 86) rfl) (pV_nil)), f_222_77⟩
theorem q_222_78 : pQ_222 u_222_78 := ⟨_, _, _, _, (pS_nil), (pV_cons (List.mem_of_getElem? (i := 87) rfl) (pV_nil)), f_222_78⟩
theorem q_222_79 : pQ_222 u_222_79 := ⟨_, _, _, _, (pS_nil), (pV_cons (List.mem_of_getElem? (i := 88) rfl) (pV_nil)), f_222_79⟩
theorem q_222_80 : pQ_222 u_222_80 := ⟨_, _, _, _, (pS_nil), (pV_cons (List.mem_of_getElem? (i := 89) rfl) (pV_nil)), f_222_80⟩
theorem q_222_81 : pQ_222 u_222_81 := ⟨_, _, _, _, (pS_cons ok_114 (pS_cons ok_218 (pS_nil))), (pV_cons (List.mem_of_getElem? (i := 73) rfl) (pV_cons (List.mem_of_getElem? (i := 91) rfl) (pV_nil))), f_222_81⟩
theorem q_222_82 : pQ_222 u_222_82 := ⟨_, _, _, _, (pS_cons ok_114 (pS_cons ok_218 (pS_nil))), (pV_cons (List.mem_of_getElem? (i := 73) rfl) (pV_cons (List.mem_of_getElem? (i := 91) rfl) (pV_nil))), f_222_82⟩
theorem q_222_83 : pQ_222 u_222_83 := ⟨_, _, _, _, (pS_cons ok_114 (pS_cons ok_218 (pS_nil))), (pV_cons (List.mem_of_getElem? (i := 73) rfl) (pV_cons (List.mem_of_getElem? (i := 91) rfl) (pV_nil))), f_222_83⟩
theorem q_222_84 : pQ_222 u_222_84 := ⟨_, _, _, _, (pS_cons ok_114 (pS_cons ok_218 (pS_nil))), (pV_cons (List.mem_of_getElem? (i := 73) rfl) (pV_cons (List.mem_of_getElem? (i := 91) rfl) (pV_nil))), f_222_84⟩
theorem q_222_85 : pQ_222 u_222_85 := ⟨_, _, _, _, (pS_nil), (pV_cons (List.mem_of_getElem? (i := 94) rfl) (pV_nil)), f_222_85⟩
theorem q_222_86 : pQ_222 u_222_86 := ⟨_, _, _, _, (pS_cons ok_161 (pS_cons ok_187 (pS_cons ok_188 (pS_cons ok_202 (pS_cons ok_203 (pS_cons ok_218 (pS_nil))))))), (pV_cons (List.mem_of_getElem? (i := 95) rfl) (pV_cons (List.mem_of_getElem? (i := 96) rfl) (pV_cons (List.mem_of_getElem? (i := 97) rfl) (pV_cons (List.mem_of_getElem? (i := 98) rfl) (pV_cons (List.mem_of_getElem? (i := 99) rfl) (pV_nil)))))), f_222_86⟩
theorem q_222_87 : pQ_222 u_222_87 := ⟨_, _, _, _, (pS_nil), (pV_nil), f_222_87⟩
theorem q_222_88 : pQ_222 u_222_88 := ⟨_, _, _, _, (pS_nil), (pV_nil), f_222_88⟩
theorem q_222_89 : pQ_222 u_222_89 := ⟨_, _, _, _, (pS_nil), (pV_cons (List.mem_of_getElem? (i := 100) rfl) (pV_nil)), f_222_89⟩
theorem q_222_90 : pQ_222 u_222_90 := ⟨_, _, _, _, (pS_nil), (pV_cons (List.mem_of_getElem? (i := 80) rfl) (pV_nil)), f_222_90⟩
theorem q_222_91 : pQ_222 u_222_91 := ⟨_, _, _, _, (pS_nil), (pV_cons (List.mem_of_getElem? (i := 85) rfl) (pV_nil)), f_222_91⟩
theorem q_222_92 : pQ_222 u_222_92 := ⟨_, _, _, _, (pS_nil), (pV_cons (List.mem_of_getElem? (i := 80) rfl) (pV_nil)), f_222_92⟩
theorem q_222_93 : pQ_222 u_222_93 := ⟨_, _, _, _, (pS_nil), (pV_cons (List.mem_of_getElem? (i := 85) rfl) (pV_nil)), f_222_93⟩
theorem q_222_94 : pQ_222 u_222_94 := ⟨_, _, _, _, (pS_nil), (pV_cons (List.mem_of_getElem? (i := 101) rfl) (pV_nil)), f_222_94⟩
theorem q_222_95 : pQ_222 u_222_95 := ⟨_, _, _, _, (pS_nil), (pV_cons (List.mem_of_getElem? (i := 102) rfl) (pV_nil)), f_222_95⟩
theorem q_222_96 : pQ_222 u_222_96 := ⟨_, _, _, _, (pS_cons ok_202 (pS_nil)), (pV_cons (List.mem_of_getElem? (i := 103) rfl) (pV_cons (List.mem_of_getElem? (i := 104) rfl) (pV_nil))), f_222_96⟩
theorem q_222_97 : pQ_222 u_222_97 := ⟨_, _, _, _, (pS_cons ok_202 (pS_nil)), (pV_cons (List.mem_of_getElem? (i := 103) rfl) (pV_cons (List.mem_of_getElem? (i := 106) rfl) (pV_nil))), f_222_97⟩
theorem q_222_98 : pQ_222 u_222_98 := ⟨_, _, _, _, (pS_nil), (pV_cons (List.mem_of_getElem? (i := 107) rfl) (pV_nil)), f_222_98⟩
theorem q_222_99 : pQ_222 u_222_99 := ⟨_, _, _, _, (pS_cons ok_114 (pS_nil)), (pV_cons (List.mem_of_getElem? (i := 108) rfl) (pV_nil)), f_222_99⟩
theorem q_222_100 : pQ_222 u_222_100 := ⟨_, _, _, _, (pS_nil), (pV_cons (List.mem_of_getElem? (i := 109) rfl) (pV_nil)), f_222_100⟩
theorem q_222_101 : pQ_222 u_222_101 := ⟨_, _, _, _, (pS_nil), (pV_cons (List.mem_of_getElem? (i := 110) rfl) (pV_nil)), f_222_101⟩
theorem q_222_102 : pQ_222 u_222_102 := ⟨_, _, _, _, (pS_nil), (pV_cons (List.mem_of_getElem? (i := 111) rfl) (pV_nil)), f_222_102⟩
theorem q_222_103 : pQ_222 u_222_103 := ⟨_, _, _, _, (pS_cons ok_114 (pS_cons ok_218 (pS_nil))), (pV_cons (List.mem_of_getElem? (i := 95) rfl) (pV_cons (List.mem_of_getElem? (i := 113) rfl) (pV_nil))), f_222_103⟩
theorem q_222_104 : pQ_222 u_222_104 := ⟨_, _, _, _, (pS_cons ok_114 (pS_cons ok_218 (pS_nil))), (pV_cons (List.mem_of_getElem? (i := 95) rfl) (pV_cons (List.mem_of_getElem? (i := 113) rfl) (pV_nil))), f_222_104⟩
theorem q_222_105 : pQ_222 u_222_105 := ⟨_, _, _, _, (pS_cons ok_114 (pS_cons ok_218 (pS_nil))), (pV_cons (List.mem_of_getElem? (i := 95) rfl) (pV_cons (List.mem_of_getElem? (i := 113) rfl) (pV_nil))), f_222_105⟩
theorem q_222_106 : pQ_222 u_222_106 := ⟨_, _, _, _, (pS_cons ok_114 (pS_cons ok_218 (pS_nil))), (pV_cons (List.mem_of_getElem? (i := 95) rfl) (pV_cons (List.mem_of_getElem? (i := 113) rfl) (pV_nil))), f_222_106⟩
theorem q_222_107 : pQ_222 u_222_107 := ⟨_, _, _, _, (pS_nil), (pV_cons (List.mem_of_getElem? (i := 116) rfl) (pV_nil)), f_222_107⟩
theorem q_222_108 : pQ_222 u_222_108 := ⟨_, _, _, _, (pS_cons ok_161 (pS_cons ok_187 (pS_cons ok_188 (pS_cons ok_202 (pS_cons ok_203 (pS_cons ok_218 (pS_nil))))))), (pV_cons (List.mem_of_getElem? (i := 117) rfl) (pV_cons (List.mem_of_getElem? (i := 118) rfl) (pV_cons (List.mem_of_getElem? (i := 119) rfl) (pV_cons (List.mem_of_getElem? (i := 120) rfl) (pV_cons (List.mem_of_getElem? (i := 121) rfl) (pV_nil)))))), f_222_108⟩
theorem q_222_109 : pQ_222 u_222_109 := ⟨_, _, _, _, (pS_nil), (pV_cons (List.mem_of_getElem? (i := 122) rfl) (pV_nil)), f_222_109⟩
theorem q_222_110 : pQ_222 u_222_110 := ⟨_, _, _, _, (pS_nil), (pV_cons (List.mem_of_getElem? (i := 123) rfl) (pV_nil)), f_222_110⟩
theorem q_222_111 : pQ_222 u_222_111 := ⟨_, _, _, _, (pS_nil), (pV_cons (List.mem_of_getElem? (i := 124) rfl) (pV_nil)), f_222_111⟩
theorem q_222_112 : pQ_222 u_222_112 := ⟨_, _, _, _, (pS_nil), (pV_cons (List.mem_of_getElem? (i := 102) rfl) (pV_nil)), f_222_112⟩
theorem q_222_113 : pQ_222 u_222_113 := ⟨_, _, _, _, (pS_nil), (pV_cons (List.mem_of_getElem? (i := 107) rfl) (pV_nil)), f_222_113⟩
theorem q_222_114 : pQ_222 u_222_114 := ⟨_, _, _, _, (pS_nil), (pV_cons (List.mem_of_getElem? (i := 102) rfl) (pV_nil)), f_222_114⟩
theorem q_222_115 : pQ_222 u_222_115 := ⟨_, _, _, _, (pS_nil), (pV_cons (List.mem_of_getElem? (i := 107) rfl) (pV_nil)), f_222_115⟩
theorem q_222_116 : pQ_222 u_222_116 := ⟨_, _, _, _, (pS_nil), (pV_cons (List.mem_of_getElem? (i := 125) rfl) (pV_nil)), f_222_116⟩
theorem q_222_117 : pQ_222 u_222_117 := ⟨_, _, _, _, (pS_nil), (pV_cons (List.mem_of_getElem? (i := 126) rfl) (pV_nil)), f_222_117⟩
theorem q_222_118 : pQ_222 u_222_118 := ⟨_, _, _, _, (pS_cons ok_202 (pS_nil)), (pV_cons (List.mem_of_getElem? (i := 127) rfl) (pV_cons (List.mem_of_getElem? (i := 128) rfl) (pV_nil))), f_222_118⟩
theorem q_222_119 : pQ_222 u_222_119 := ⟨_, _, _, _, (pS_cons ok_202 (pS_nil)), (pV_cons (List.mem_of_getElem? (i := 127) rfl) (pV_cons (List.mem_of_getElem? (i := 130) rfl) (pV_nil))), f_222_119⟩
theorem q_222_120 : pQ_222 u_222_120 := ⟨_, _, _, _, (pS_nil), (pV_cons (List.mem_of_getElem? (i := 131) rfl) (pV_nil)), f_222_120⟩
theorem q_222_121 : pQ_222 u_222_121 := ⟨_, _, _, _, (pS_nil), (pV_cons (List.mem_of_getElem? (i := 132) rfl) (pV_nil)), f_222_121⟩
theorem q_222_122 : pQ_222 u_222_122 := ⟨_, _, _, _, (pS_nil), (pV_nil), f_222_122⟩
theorem q_222_123 : pQ_222 u_222_123 := ⟨_, _, _, _, (pS_nil), (pV_nil), f_222_123⟩
theorem q_222_124 : pQ_222 u_222_124 := ⟨_, _, _, _, (pS_nil), (pV_cons (List.mem_of_getElem? (i := 133) rfl) (pV_nil)), f_222_124⟩
theorem q_222_125 : pQ_222 u_222_125 := ⟨_, _, _, _, (pS_nil), (pV_cons (List.mem_of_getElem? (i := 134) rfl) (pV_nil)), f_222_125⟩
theorem q_222_126 : pQ_222 u_222_126 := ⟨_, _, _, _, (pS_nil), (pV_cons (List.mem_of_getElem? (i := 135) rfl) (pV_nil)), f_222_126⟩
theorem q_222_127 : pQ_222 u_222_127 := ⟨_, _, _, _, (pS_cons ok_114 (pS_cons ok_218 (pS_nil))), (pV_cons (List.mem_of_getElem? (i := 117) rfl) (pV_cons (List.mem_of_getElem? (i := 137) rfl) (pV_nil))), f_222_127⟩
theorem q_222_128 : pQ_222 u_222_128 := ⟨_, _, _, _, (pS_cons ok_114 (pS_cons ok_218 (pS_nil))), (pV_cons (List.mem_of_getElem? (i := 117) rfl) (pV_cons (List.mem_of_getElem? (i := 137) rfl) (pV_nil))), f_222_128⟩
theorem q_222_129 : pQ_222 u_222_129 := ⟨_, _, _, _, (pS_cons ok_114 (pS_cons ok_218 (pS_nil))), (pV_cons (List.mem_of_getElem? (i := 117) rfl) (pV_cons (List.mem_of_getElem? (i := 137) rfl) (pV_nil))), f_222_129⟩
theorem q_222_130 : pQ_222 u_222_130 := ⟨_, _, _, _, (pS_cons ok_114 (pS_cons ok_218 (pS_nil))), (pV_cons (List.mem_of_getElem? (i := 117) rfl) (pV_cons (List.mem_of_getElem? (i := 137) rfl) (pV_nil))), f_222_130⟩
theorem q_222_131 : pQ_222 u_222_131 := ⟨_, _, _, _, (pS_nil), (pV_cons (List.mem_of_getElem? (i := 140) rfl) (pV_nil)), f_222_131⟩
theorem q_222_132 : pQ_222 u_222_132 := ⟨_, _, _, _, (pS_cons ok_179 (pS_cons ok_187 (pS_cons ok_188 (pS_cons ok_221 (pS_nil))))), (pV_cons (List.mem_of_getElem? (i := 141) rfl) (pV_nil)), f_222_132⟩
theorem q_222_133 : pQ_222 u_222_133 := ⟨_, _, _, _, (pS_nil), (pV_cons (List.mem_of_getElem? (i := 142) rfl) (pV_nil)), f_222_133⟩
theorem q_222_134 : pQ_222 u_222_134 := ⟨_, _, _, _, (pS_nil), (pV_cons (List.mem_of_getElem? (i := 143) rfl) (pV_nil)), f_222_134⟩
theorem q_222_135 : pQ_222 u_222_135 := ⟨_, _, _, _, (pS_nil), (pV_cons (List.mem_of_getElem? (i := 144) rfl) (pV_nil)), f_222_135⟩
theorem q_222_136 : pQ_222 u_222_136 := ⟨_, _, _, _, (pS_nil), (pV_cons (List.mem_of_getElem? (i := 126) rfl) (pV_nil)), f_222_136⟩
theorem q_222_137 : pQ_222 u_222_137 := ⟨_, _, _, _, (pS_nil), (pV_cons (List.mem_of_getElem? (i := 131) rfl) (pV_nil)), f_222_137⟩
theorem q_222_138 : pQ_222 u_222_138 := ⟨_, _, _, _, (pS_nil), (pV_cons (List.mem_of_getElem? (i := 126) rfl) (pV_nil)), f_222_138⟩
theorem q_222_139 : pQ_222 u_222_139 := ⟨_, _, _, _, (pS_nil), (pV_cons (List.mem_of_getElem? (i := 131) rfl) (pV_nil)), f_222_139⟩
theorem q_222_140 : pQ_222 u_222_140 := ⟨_, _, _, _, (pS_nil), (pV_cons (List.mem_of_getElem? (i := 145) rfl) (pV_nil)), f_222_140⟩
theorem q_222_141 : pQ_222 u_222_141 := ⟨_, _, _, _, (pS_nil), (pV_cons (List.mem_of_getElem? (i := 146) rfl) (pV_nil)), f_222_141⟩
theorem q_222_142 : pQ_222 u_222_142 := ⟨_, _, _, _, (pS_nil), (pV_cons (List.mem_of_getElem? (i := 147) rfl) (pV_nil)), f_222_142⟩
theorem q_222_143 : pQ_222 u_222_143 := ⟨_, _, _, _, (pS_nil), (pV_cons (List.mem_of_getElem? (i := 148) rfl) (pV_nil)), f_222_143⟩
theorem q_222_144 : pQ_222 u_222_144 := ⟨_, _, _, _, (pS_nil), (pV_cons (List.mem_of_getElem? (i := 149) rfl) (pV_nil)), f_222_144⟩
theorem q_222_145 : pQ_222 u_222_145 := ⟨_, _, _, _, (pS_nil), (pV_cons (List.mem_of_getElem? (i := 150) rfl) (pV_nil)), f_222_145⟩
theorem q_222_146 : pQ_222 u_222_146 := ⟨_, _, _, _, (pS_nil), (pV_cons (List.mem_of_getElem? (i := 151) rfl) (pV_nil)), f_222_146⟩
theorem q_222_147 : pQ_222 u_222_147 := ⟨_, _, _, _, (pS_nil), (pV_nil), f_222_147⟩
theorem q_222_148 : pQ_222 u_222_148 := ⟨_, _, _, _, (pS_nil), (pV_nil), f_222_148⟩
theorem q_222_149 : pQ_222 u_222_149 := ⟨_, _, _, _, (pS_nil), (pV_cons (List.mem_of_getElem? (i := 152) rfl) (pV_nil)), f_222_149⟩
theorem q_222_150 : pQ_222 u_222_150 := ⟨_, _, _, _, (pS_nil), (pV_cons (List.mem_of_getElem? (i := 153) rfl) (pV_nil)), f_222_150⟩
theorem q_222_151 : pQ_222 u_222_151 := ⟨_, _, _, _, (pS_nil), (pV_cons (List.mem_of_getElem? (i := 154) rfl) (pV_nil)), f_222_151⟩
theorem q_222_152 : pQ_222 u_222_152 := ⟨_, _, _, _, (pS_nil), (pV_cons (List.mem_of_getElem? (i := 155) rfl) (pV_nil)), f_222_152⟩
theorem q_222_153 : pQ_222 u_222_153 := ⟨_, _, _, _, (pS_nil), (pV_cons (List.mem_of_getElem? (i := 156) rfl) (pV_nil)), f_222_153⟩
theorem q_222_154 : pQ_222 u_222_154 := ⟨_, _, _, _, (pS_nil), (pV_cons (List.mem_of_getElem? (i := 157) rfl) (pV_nil)), f_222_154⟩
theorem q_222_155 : pQ_222 u_222_155 := ⟨_, _, _, _, (pS_nil), (pV_cons (List.mem_of_getElem? (i := 158) rfl) (pV_nil)), f_222_155⟩
theorem q_222_156 : pQ_222 u_222_156 := ⟨_, _, _, _, (pS_nil), (pV_cons (List.mem_of_getElem? (i := 159) rfl) (pV_nil)), f_222_156⟩
theorem q_222_157 : pQ_222 u_222_157 := ⟨_, _, _, _, (pS_nil), (pV_cons (List.mem_of_getElem? (i := 160) rfl) (pV_nil)), f_222_157⟩
theorem q_222_158 : pQ_222 u_222_158 := ⟨_, _, _, _, (pS_nil), (pV_nil), f_222_158⟩
theorem q_222_159 : pQ_222 u_222_159 := ⟨_, _, _, _, (pS_nil), (pV_nil), f_222_159⟩
theorem q_222_160 : pQ_222 u_222_160 := ⟨_, _, _, _, (pS_nil), (pV_cons (List.mem_of_getElem? (i := 161) rfl) (pV_nil)), f_222_160⟩
theorem q_222_161 : pQ_222 u_222_161 := ⟨_, _, _, _, (pS_nil), (pV_cons (List.mem_of_getElem? (i := 162) rfl) (pV_nil)), f_222_161⟩
theorem q_222_162 : pQ_222 u_222_162 := ⟨_, _, _, _, (pS_nil), (pV_cons (List.mem_of_getElem? (i := 163) rfl) (pV_nil)), f_222_162⟩
theorem q_222_163 : pQ_222 u_222_163 := ⟨_, _, _, _, (pS_nil), (pV_nil), f_222_163⟩
theorem qb_222_0 : ∀ u ∈ [u_222_0, u_222_1, u_222_2, u_222_3, u_222_4, u_222_5, u_222_6, u_222_7, u_222_8, u_222_9], pQ_222 u := pU_cons q_222_0 (pU_cons q_222_1 (pU_cons q_222_2 (pU_cons q_222_3 (pU_cons q_222_4 (pU_cons q_222_5 (pU_cons q_222_6 (pU_cons q_222_7 (pU_cons q_222_8 (pU_cons q_222_9 (pU_nil))))))))))
theorem qb_222_1 : ∀ u ∈ [u_222_10, u_222_11, u_222_12, u_222_13, u_222_14, u_222_15, u_222_16, u_222_17, u_222_18, u_222_19], pQ_222 u := pU_cons q_222_10 (pU_cons q_222_11 (pU_cons q_222_12 (pU_cons q_222_13 (pU_cons q_222_14 (pU_cons q_222_15 (pU_cons q_222_16 (pU_cons q_222_17 (pU_cons q_222_18 (pU_cons q_222_19 (pU_nil))))))))))
theorem qb_222_2 : ∀ u ∈ [u_222_20, u_222_21, u_222_22, u_222_23, u_222_24, u_222_25, u_222_26, u_222_27, u_222_28, u_222_29], pQ_222 u := pU_cons q_222_20 (pU_cons q_222_21 (pU_cons q_222_22 (pU_cons q_222_23 (pU_cons q_222_24 (pU_cons q_222_25 (pU_cons q_222_26 (pU_cons q_222_27 (pU_cons q_222_28 (pU_cons q_222_29 (pU_nil))))))))))
theorem qb_222_3 : ∀ u ∈ [u_222_30, u_222_31, u_222_32, u_222_33, u_222_34, u_222_35, u_222_36, u_222_37, u_222_38, u_222_39], pQ_222 u := pU_cons q_222_30 (pU_cons q_222_31 (pU_cons q_222_32 (pU_cons q_222_33 (pU_cons q_222_34 (pU_cons q_222_35 (pU_cons q_222_36 (pU_cons q_222_37 (pU_cons q_222_38 (pU_cons q_222_39 (pU_nil))))))))))
theorem qb_222_4 : ∀ u ∈ [u_222_40, u_222_41, u_222_42, u_222_43, u_222_44, u_222_45, u_222_46, u_222_47, u_222_48, u_222_49], pQ_222 u := pU_cons q_222_40 (pU_cons q_222_41 (pU_cons q_222_42 (pU_cons q_222_43 (pU_cons q_222_44 (pU_cons q_222_45 (pU_cons q_222_46 (pU_cons q_222_47 (pU_cons q_222_48 (pU_cons q_222_49 (pU_nil))))))))))
theorem qb_222_5 : ∀ u ∈ [u_222_50, u_222_51, u_222_52, u_222_53, u_222_54, u_222_55, u_222_56, u_222_57, u_222_58, u_222_59], pQ_222 u := pU_cons q_222_50 (pU_cons q_222_51 (pU_cons q_222_52 (pU_cons q_222_53 (pU_cons q_222_54 (pU_cons q_222_55 (pU_cons q_222_56 (pU_cons q_222_57 (pU_cons q_222_58 (pU_cons q_222_59 (pU_nil))))))))))
theorem qb_222_6 : ∀ u ∈ [u_222_60, u_222_61, u_222_62, u_222_63, u_222_64, u_222_65, u_222_66, u_222_67, u_222_68, u_222_69], pQ_222 u := pU_cons q_222_60 (pU_cons q_222_61 (pU_cons q_222_62 (pU_cons q_222_63 (pU_cons q_222_64 (pU_cons q_222_65 (pU_cons q_222_66 (pU_cons q_222_67 (pU_cons q_222_68 (pU_cons q_222_69 (pU_nil))))))))))
theorem qb_222_7 : ∀ u ∈ [u_222_70, u_222_71, u_222_72, u_222_73, u_222_74, u_222_75, u_222_76, u_222_77, u_222_78, u_222_79], pQ_222 u := pU_cons q_222_70 (pU_cons q_222_71 (pU_cons q_222_72 (pU_cons q_222_73 (pU_cons q_222_74 (pU_cons q_222_75 (pU_cons q_222_76 (pU_cons q_222_77 (pU_cons q_222_78 (pU_cons q_222_79 (pU_nil))))))))))
theorem qb_222_8 : ∀ u ∈ [u_222_80, u_222_81, u_222_82, u_222_83, u_222_84, u_222_85, u_222_86, u_222_87, u_222_88, u_222_89], pQ_222 u := pU_cons q_222_80 (pU_cons q_222_81 (pU_cons q_222_82 (pU_cons q_222_83 (pU_cons q_222_84 (pU_cons q_222_85 (pU_cons q_222_86 (pU_cons q_222_87 (pU_cons q_222_88 (pU_cons q_222_89 (pU_nil))))))))))
theorem qb_222_9 : ∀ u ∈ [u_222_90, u_222_91, u_222_92, u_222_93, u_222_94, u_222_95, u_222_96, u_222_97, u_222_98, u_222_99], pQ_222 u := pU_cons q_222_90 (pU_cons q_222_91 (pU_cons q_222_92 (pU_cons q_222_93 (pU_cons q_222_94 (pU_cons q_222_95 (pU_cons q_222_96 (pU_cons q_222_97 (pU_cons q_222_98 (pU_cons q_222_99 (pU_nil))))))))))
theorem qb_222_10 : ∀ u ∈ [u_222_100, u_222_101, u_222_102, u_222_103, u_222_104, u_222_105, u_222_106, u_222_107, u_222_108, u_222_109], pQ_222 u := pU_cons q_222_100 (pU_cons q_222_101 (pU_cons q_222_102 (pU_cons q_222_103 (pU_cons q_222_104 (pU_cons q_222_105 (pU_cons q_222_106 (pU_cons q_222_107 (pU_cons q_222_108 (pU_cons q_222_109 (pU_nil))))))))))
theorem qb_222_11 : ∀ u ∈ [u_222_110, u_222_111, u_222_112, u_222_113, u_222_114, u_222_115, u_222_116, u_222_117, u_222_118, u_222_119], pQ_222 u := pU_cons q_222_110 (pU_cons q_222_111 (pU_cons q_222_112 (pU_cons q_222_113 (pU_cons q_222_114 (pU_cons q_222_115 (pU_cons q_222_116 (pU_cons q_222_117 (pU_cons q_222_118 (pU_cons q_222_119 (pU_nil))))))))))
theorem qb_222_12 : ∀ u ∈ [u_222_120, u_222_121, u_222_122, u_222_123, u_222_124, u_222_125, u_222_126, u_222_127, u_222_128, u_222_129], pQ_222 u := pU_cons q_222_120 (pU_cons q_222_121 (pU_cons q_222_122 (pU_cons q_222_123 (pU_cons q_222_124 (pU_cons q_222_125 (pU_cons q_222_126 (pU_cons q_222_127 (pU_cons q_222_128 (pU_cons q_222_129 (pU_nil))))))))))
theorem qb_222_13 : ∀ u ∈ [u_222_130, u_222_131, u_222_132, u_222_133, u_222_134, u_222_135, u_222_136, u_222_137, u_222_138, u_222_139], pQ_222 u := pU_cons q_222_130 (pU_cons q_222_131 (pU_cons q_222_132 (pU_cons q_222_133 (pU_cons q_222_134 (pU_cons q_222_135 (pU_cons q_222_136 (pU_cons q_222_137 (pU_cons q_222_138 (pU_cons q_222_139 (pU_nil))))))))))
theorem qb_222_14 : ∀ u ∈ [u_222_140, u_222_141, u_222_142, u_222_143, u_222_144, u_222_145, u_222_146, u_222_147, u_222_148, u_222_149], pQ_222 u := pU_cons q_222_140 (pU_cons q_222_141 (pU_cons q_222_142 (pU_cons q_222_143 (pU_cons q_222_144 (pU_cons q_222_145 (pU_cons q_222_146 (pU_cons q_222_147 (pU_cons q_222_148 (pU_cons q_222_149 (pU_nil))))))))))
theorem qb_222_15 : ∀ u ∈ [u_222_150, u_222_151, u_222_152, u_222_153, u_222_154, u_222_155, u_222_156, u_222_157, u_222_158, u_222_159], pQ_222 u := pU_cons q_222_150 (pU_cons q_222_151 (pU_cons q_222_152 (pU_cons q_222_153 (pU_cons q_222_154 (pU_cons q_222_155 (pU_cons q_222_156 (pU_cons q_222_157 (pU_cons q_222_158 (pU_cons q_222_159 (pU_nil))))))))))
theorem qb_222_16 : ∀ u ∈ [u_222_160, u_222_161, u_222_162, u_222_163], pQ_222 u := pU_cons q_222_160 (pU_cons q_222_161 (pU_cons q_222_162 (pU_cons q_222_163 (pU_nil))))
theorem ok_222 : sInOk pPT i_222 := sInst3 (M := pm_94) (cus := us_222) pOk pg_94 (by decide +kernel) ⟨_, _, _, _, (pS_nil), (pV_cons (List.mem_of_getElem? (i := 0) rfl) (pV_nil)), e_222⟩ (show ∀ u ∈ us_222, pQ_222 u from (pU_app qb_222_0 (pU_app qb_222_1 (pU_app qb_222_2 (pU_app qb_222_3 (pU_app qb_222_4 (pU_app qb_222_5 (pU_app qb_222_6 (pU_app qb_222_7 (pU_app qb_222_8 (pU_app qb_222_9 (pU_app qb_222_10 (pU_app qb_222_11 (pU_app qb_222_12 (pU_app qb_222_13 (pU_app qb_222_14 (pU_app qb_222_15 qb_222_16)))))))))))))))))
def pQ_223 (u : sCu) : Prop := ∃ (SM : List sIn) (H : gHt) (cu : List sCu) (n : Nat), (∀ I ∈ SM, sInOk pPT I) ∧ (∀ v ∈ cu, v ∈ us_223) ∧ sWhU pPT SM H i_223 (mR pm_91) cu n u = true
theorem q_223_0 : pQ_223 u_223_0 := ⟨_, _, _, _, (pS_cons ok_190 (pS_nil)), (pV_nil), f_223_0⟩
theorem q_223_1 : pQ_223 u_223_1 := ⟨_, _, _, _, (pS_cons ok_114 (pS_cons ok_208 (pS_cons ok_222 (pS_nil)))), (pV_cons (List.mem_of_getElem? (i := 0) rfl) (pV_cons (List.mem_of_getElem? (i := 1) rfl) (pV_nil))), f_223_1⟩
theorem qb_223_0 : ∀ u ∈ [u_223_0, u_223_1], pQ_223 u := pU_cons q_223_0 (pU_cons q_223_1 (pU_nil))
theorem ok_223 : sInOk pPT i_223 := sInst3 (M := pm_91) (cus := us_223) pOk pg_91 (by decide +kernel) ⟨_, _, _, _, (pS_cons ok_222 (pS_nil)), (pV_cons (List.mem_of_getElem? (i := 0) rfl) (pV_cons (List.mem_of_getElem? (i := 1) rfl) (pV_nil))), e_223⟩ (show ∀ u ∈ us_223, pQ_223 u from qb_223_0)
def pQ_224 (u : sCu) : Prop := ∃ (SM : List sIn) (H : gHt) (cu : List sCu) (n : Nat), (∀ I ∈ SM, sInOk pPT I) ∧ (∀ v ∈ cu, v ∈ us_224) ∧ sWhU pPT SM H i_224 (mR pm_94) cu n u = true
theorem q_224_0 : pQ_224 u_224_0 := ⟨_, _, _, _, (pS_cons ok_179 (pS_cons ok_187 (pS_cons ok_188 (pS_cons ok_221 (pS_nil))))), (pV_cons (List.mem_of_getElem? (i := 1) rfl) (pV_nil)), f_224_0⟩
theorem q_224_1 : pQ_224 u_224_1 := ⟨_, _, _, _, (pS_nil), (pV_cons (List.mem_of_getElem? (i := 2) rfl) (pV_nil)), f_224_1⟩
theorem q_224_2 : pQ_224 u_224_2 := ⟨_, _, _, _, (pS_nil), (pV_nil), f_224_2⟩
theorem qb_224_0 : ∀ u ∈ [u_224_0, u_224_1, u_224_2], pQ_224 u := pU_cons q_224_0 (pU_cons q_224_1 (pU_cons q_224_2 (pU_nil)))
theorem ok_224 : sInOk pPT i_224 := sInst3 (M := pm_94) (cus := us_224) pOk pg_94 (by decide +kernel) ⟨_, _, _, _, (pS_nil), (pV_cons (List.mem_of_getElem? (i := 0) rfl) (pV_nil)), e_224⟩ (show ∀ u ∈ us_224, pQ_224 u from qb_224_0)
def pQ_225 (u : sCu) : Prop := ∃ (SM : List sIn) (H : gHt) (cu : List sCu) (n : Nat), (∀ I ∈ SM, sInOk pPT I) ∧ (∀ v ∈ cu, v ∈ us_225) ∧ sWhU pPT SM H i_225 (mR pm_91) cu n u = true
theorem q_225_0 : pQ_225 u_225_0 := ⟨_, _, _, _, (pS_cons ok_190 (pS_nil)), (pV_nil), f_225_0⟩
theorem qb_225_0 : ∀ u ∈ [u_225_0], pQ_225 u := pU_cons q_225_0 (pU_nil)
theorem ok_225 : sInOk pPT i_225 := sInst3 (M := pm_91) (cus := us_225) pOk pg_91 (by decide +kernel) ⟨_, _, _, _, (pS_cons ok_224 (pS_nil)), (pV_cons (List.mem_of_getElem? (i := 0) rfl) (pV_nil)), e_225⟩ (show ∀ u ∈ us_225, pQ_225 u from qb_225_0)
def pQ_226 (u : sCu) : Prop := ∃ (SM : List sIn) (H : gHt) (cu : List sCu) (n : Nat), (∀ I ∈ SM, sInOk pPT I) ∧ (∀ v ∈ cu, v ∈ us_226) ∧ sWhU pPT SM H i_226 (mR pm_92) cu n u = true
theorem q_226_0 : pQ_226 u_226_0 := ⟨_, _, _, _, (pS_cons ok_223 (pS_nil)), (pV_cons (List.mem_of_getElem? (i := 2) rfl) (pV_cons (List.mem_of_getElem? (i := 3) rfl) (pV_nil))), f_226_0⟩
theorem q_226_1 : pQ_226 u_226_1 := ⟨_, _, _, _, (pS_cons ok_225 (pS_nil)), (pV_cons (List.mem_of_getElem? (i := 2) rfl) (pV_nil)), f_226_1⟩
theorem q_226_2 : pQ_226 u_226_2 := ⟨_, _, _, _, (pS_cons ok_192 (pS_nil)), (pV_nil), f_226_2⟩
theorem q_226_3 : pQ_226 u_226_3 := ⟨_, _, _, _, (pS_cons ok_114 (pS_cons ok_212 (pS_cons ok_223 (pS_nil)))), (pV_cons (List.mem_of_getElem? (i := 2) rfl) (pV_cons (List.mem_of_getElem? (i := 3) rfl) (pV_nil))), f_226_3⟩
theorem qb_226_0 : ∀ u ∈ [u_226_0, u_226_1, u_226_2, u_226_3], pQ_226 u := pU_cons q_226_0 (pU_cons q_226_1 (pU_cons q_226_2 (pU_cons q_226_3 (pU_nil))))
theorem ok_226 : sInOk pPT i_226 := sInst3 (M := pm_92) (cus := us_226) pOk pg_92 (by decide +kernel) ⟨_, _, _, _, (pS_cons ok_160 (pS_nil)), (pV_cons (List.mem_of_getElem? (i := 0) rfl) (pV_cons (List.mem_of_getElem? (i := 1) rfl) (pV_nil))), e_226⟩ (show ∀ u ∈ us_226, pQ_226 u from qb_226_0)
theorem ok_227 : sInOk pPT i_227 := sInst3 (M := pm_96) (cus := []) pOk pg_96 (by decide +kernel) ⟨_, _, _, _, (pS_cons ok_114 (pS_cons ok_162 (pS_cons ok_164 (pS_cons ok_173 (pS_cons ok_176 (pS_cons ok_194 (pS_cons ok_215 (pS_cons ok_226 (pS_nil))))))))), pV_nil, e_227⟩ pU_nil
def pQ_228 (u : sCu) : Prop := ∃ (SM : List sIn) (H : gHt) (cu : List sCu) (n : Nat), (∀ I ∈ SM, sInOk pPT I) ∧ (∀ v ∈ cu, v ∈ us_228) ∧ sWhU pPT SM H i_228 (mR pm_97) cu n u = true
theorem q_228_0 : pQ_228 u_228_0 := ⟨_, _, _, _, (pS_cons ok_181 (pS_cons ok_182 (pS_nil))), (pV_nil), f_228_0⟩
theorem q_228_1 : pQ_228 u_228_1 := ⟨_, _, _, _, (pS_cons ok_196 (pS_cons ok_197 (pS_nil))), (pV_cons (List.mem_of_getElem? (i := 2) rfl) (pV_cons (List.mem_of_getElem? (i := 3) rfl) (pV_nil))), f_228_1⟩
theorem q_228_2 : pQ_228 u_228_2 := ⟨_, _, _, _, (pS_cons ok_196 (pS_nil)), (pV_cons (List.mem_of_getElem? (i := 4) rfl) (pV_cons (List.mem_of_getElem? (i := 5) rfl) (pV_nil))), f_228_2⟩
theorem q_228_3 : pQ_228 u_228_3 := ⟨_, _, _, _, (pS_cons ok_196 (pS_nil)), (pV_cons (List.mem_of_getElem? (i := 6) rfl) (pV_cons (List.mem_of_getElem? (i := 7) rfl) (pV_nil))), f_228_3⟩
theorem q_228_4 : pQ_228 u_228_4 := ⟨_, _, _, _, (pS_cons ok_114 (pS_cons ok_227 (pS_nil))), (pV_cons (List.mem_of_getElem? (i := 0) rfl) (pV_cons (List.mem_of_getElem? (i := 1) rfl) (pV_nil))), f_228_4⟩
theorem q_228_5 : pQ_228 u_228_5 := ⟨_, _, _, _, (pS_cons ok_114 (pS_cons ok_227 (pS_nil))), (pV_cons (List.mem_of_getElem? (i := 0) rfl) (pV_cons (List.mem_of_getElem? (i := 1) rfl) (pV_nil))), f_228_5⟩
theorem q_228_6 : pQ_228 u_228_6 := ⟨_, _, _, _, (pS_cons ok_114 (pS_cons ok_227 (pS_nil))), (pV_cons (List.mem_of_getElem? (i := 0) rfl) (pV_cons (List.mem_of_getElem? (i := 1) rfl) (pV_nil))), f_228_6⟩
theorem q_228_7 : pQ_228 u_228_7 := ⟨_, _, _, _, (pS_cons ok_114 (pS_cons ok_227 (pS_nil))), (pV_cons (List.mem_of_getElem? (i := 0) rfl) (pV_cons (List.mem_of_getElem? (i := 1) rfl) (pV_nil))), f_228_7⟩
theorem qb_228_0 : ∀ u ∈ [u_228_0, u_228_1, u_228_2, u_228_3, u_228_4, u_228_5, u_228_6, u_228_7], pQ_228 u := pU_cons q_228_0 (pU_cons q_228_1 (pU_cons q_228_2 (pU_cons q_228_3 (pU_cons q_228_4 (pU_cons q_228_5 (pU_cons q_228_6 (pU_cons q_228_7 (pU_nil))))))))
theorem ok_228 : sInOk pPT i_228 := sInst3 (M := pm_97) (cus := us_228) pOk pg_97 (by decide +kernel) ⟨_, _, _, _, (pS_cons ok_227 (pS_nil)), (pV_cons (List.mem_of_getElem? (i := 0) rfl) (pV_cons (List.mem_of_getElem? (i := 1) rfl) (pV_nil))), e_228⟩ (show ∀ u ∈ us_228, pQ_228 u from qb_228_0)
def pQ_229 (u : sCu) : Prop := ∃ (SM : List sIn) (H : gHt) (cu : List sCu) (n : Nat), (∀ I ∈ SM, sInOk pPT I) ∧ (∀ v ∈ cu, v ∈ us_229) ∧ sWhU pPT SM H i_229 (mR pm_98) cu n u = true
theorem q_229_0 : pQ_229 u_229_0 := ⟨_, _, _, _, (pS_cons ok_184 (pS_cons ok_185 (pS_nil))), (pV_nil), f_229_0⟩
theorem q_229_1 : pQ_229 u_229_1 := ⟨_, _, _, _, (pS_cons ok_199 (pS_cons ok_200 (pS_nil))), (pV_cons (List.mem_of_getElem? (i := 2) rfl) (pV_cons (List.mem_of_getElem? (i := 3) rfl) (pV_nil))), f_229_1⟩
theorem q_229_2 : pQ_229 u_229_2 := ⟨_, _, _, _, (pS_cons ok_199 (pS_nil)), (pV_cons (List.mem_of_getElem? (i := 4) rfl) (pV_cons (List.mem_of_getElem? (i := 5) rfl) (pV_nil))), f_229_2⟩
theorem q_229_3 : pQ_229 u_229_3 := ⟨_, _, _, _, (pS_cons ok_199 (pS_nil)), (pV_cons (List.mem_of_getElem? (i := 6) rfl) (pV_cons (List.mem_of_getElem? (i := 7) rfl) (pV_nil))), f_229_3⟩
theorem q_229_4 : pQ_229 u_229_4 := ⟨_, _, _, _, (pS_cons ok_114 (pS_cons ok_228 (pS_nil))), (pV_cons (List.mem_of_getElem? (i := 0) rfl) (pV_cons (List.mem_of_getElem? (i := 1) rfl) (pV_nil))), f_229_4⟩
theorem q_229_5 : pQ_229 u_229_5 := ⟨_, _, _, _, (pS_cons ok_114 (pS_cons ok_228 (pS_nil))), (pV_cons (List.mem_of_getElem? (i := 0) rfl) (pV_cons (List.mem_of_getElem? (i := 1) rfl) (pV_nil))), f_229_5⟩
theorem q_229_6 : pQ_229 u_229_6 := ⟨_, _, _, _, (pS_cons ok_114 (pS_cons ok_228 (pS_nil))), (pV_cons (List.mem_of_getElem? (i := 0) rfl) (pV_cons (List.mem_of_getElem? (i := 1) rfl) (pV_nil))), f_229_6⟩
theorem q_229_7 : pQ_229 u_229_7 := ⟨_, _, _, _, (pS_cons ok_114 (pS_cons ok_228 (pS_nil))), (pV_cons (List.mem_of_getElem? (i := 0) rfl) (pV_cons (List.mem_of_getElem? (i := 1) rfl) (pV_nil))), f_229_7⟩
theorem qb_229_0 : ∀ u ∈ [u_229_0, u_229_1, u_229_2, u_229_3, u_229_4, u_229_5, u_229_6, u_229_7], pQ_229 u := pU_cons q_229_0 (pU_cons q_229_1 (pU_cons q_229_2 (pU_cons q_229_3 (pU_cons q_229_4 (pU_cons q_229_5 (pU_cons q_229_6 (pU_cons q_229_7 (pU_nil))))))))
theorem ok_229 : sInOk pPT i_229 := sInst3 (M := pm_98) (cus := us_229) pOk pg_98 (by decide +kernel) ⟨_, _, _, _, (pS_cons ok_228 (pS_nil)), (pV_cons (List.mem_of_getElem? (i := 0) rfl) (pV_cons (List.mem_of_getElem? (i := 1) rfl) (pV_nil))), e_229⟩ (show ∀ u ∈ us_229, pQ_229 u from qb_229_0)
theorem ok_230 : sInOk pPT i_230 := sInst3 (M := pm_96) (cus := []) pOk pg_96 (by decide +kernel) ⟨_, _, _, _, (pS_nil), pV_nil, e_230⟩ pU_nil
def pQ_231 (u : sCu) : Prop := ∃ (SM : List sIn) (H : gHt) (cu : List sCu) (n : Nat), (∀ I ∈ SM, sInOk pPT I) ∧ (∀ v ∈ cu, v ∈ us_231) ∧ sWhU pPT SM H i_231 (mR pm_97) cu n u = true
theorem q_231_0 : pQ_231 u_231_0 := ⟨_, _, _, _, (pS_cons ok_181 (pS_cons ok_182 (pS_nil))), (pV_nil), f_231_0⟩
theorem qb_231_0 : ∀ u ∈ [u_231_0], pQ_231 u := pU_cons q_231_0 (pU_nil)
theorem ok_231 : sInOk pPT i_231 := sInst3 (M := pm_97) (cus := us_231) pOk pg_97 (by decide +kernel) ⟨_, _, _, _, (pS_cons ok_230 (pS_nil)), (pV_cons (List.mem_of_getElem? (i := 0) rfl) (pV_nil)), e_231⟩ (show ∀ u ∈ us_231, pQ_231 u from qb_231_0)
def pQ_232 (u : sCu) : Prop := ∃ (SM : List sIn) (H : gHt) (cu : List sCu) (n : Nat), (∀ I ∈ SM, sInOk pPT I) ∧ (∀ v ∈ cu, v ∈ us_232) ∧ sWhU pPT SM H i_232 (mR pm_98) cu n u = true
theorem q_232_0 : pQ_232 u_232_0 := ⟨_, _, _, _, (pS_cons ok_184 (pS_cons ok_185 (pS_nil))), (pV_nil), f_232_0⟩
theorem qb_232_0 : ∀ u ∈ [u_232_0], pQ_232 u := pU_cons q_232_0 (pU_nil)
theorem ok_232 : sInOk pPT i_232 := sInst3 (M := pm_98) (cus := us_232) pOk pg_98 (by decide +kernel) ⟨_, _, _, _, (pS_cons ok_231 (pS_nil)), (pV_cons (List.mem_of_getElem? (i := 0) rfl) (pV_nil)), e_232⟩ (show ∀ u ∈ us_232, pQ_232 u from qb_232_0)
def pQ_233 (u : sCu) : Prop := ∃ (SM : List sIn) (H : gHt) (cu : List sCu) (n : Nat), (∀ I ∈ SM, sInOk pPT I) ∧ (∀ v ∈ cu, v ∈ us_233) ∧ sWhU pPT SM H i_233 (mR pm_94) cu n u = true
theorem q_233_0 : pQ_233 u_233_0 := ⟨_, _, _, _, (pS_cons ok_161 (pS_cons ok_187 (pS_cons ok_188 (pS_cons ok_202 (pS_cons ok_203 (pS_cons ok_229 (pS_nil))))))), (pV_cons (List.mem_of_getElem? (i := 1) rfl) (pV_cons (List.mem_of_getElem? (i := 2) rfl) (pV_cons (List.mem_of_getElem? (i := 3) rfl) (pV_cons (List.mem_of_getElem? (i := 4) rfl) (pV_cons (List.mem_of_getElem? (i := 5) rfl) (pV_nil)))))), f_233_0⟩
theorem q_233_1 : pQ_233 u_233_1 := ⟨_, _, _, _, (pS_nil), (pV_cons (List.mem_of_getElem? (i := 6) rfl) (pV_nil)), f_233_1⟩
theorem q_233_2 : pQ_233 u_233_2 := ⟨_, _, _, _, (pS_cons ok_202 (pS_nil)), (pV_cons (List.mem_of_getElem? (i := 7) rfl) (pV_cons (List.mem_of_getElem? (i := 8) rfl) (pV_nil))), f_233_2⟩
theorem q_233_3 : pQ_233 u_233_3 := ⟨_, _, _, _, (pS_cons ok_202 (pS_nil)), (pV_cons (List.mem_of_getElem? (i := 7) rfl) (pV_cons (List.mem_of_getElem? (i := 10) rfl) (pV_nil))), f_233_3⟩
theorem q_233_4 : pQ_233 u_233_4 := ⟨_, _, _, _, (pS_nil), (pV_cons (List.mem_of_getElem? (i := 11) rfl) (pV_nil)), f_233_4⟩
theorem q_233_5 : pQ_233 u_233_5 := ⟨_, _, _, _, (pS_cons ok_114 (pS_nil)), (pV_cons (List.mem_of_getElem? (i := 12) rfl) (pV_nil)), f_233_5⟩
theorem q_233_6 : pQ_233 u_233_6 := ⟨_, _, _, _, (pS_nil), (pV_nil), f_233_6⟩
theorem q_233_7 : pQ_233 u_233_7 := ⟨_, _, _, _, (pS_cons ok_114 (pS_cons ok_229 (pS_nil))), (pV_cons (List.mem_of_getElem? (i := 1) rfl) (pV_cons (List.mem_of_getElem? (i := 14) rfl) (pV_nil))), f_233_7⟩
theorem q_233_8 : pQ_233 u_233_8 := ⟨_, _, _, _, (pS_cons ok_114 (pS_cons ok_229 (pS_nil))), (pV_cons (List.mem_of_getElem? (i := 1) rfl) (pV_cons (List.mem_of_getElem? (i := 14) rfl) (pV_nil))), f_233_8⟩
theorem q_233_9 : pQ_233 u_233_9 := ⟨_, _, _, _, (pS_cons ok_114 (pS_cons ok_229 (pS_nil))), (pV_cons (List.mem_of_getElem? (i := 1) rfl) (pV_cons (List.mem_of_getElem? (i := 14) rfl) (pV_nil))), f_233_9⟩
theorem q_233_10 : pQ_233 u_233_10 := ⟨_, _, _, _, (pS_cons ok_114 (pS_cons ok_229 (pS_nil))), (pV_cons (List.mem_of_getElem? (i := 1) rfl) (pV_cons (List.mem_of_getElem? (i := 14) rfl) (pV_nil))), f_233_10⟩
theorem q_233_11 : pQ_233 u_233_11 := ⟨_, _, _, _, (pS_nil), (pV_nil), f_233_11⟩
theorem q_233_12 : pQ_233 u_233_12 := ⟨_, _, _, _, (pS_cons ok_161 (pS_cons ok_187 (pS_cons ok_188 (pS_cons ok_202 (pS_cons ok_203 (pS_cons ok_229 (pS_nil))))))), (pV_cons (List.mem_of_getElem? (i := 17) rfl) (pV_cons (List.mem_of_getElem? (i := 18) rfl) (pV_cons (List.mem_of_getElem? (i := 19) rfl) (pV_cons (List.mem_of_getElem? (i := 20) rfl) (pV_cons (List.mem_of_getElem? (i := 21) rfl) (pV_nil)))))), f_233_12⟩
theorem q_233_13 : pQ_233 u_233_13 := ⟨_, _, _, _, (pS_nil), (pV_cons (List.mem_of_getElem? (i := 6) rfl) (pV_nil)), f_233_13⟩
theorem q_233_14 : pQ_233 u_233_14 := ⟨_, _, _, _, (pS_nil), (pV_cons (List.mem_of_getElem? (i := 11) rfl) (pV_nil)), f_233_14⟩
theorem q_233_15 : pQ_233 u_233_15 := ⟨_, _, _, _, (pS_nil), (pV_cons (List.mem_of_getElem? (i := 6) rfl) (pV_nil)), f_233_15⟩
theorem q_233_16 : pQ_233 u_233_16 := ⟨_, _, _, _, (pS_nil), (pV_cons (List.mem_of_getElem? (i := 11) rfl) (pV_nil)), f_233_16⟩
theorem q_233_17 : pQ_233 u_233_17 := ⟨_, _, _, _, (pS_nil), (pV_cons (List.mem_of_getElem? (i := 22) rfl) (pV_nil)), f_233_17⟩
theorem q_233_18 : pQ_233 u_233_18 := ⟨_, _, _, _, (pS_cons ok_202 (pS_nil)), (pV_cons (List.mem_of_getElem? (i := 23) rfl) (pV_cons (List.mem_of_getElem? (i := 24) rfl) (pV_nil))), f_233_18⟩
theorem q_233_19 : pQ_233 u_233_19 := ⟨_, _, _, _, (pS_cons ok_202 (pS_nil)), (pV_cons (List.mem_of_getElem? (i := 23) rfl) (pV_cons (List.mem_of_getElem? (i := 26) rfl) (pV_nil))), f_233_19⟩
theorem q_233_20 : pQ_233 u_233_20 := ⟨_, _, _, _, (pS_nil), (pV_cons (List.mem_of_getElem? (i := 27) rfl) (pV_nil)), f_233_20⟩
theorem q_233_21 : pQ_233 u_233_21 := ⟨_, _, _, _, (pS_cons ok_114 (pS_nil)), (pV_cons (List.mem_of_getElem? (i := 28) rfl) (pV_nil)), f_233_21⟩
theorem q_233_22 : pQ_233 u_233_22 := ⟨_, _, _, _, (pS_nil), (pV_cons (List.mem_of_getElem? (i := 29) rfl) (pV_nil)), f_233_22⟩
theorem q_233_23 : pQ_233 u_233_23 := ⟨_, _, _, _, (pS_cons ok_114 (pS_cons ok_229 (pS_nil))), (pV_cons (List.mem_of_getElem? (i := 17) rfl) (pV_cons (List.mem_of_getElem? (i := 31) rfl) (pV_nil))), f_233_23⟩
theorem q_233_24 : pQ_233 u_233_24 := ⟨_, _, _, _, (pS_cons ok_114 (pS_cons ok_229 (pS_nil))), (pV_cons (List.mem_of_getElem? (i := 17) rfl) (pV_cons (List.mem_of_getElem? (i := 31) rfl) (pV_nil))), f_233_24⟩
theorem q_233_25 : pQ_233 u_233_25 := ⟨_, _, _, _, (pS_cons ok_114 (pS_cons ok_229 (pS_nil))), (pV_cons (List.mem_of_getElem? (i := 17) rfl) (pV_cons (List.mem_of_getElem? (i := 31) rfl) (pV_nil))), f_233_25⟩
theorem q_233_26 : pQ_233 u_233_26 := ⟨_, _, _, _, (pS_cons ok_114 (pS_cons ok_229 (pS_nil))), (pV_cons (List.mem_of_getElem? (i := 17) rfl) (pV_cons (List.mem_of_getElem? (i := 31) rfl) (pV_nil))), f_233_26⟩
theorem q_233_27 : pQ_233 u_233_27 := ⟨_, _, _, _, (pS_nil), (pV_cons (List.mem_of_getElem? (i := 34) rfl) (pV_nil)), f_233_27⟩
theorem q_233_28 : pQ_233 u_233_28 := ⟨_, _, _, _, (pS_cons ok_161 (pS_cons ok_187 (pS_cons ok_188 (pS_cons ok_202 (pS_cons ok_203 (pS_cons ok_229 (pS_nil))))))), (pV_cons (List.mem_of_getElem? (i := 35) rfl) (pV_cons (List.mem_of_getElem? (i := 36) rfl) (pV_cons (List.mem_of_getElem? (i := 37) rfl) (pV_cons (List.mem_of_getElem? (i := 38) rfl) (pV_cons (List.mem_of_getElem? (i := 39) rfl) (pV_nil)))))), f_233_28⟩
theorem q_233_29 : pQ_233 u_233_29 := ⟨_, _, _, _, (pS_nil), (pV_nil), f_233_29⟩
theorem q_233_30 : pQ_233 u_233_30 := ⟨_, _, _, _, (pS_nil), (pV_cons (List.mem_of_getElem? (i := 22) rfl) (pV_nil)), f_233_30⟩
theorem q_233_31 : pQ_233 u_233_31 := ⟨_, _, _, _, (pS_nil), (pV_cons (List.mem_of_getElem? (i := 27) rfl) (pV_nil)), f_233_31⟩
theorem q_233_32 : pQ_233 u_233_32 := ⟨_, _, _, _, (pS_nil), (pV_cons (List.mem_of_getElem? (i := 22) rfl) (pV_nil)), f_233_32⟩
theorem q_233_33 : pQ_233 u_233_33 := ⟨_, _, _, _, (pS_nil), (pV_cons (List.mem_of_getElem? (i := 27) rfl) (pV_nil)), f_233_33⟩
theorem q_233_34 : pQ_233 u_233_34 := ⟨_, _, _, _, (pS_nil), (pV_nil), f_233_34⟩
theorem q_233_35 : pQ_233 u_233_35 := ⟨_, _, _, _, (pS_nil), (pV_cons (List.mem_of_getElem? (i := 40) rfl) (pV_nil)), f_233_35⟩
theorem q_233_36 : pQ_233 u_233_36 := ⟨_, _, _, _, (pS_cons ok_202 (pS_nil)), (pV_cons (List.mem_of_getElem? (i := 41) rfl) (pV_cons (List.mem_of_getElem? (i := 42) rfl) (pV_nil))), f_233_36⟩
theorem q_233_37 : pQ_233 u_233_37 := ⟨_, _, _, _, (pS_cons ok_202 (pS_nil)), (pV_cons (List.mem_of_getElem? (i := 41) rfl) (pV_cons (List.mem_of_getElem? (i := 44) rfl) (pV_nil))), f_233_37⟩
theorem q_233_38 : pQ_233 u_233_38 := ⟨_, _, _, _, (pS_nil), (pV_cons (List.mem_of_getElem? (i := 45) rfl) (pV_nil)), f_233_38⟩
theorem q_233_39 : pQ_233 u_233_39 := ⟨_, _, _, _, (pS_cons ok_114 (pS_nil)), (pV_cons (List.mem_of_getElem? (i := 46) rfl) (pV_nil)), f_233_39⟩
theorem q_233_40 : pQ_233 u_233_40 := ⟨_, _, _, _, (pS_nil), (pV_cons (List.mem_of_getElem? (i := 47) rfl) (pV_nil)), f_233_40⟩
theorem q_233_41 : pQ_233 u_233_41 := ⟨_, _, _, _, (pS_cons ok_114 (pS_cons ok_229 (pS_nil))), (pV_cons (List.mem_of_getElem? (i := 35) rfl) (pV_cons (List.mem_of_getElem? (i := 49) rfl) (pV_nil))), f_233_41⟩
theorem q_233_42 : pQ_233 u_233_42 := ⟨_, _, _, _, (pS_cons ok_114 (pS_cons ok_229 (pS_nil))), (pV_cons (List.mem_of_getElem? (i := 35) rfl) (pV_cons (List.mem_of_getElem? (i := 49) rfl) (pV_nil))), f_233_42⟩
theorem q_233_43 : pQ_233 u_233_43 := ⟨_, _, _, _, (pS_cons ok_114 (pS_cons ok_229 (pS_nil))), (pV_cons (List.mem_of_getElem? (i := 35) rfl) (pV_cons (List.mem_of_getElem? (i := 49) rfl) (pV_nil))), f_233_43⟩
theorem q_233_44 : pQ_233 u_233_44 := ⟨_, _, _, _, (pS_cons ok_114 (pS_cons ok_229 (pS_nil))), (pV_cons (List.mem_of_getElem? (i := 35) rfl) (pV_cons (List.mem_of_getElem? (i := 49) rfl) (pV_nil))), f_233_44⟩
theorem q_233_45 : pQ_233 u_233_45 := ⟨_, _, _, _, (pS_nil), (pV_cons (List.mem_of_getElem? (i := 52) rfl) (pV_nil)), f_233_45⟩
theorem q_233_46 : pQ_233 u_233_46 := ⟨_, _, _, _, (pS_cons ok_161 (pS_cons ok_187 (pS_cons ok_188 (pS_cons ok_202 (pS_cons ok_203 (pS_cons ok_229 (pS_nil))))))), (pV_cons (List.mem_of_getElem? (i := 53) rfl) (pV_cons (List.mem_of_getElem? (i := 54) rfl) (pV_cons (List.mem_of_getElem? (i := 55) rfl) (pV_cons (List.mem_of_getElem? (i := 56) rfl) (pV_cons (List.mem_of_getElem? (i := 57) rfl) (pV_nil)))))), f_233_46⟩
theorem q_233_47 : pQ_233 u_233_47 := ⟨_, _, _, _, (pS_nil), (pV_cons (List.mem_of_getElem? (i := 58) rfl) (pV_nil)), f_233_47⟩
theorem q_233_48 : pQ_233 u_233_48 := ⟨_, _, _, _, (pS_nil), (pV_cons (List.mem_of_getElem? (i := 40) rfl) (pV_nil)), f_233_48⟩
theorem q_233_49 : pQ_233 u_233_49 := ⟨_, _, _, _, (pS_nil), (pV_cons (List.mem_of_getElem? (i := 45) rfl) (pV_nil)), f_233_49⟩
theorem q_233_50 : pQ_233 u_233_50 := ⟨_, _, _, _, (pS_nil), (pV_cons (List.mem_of_getElem? (i := 40) rfl) (pV_nil)), f_233_50⟩
theorem q_233_51 : pQ_233 u_233_51 := ⟨_, _, _, _, (pS_nil), (pV_cons (List.mem_of_getElem? (i := 45) rfl) (pV_nil)), f_233_51⟩
theorem q_233_52 : pQ_233 u_233_52 := ⟨_, _, _, _, (pS_nil), (pV_cons (List.mem_of_getElem? (i := 59) rfl) (pV_nil)), f_233_52⟩
theorem q_233_53 : pQ_233 u_233_53 := ⟨_, _, _, _, (pS_nil), (pV_cons (List.mem_of_getElem? (i := 60) rfl) (pV_nil)), f_233_53⟩
theorem q_233_54 : pQ_233 u_233_54 := ⟨_, _, _, _, (pS_cons ok_202 (pS_nil)), (pV_cons (List.mem_of_getElem? (i := 61) rfl) (pV_cons (List.mem_of_getElem? (i := 62) rfl) (pV_nil))), f_233_54⟩
theorem q_233_55 : pQ_233 u_233_55 := ⟨_, _, _, _, (pS_cons ok_202 (pS_nil)), (pV_cons (List.mem_of_getElem? (i := 61) rfl) (pV_cons (List.mem_of_getElem? (i := 64) rfl) (pV_nil))), f_233_55⟩
theorem q_233_56 : pQ_233 u_233_56 := ⟨_, _, _, _, (pS_nil), (pV_cons (List.mem_of_getElem? (i := 65) rfl) (pV_nil)), f_233_56⟩
theorem q_233_57 : pQ_233 u_233_57 := ⟨_, _, _, _, (pS_cons ok_114 (pS_nil)), (pV_cons (List.mem_of_getElem? (i := 66) rfl) (pV_nil)), f_233_57⟩
theorem q_233_58 : pQ_233 u_233_58 := ⟨_, _, _, _, (pS_nil), (pV_nil), f_233_58⟩
theorem q_233_59 : pQ_233 u_233_59 := ⟨_, _, _, _, (pS_nil), (pV_nil), f_233_59⟩
theorem q_233_60 : pQ_233 u_233_60 := ⟨_, _, _, _, (pS_nil), (pV_cons (List.mem_of_getElem? (i := 67) rfl) (pV_nil)), f_233_60⟩
theorem q_233_61 : pQ_233 u_233_61 := ⟨_, _, _, _, (pS_cons ok_114 (pS_cons ok_229 (pS_nil))), (pV_cons (List.mem_of_getElem? (i := 53) rfl) (pV_cons (List.mem_of_getElem? (i := 69) rfl) (pV_nil))), f_233_61⟩
theorem q_233_62 : pQ_233 u_233_62 := ⟨_, _, _, _, (pS_cons ok_114 (pS_cons ok_229 (pS_nil))), (pV_cons (List.mem_of_getElem? (i := 53) rfl) (pV_cons (List.mem_of_getElem? (i := 69) rfl) (pV_nil))), f_233_62⟩
theorem q_233_63 : pQ_233 u_233_63 := ⟨_, _, _, _, (pS_cons ok_114 (pS_cons ok_229 (pS_nil))), (pV_cons (List.mem_of_getElem? (i := 53) rfl) (pV_cons (List.mem_of_getElem? (i := 69) rfl) (pV_nil))), f_233_63⟩
theorem q_233_64 : pQ_233 u_233_64 := ⟨_, _, _, _, (pS_cons ok_114 (pS_cons ok_229 (pS_nil))), (pV_cons (List.mem_of_getElem? (i := 53) rfl) (pV_cons (List.mem_of_getElem? (i := 69) rfl) (pV_nil))), f_233_64⟩
theorem q_233_65 : pQ_233 u_233_65 := ⟨_, _, _, _, (pS_nil), (pV_cons (List.mem_of_getElem? (i := 72) rfl) (pV_nil)), f_233_65⟩
theorem q_233_66 : pQ_233 u_233_66 := ⟨_, _, _, _, (pS_cons ok_161 (pS_cons ok_187 (pS_cons ok_188 (pS_cons ok_202 (pS_cons ok_203 (pS_cons ok_229 (pS_nil))))))), (pV_cons (List.mem_of_getElem? (i := 73) rfl) (pV_cons (List.mem_of_getElem? (i := 74) rfl) (pV_cons (List.mem_of_getElem? (i := 75) rfl) (pV_cons (List.mem_of_getElem? (i := 76) rfl) (pV_cons (List.mem_of_getElem? (i := 77) rfl) (pV_nil)))))), f_233_66⟩
theorem q_233_67 : pQ_233 u_233_67 := ⟨_, _, _, _, (pS_nil), (pV_cons (List.mem_of_getElem? (i := 78) rfl) (pV_nil)), f_233_67⟩
theorem q_233_68 : pQ_233 u_233_68 := ⟨_, _, _, _, (pS_nil), (pV_cons (List.mem_of_getElem? (i := 60) rfl) (pV_nil)), f_233_68⟩
theorem q_233_69 : pQ_233 u_233_69 := ⟨_, _, _, _, (pS_nil), (pV_cons (List.mem_of_getElem? (i := 65) rfl) (pV_nil)), f_233_69⟩
theorem q_233_70 : pQ_233 u_233_70 := ⟨_, _, _, _, (pS_nil), (pV_cons (List.mem_of_getElem? (i := 60) rfl) (pV_nil)), f_233_70⟩
theorem q_233_71 : pQ_233 u_233_71 := ⟨_, _, _, _, (pS_nil), (pV_cons (List.mem_of_getElem? (i := 65) rfl) (pV_nil)), f_233_71⟩
theorem q_233_72 : pQ_233 u_233_72 := ⟨_, _, _, _, (pS_nil), (pV_cons (List.mem_of_getElem? (i := 79) rfl) (pV_nil)), f_233_72⟩
theorem q_233_73 : pQ_233 u_233_73 := ⟨_, _, _, _, (pS_nil), (pV_cons (List.mem_of_getElem? (i := 80) rfl) (pV_nil)), f_233_73⟩
theorem q_233_74 : pQ_233 u_233_74 := ⟨_, _, _, _, (pS_cons ok_202 (pS_nil)), (pV_cons (List.mem_of_getElem? (i := 81) rfl) (pV_cons (List.mem_of_getElem? (i := 82) rfl) (pV_nil))), f_233_74⟩
theorem q_233_75 : pQ_233 u_233_75 := ⟨_, _, _, _, (pS_cons ok_202 (pS_nil)), (pV_cons (List.mem_of_getElem? (i := 81) rfl) (pV_cons (List.mem_of_getElem? (i := 84) rfl) (pV_nil))), f_233_75⟩
theorem q_233_76 : pQ_233 u_233_76 := ⟨_, _, _, _, (pS_nil), (pV_cons (List.mem_of_getElem? (i := 85) rfl) (pV_nil)), f_233_76⟩
theorem q_233_77 : pQ_233 u_233_77 := ⟨_, _, _, _, (pS_cons ok_114 (pS_nil)), (pV_cons (List.mem_of_getElem? (i := 86) rfl) (pV_nil)), f_233_77⟩
theorem q_233_78 : pQ_233 u_233_78 := ⟨_, _, _, _, (pS_nil), (pV_cons (List.mem_of_getElem? (i := 87) rfl) (pV_nil)), f_233_78⟩
theorem q_233_79 : pQ_233 u_233_79 := ⟨_, _, _, _, (pS_nil), (pV_cons (List.mem_of_getElem? (i := 88) rfl) (pV_nil)), f_233_79⟩
theorem q_233_80 : pQ_233 u_233_80 := ⟨_, _, _, _, (pS_nil), (pV_cons (List.mem_of_getElem? (i := 89) rfl) (pV_nil)), f_233_80⟩
theorem q_233_81 : pQ_233 u_233_81 := ⟨_, _, _, _, (pS_cons ok_114 (pS_cons ok_229 (pS_nil))), (pV_cons (List.mem_of_getElem? (i := 73) rfl) (pV_cons (List.mem_of_getElem? (i := 91) rfl) (pV_nil))), f_233_81⟩
theorem q_233_82 : pQ_233 u_233_82 := ⟨_, _, _, _, (pS_cons ok_114 (pS_cons ok_229 (pS_nil))), (pV_cons (List.mem_of_getElem? (i := 73) rfl) (pV_cons (List.mem_of_getElem? (i := 91) rfl) (pV_nil))), f_233_82⟩
theorem q_233_83 : pQ_233 u_233_83 := ⟨_, _, _, _, (pS_cons ok_114 (pS_cons ok_229 (pS_nil))), (pV_cons (List.mem_of_getElem? (i := 73) rfl) (pV_cons (List.mem_of_getElem? (i := 91) rfl) (pV_nil))), f_233_83⟩
theorem q_233_84 : pQ_233 u_233_84 := ⟨_, _, _, _, (pS_cons ok_114 (pS_cons ok_229 (pS_nil))), (pV_cons (List.mem_of_getElem? (i := 73) rfl) (pV_cons (List.mem_of_getElem? (i := 91) rfl) (pV_nil))), f_233_84⟩
theorem q_233_85 : pQ_233 u_233_85 := ⟨_, _, _, _, (pS_nil), (pV_cons (List.mem_of_getElem? (i := 94) rfl) (pV_nil)), f_233_85⟩
theorem q_233_86 : pQ_233 u_233_86 := ⟨_, _, _, _, (pS_cons ok_161 (pS_cons ok_187 (pS_cons ok_188 (pS_cons ok_202 (pS_cons ok_203 (pS_cons ok_229 (pS_nil))))))), (pV_cons (List.mem_of_getElem? (i := 95) rfl) (pV_cons (List.mem_of_getElem? (i := 96) rfl) (pV_cons (List.mem_of_getElem? (i := 97) rfl) (pV_cons (List.mem_of_getElem? (i := 98) rfl) (pV_cons (List.mem_of_getElem? (i := 99) rfl) (pV_nil)))))), f_233_86⟩
theorem q_233_87 : pQ_233 u_233_87 := ⟨_, _, _, _, (pS_nil), (pV_nil), f_233_87⟩
theorem q_233_88 : pQ_233 u_233_88 := ⟨_, _, _, _, (pS_nil), (pV_nil), f_233_88⟩
theorem q_233_89 : pQ_233 u_233_89 := ⟨_, _, _, _, (pS_nil), (pV_cons (List.mem_of_getElem? (i := 100) rfl) (pV_nil)), f_233_89⟩
theorem q_233_90 : pQ_233 u_233_90 := ⟨_, _, _, _, (pS_nil), (pV_cons (List.mem_of_getElem? (i := 80) rfl) (pV_nil)), f_233_90⟩
theorem q_233_91 : pQ_233 u_233_91 := ⟨_, _, _, _, (pS_nil), (pV_cons (List.mem_of_getElem? (i := 85) rfl) (pV_nil)), f_233_91⟩
theorem q_233_92 : pQ_233 u_233_92 := ⟨_, _, _, _, (pS_nil), (pV_cons (List.mem_of_getElem? (i := 80) rfl) (pV_nil)), f_233_92⟩
theorem q_233_93 : pQ_233 u_233_93 := ⟨_, _, _, _, (pS_nil), (pV_cons (List.mem_of_getElem? (i := 85) rfl) (pV_nil)), f_233_93⟩
theorem q_233_94 : pQ_233 u_233_94 := ⟨_, _, _, _, (pS_nil), (pV_cons (List.mem_of_getElem? (i := 101) rfl) (pV_nil)), f_233_94⟩
theorem q_233_95 : pQ_233 u_233_95 := ⟨_, _, _, _, (pS_nil), (pV_cons (List.mem_of_getElem? (i := 102) rfl) (pV_nil)), f_233_95⟩
theorem q_233_96 : pQ_233 u_233_96 := ⟨_, _, _, _, (pS_cons ok_202 (pS_nil)), (pV_cons (List.mem_of_getElem? (i := 103) rfl) (pV_cons (List.mem_of_getElem? (i := 104) rfl) (pV_nil))), f_233_96⟩
theorem q_233_97 : pQ_233 u_233_97 := ⟨_, _, _, _, (pS_cons ok_202 (pS_nil)), (pV_cons (List.mem_of_getElem? (i := 103) rfl) (pV_cons (List.mem_of_getElem? (i := 106) rfl) (pV_nil))), f_233_97⟩
theorem q_233_98 : pQ_233 u_233_98 := ⟨_, _, _, _, (pS_nil), (pV_cons (List.mem_of_getElem? (i := 107) rfl) (pV_nil)), f_233_98⟩
theorem q_233_99 : pQ_233 u_233_99 := ⟨_, _, _, _, (pS_cons ok_114 (pS_nil)), (pV_cons (List.mem_of_getElem? (i := 108) rfl) (pV_nil)), f_233_99⟩
theorem q_233_100 : pQ_233 u_233_100 := ⟨_, _, _, _, (pS_nil), (pV_cons (List.mem_of_getElem? (i := 109) rfl) (pV_nil)), f_233_100⟩
theorem q_233_101 : pQ_233 u_233_101 := ⟨_, _, _, _, (pS_nil), (pV_cons (List.mem_of_getElem? (i := 110) rfl) (pV_nil)), f_233_101⟩
theorem q_233_102 : pQ_233 u_233_102 := ⟨_, _, _, _, (pS_nil), (pV_cons (List.mem_of_getElem? (i := 111) rfl) (pV_nil)), f_233_102⟩
theorem q_233_103 : pQ_233 u_233_103 := ⟨_, _, _, _, (pS_cons ok_114 (pS_cons ok_229 (pS_nil))), (pV_cons (List.mem_of_getElem? (i := 95) rfl) (pV_cons (List.mem_of_getElem? (i := 113) rfl) (pV_nil))), f_233_103⟩
theorem q_233_104 : pQ_233 u_233_104 := ⟨_, _, _, _, (pS_cons ok_114 (pS_cons ok_229 (pS_nil))), (pV_cons (List.mem_of_getElem? (i := 95) rfl) (pV_cons (List.mem_of_getElem? (i := 113) rfl) (pV_nil))), f_233_104⟩
theorem q_233_105 : pQ_233 u_233_105 := ⟨_, _, _, _, (pS_cons ok_114 (pS_cons ok_229 (pS_nil))), (pV_cons (List.mem_of_getElem? (i := 95) rfl) (pV_cons (List.mem_of_getElem? (i := 113) rfl) (pV_nil))), f_233_105⟩
theorem q_233_106 : pQ_233 u_233_106 := ⟨_, _, _, _, (pS_cons ok_114 (pS_cons ok_229 (pS_nil))), (pV_cons (List.mem_of_getElem? (i := 95) rfl) (pV_cons (List.mem_of_getElem? (i := 113) rfl) (pV_nil))), f_233_106⟩
theorem q_233_107 : pQ_233 u_233_107 := ⟨_, _, _, _, (pS_nil), (pV_cons (List.mem_of_getElem? (i := 116) rfl) (pV_nil)), f_233_107⟩
theorem q_233_108 : pQ_233 u_233_108 := ⟨_, _, _, _, (pS_cons ok_161 (pS_cons ok_187 (pS_cons ok_188 (pS_cons ok_202 (pS_cons ok_203 (pS_cons ok_229 (pS_nil))))))), (pV_cons (List.mem_of_getElem? (i := 117) rfl) (pV_cons (List.mem_of_getElem? (i := 118) rfl) (pV_cons (List.mem_of_getElem? (i := 119) rfl) (pV_cons (List.mem_of_getElem? (i := 120) rfl) (pV_cons (List.mem_of_getElem? (i := 121) rfl) (pV_nil)))))), f_233_108⟩
theorem q_233_109 : pQ_233 u_233_109 := ⟨_, _, _, _, (pS_nil), (pV_cons (List.mem_of_getElem? (i := 122) rfl) (pV_nil)), f_233_109⟩
theorem q_233_110 : pQ_233 u_233_110 := ⟨_, _, _, _, (pS_nil), (pV_cons (List.mem_of_getElem? (i := 123) rfl) (pV_nil)), f_233_110⟩
theorem q_233_111 : pQ_233 u_233_111 := ⟨_, _, _, _, (pS_nil), (pV_cons (List.mem_of_getElem? (i := 124) rfl) (pV_nil)), f_233_111⟩
theorem q_233_112 : pQ_233 u_233_112 := ⟨_, _, _, _, (pS_nil), (pV_cons (List.mem_of_getElem? (i := 102) rfl) (pV_nil)), f_233_112⟩
theorem q_233_113 : pQ_233 u_233_113 := ⟨_, _, _, _, (pS_nil), (pV_cons (List.mem_of_getElem? (i := 107) rfl) (pV_nil)), f_233_113⟩
theorem q_233_114 : pQ_233 u_233_114 := ⟨_, _, _, _, (pS_nil), (pV_cons (List.mem_of_getElem? (i := 102) rfl) (pV_nil)), f_233_114⟩
theorem q_233_115 : pQ_233 u_233_115 := ⟨_, _, _, _, (pS_nil), (pV_cons (List.mem_of_getElem? (i := 107) rfl) (pV_nil)), f_233_115⟩
theorem q_233_116 : pQ_233 u_233_116 := ⟨_, _, _, _, (pS_nil), (pV_cons (List.mem_of_getElem? (i := 125) rfl) (pV_nil)), f_233_116⟩
theorem q_233_117 : pQ_233 u_233_117 := ⟨_, _, _, _, (pS_nil), (pV_cons (List.mem_of_getElem? (i := 126) rfl) (pV_nil)), f_233_117⟩
theorem q_233_118 : pQ_233 u_233_118 := ⟨_, _, _, _, (pS_cons ok_202 (pS_nil)), (pV_cons (List.mem_of_getElem? (i := 127) rfl) (pV_cons (List.mem_of_getElem? (i := 128) rfl) (pV_nil))), f_233_118⟩
theorem q_233_119 : pQ_233 u_233_119 := ⟨_, _, _, _, (pS_cons ok_202 (pS_nil)), (pV_cons (List.mem_of_getElem? (i := 127) rfl) (pV_cons (List.mem_of_getElem? (i := 130) rfl) (pV_nil))), f_233_119⟩
theorem q_233_120 : pQ_233 u_233_120 := ⟨_, _, _, _, (pS_nil), (pV_cons (List.mem_of_getElem? (i := 131) rfl) (pV_nil)), f_233_120⟩
theorem q_233_121 : pQ_233 u_233_121 := ⟨_, _, _, _, (pS_nil), (pV_cons (List.mem_of_getElem? (i := 132) rfl) (pV_nil)), f_233_121⟩
theorem q_233_122 : pQ_233 u_233_122 := ⟨_, _, _, _, (pS_nil), (pV_nil), f_233_122⟩
theorem q_233_123 : pQ_233 u_233_123 := ⟨_, _, _, _, (pS_nil), (pV_nil), f_233_123⟩
theorem q_233_124 : pQ_233 u_233_124 := ⟨_, _, _, _, (pS_nil), (pV_cons (List.mem_of_getElem? (i := 133) rfl) (pV_nil)), f_233_124⟩
theorem q_233_125 : pQ_233 u_233_125 := ⟨_, _, _, _, (pS_nil), (pV_cons (List.mem_of_getElem? (i := 134) rfl) (pV_nil)), f_233_125⟩
theorem q_233_126 : pQ_233 u_233_126 := ⟨_, _, _, _, (pS_nil), (pV_cons (List.mem_of_getElem? (i := 135) rfl) (pV_nil)), f_233_126⟩
theorem q_233_127 : pQ_233 u_233_127 := ⟨_, _, _, _, (pS_cons ok_114 (pS_cons ok_229 (pS_nil))), (pV_cons (List.mem_of_getElem? (i := 117) rfl) (pV_cons (List.mem_of_getElem? (i := 137) rfl) (pV_nil))), f_233_127⟩
theorem q_233_128 : pQ_233 u_233_128 := ⟨_, _, _, _, (pS_cons ok_114 (pS_cons ok_229 (pS_nil))), (pV_cons (List.mem_of_getElem? (i := 117) rfl) (pV_cons (List.mem_of_getElem? (i := 137) rfl) (pV_nil))), f_233_128⟩
theorem q_233_129 : pQ_233 u_233_129 := ⟨_, _, _, _, (pS_cons ok_114 (pS_cons ok_229 (pS_nil))), (pV_cons (List.mem_of_getElem? (i := 117) rfl) (pV_cons (List.mem_of_getElem? (i := 137) rfl) (pV_nil))), f_233_129⟩
theorem q_233_130 : pQ_233 u_233_130 := ⟨_, _, _, _, (pS_cons ok_114 (pS_cons ok_229 (pS_nil))), (pV_cons (List.mem_of_getElem? (i := 117) rfl) (pV_cons (List.mem_of_getElem? (i := 137) rfl) (pV_nil))), f_233_130⟩
theorem q_233_131 : pQ_233 u_233_131 := ⟨_, _, _, _, (pS_nil), (pV_cons (List.mem_of_getElem? (i := 140) rfl) (pV_nil)), f_233_131⟩
theorem q_233_132 : pQ_233 u_233_132 := ⟨_, _, _, _, (pS_cons ok_179 (pS_cons ok_187 (pS_cons ok_188 (pS_cons ok_232 (pS_nil))))), (pV_cons (List.mem_of_getElem? (i := 141) rfl) (pV_nil)), f_233_132⟩
theorem q_233_133 : pQ_233 u_233_133 := ⟨_, _, _, _, (pS_nil), (pV_cons (List.mem_of_getElem? (i := 142) rfl) (pV_nil)), f_233_133⟩
theorem q_233_134 : pQ_233 u_233_134 := ⟨_, _, _, _, (pS_nil), (pV_cons (List.mem_of_getElem? (i := 143) rfl) (pV_nil)), f_233_134⟩
theorem q_233_135 : pQ_233 u_233_135 := ⟨_, _, _, _, (pS_nil), (pV_cons (List.mem_of_getElem? (i := 144) rfl) (pV_nil)), f_233_135⟩
theorem q_233_136 : pQ_233 u_233_136 := ⟨_, _, _, _, (pS_nil), (pV_cons (List.mem_of_getElem? (i := 126) rfl) (pV_nil)), f_233_136⟩
theorem q_233_137 : pQ_233 u_233_137 := ⟨_, _, _, _, (pS_nil), (pV_cons (List.mem_of_getElem? (i := 131) rfl) (pV_nil)), f_233_137⟩
theorem q_233_138 : pQ_233 u_233_138 := ⟨_, _, _, _, (pS_nil), (pV_cons (List.mem_of_getElem? (i := 126) rfl) (pV_nil)), f_233_138⟩
theorem q_233_139 : pQ_233 u_233_139 := ⟨_, _, _, _, (pS_nil), (pV_cons (List.mem_of_getElem? (i := 131) rfl) (pV_nil)), f_233_139⟩
theorem q_233_140 : pQ_233 u_233_140 := ⟨_, _, _, _, (pS_nil), (pV_cons (List.mem_of_getElem? (i := 145) rfl) (pV_nil)), f_233_140⟩
theorem q_233_141 : pQ_233 u_233_141 := ⟨_, _, _, _, (pS_nil), (pV_cons (List.mem_of_getElem? (i := 146) rfl) (pV_nil)), f_233_141⟩
theorem q_233_142 : pQ_233 u_233_142 := ⟨_, _, _, _, (pS_nil), (pV_cons (List.mem_of_getElem? (i := 147) rfl) (pV_nil)), f_233_142⟩
theorem q_233_143 : pQ_233 u_233_143 := ⟨_, _, _, _, (pS_nil), (pV_cons (List.mem_of_getElem? (i := 148) rfl) (pV_nil)), f_233_143⟩
theorem q_233_144 : pQ_233 u_233_144 := ⟨_, _, _, _, (pS_nil), (pV_cons (List.mem_of_getElem? (i := 149) rfl) (pV_nil)), f_233_144⟩
theorem q_233_145 : pQ_233 u_233_145 := ⟨_, _, _, _, (pS_nil), (pV_cons (List.mem_of_getElem? (i := 150) rfl) (pV_nil)), f_233_145⟩
theorem q_233_146 : pQ_233 u_233_146 := ⟨_, _, _, _, (pS_nil), (pV_cons (List.mem_of_getElem? (i := 151) rfl) (pV_nil)), f_233_146⟩
theorem q_233_147 : pQ_233 u_233_147 := ⟨_, _, _, _, (pS_nil), (pV_nil), f_233_147⟩
theorem q_233_148 : pQ_233 u_233_148 := ⟨_, _, _, _, (pS_nil), (pV_nil), f_233_148⟩
theorem q_233_149 : pQ_233 u_233_149 := ⟨_, _, _, _, (pS_nil), (pV_cons (List.mem_of_getElem? (i := 152) rfl) (pV_nil)), f_233_149⟩
theorem q_233_150 : pQ_233 u_233_150 := ⟨_, _, _, _, (pS_nil), (pV_cons (List.mem_of_getElem? (i := 153) rfl) (pV_nil)), f_233_150⟩
theorem q_233_151 : pQ_233 u_233_151 := ⟨_, _, _, _, (pS_nil), (pV_cons (List.mem_of_getElem? (i := 154) rfl) (pV_nil)), f_233_151⟩
theorem q_233_152 : pQ_233 u_233_152 := ⟨_, _, _, _, (pS_nil), (pV_cons (List.mem_of_getElem? (i := 155) rfl) (pV_nil)), f_233_152⟩
theorem q_233_153 : pQ_233 u_233_153 := ⟨_, _, _, _, (pS_nil), (pV_cons (List.mem_of_getElem? (i := 156) rfl) (pV_nil)), f_233_153⟩
theorem q_233_154 : pQ_233 u_233_154 := ⟨_, _, _, _, (pS_nil), (pV_cons (List.mem_of_getElem? (i := 157) rfl) (pV_nil)), f_233_154⟩
theorem q_233_155 : pQ_233 u_233_155 := ⟨_, _, _, _, (pS_nil), (pV_cons (List.mem_of_getElem? (i := 158) rfl) (pV_nil)), f_233_155⟩
theorem q_233_156 : pQ_233 u_233_156 := ⟨_, _, _, _, (pS_nil), (pV_cons (List.mem_of_getElem? (i := 159) rfl) (pV_nil)), f_233_156⟩
theorem q_233_157 : pQ_233 u_233_157 := ⟨_, _, _, _, (pS_nil), (pV_cons (List.mem_of_getElem? (i := 160) rfl) (pV_nil)), f_233_157⟩
theorem q_233_158 : pQ_233 u_233_158 := ⟨_, _, _, _, (pS_nil), (pV_nil), f_233_158⟩
theorem q_233_159 : pQ_233 u_233_159 := ⟨_, _, _, _, (pS_nil), (pV_nil), f_233_159⟩
theorem q_233_160 : pQ_233 u_233_160 := ⟨_, _, _, _, (pS_nil), (pV_cons (List.mem_of_getElem? (i := 161) rfl) (pV_nil)), f_233_160⟩
theorem q_233_161 : pQ_233 u_233_161 := ⟨_, _, _, _, (pS_nil), (pV_cons (List.mem_of_getElem? (i := 162) rfl) (pV_nil)), f_233_161⟩
theorem q_233_162 : pQ_233 u_233_162 := ⟨_, _, _, _, (pS_nil), (pV_cons (List.mem_of_getElem? (i := 163) rfl) (pV_nil)), f_233_162⟩
theorem q_233_163 : pQ_233 u_233_163 := ⟨_, _, _, _, (pS_nil), (pV_nil), f_233_163⟩
theorem qb_233_0 : ∀ u ∈ [u_233_0, u_233_1, u_233_2, u_233_3, u_233_4, u_233_5, u_233_6, u_233_7, u_233_8, u_233_9], pQ_233 u := pU_cons q_233_0 (pU_cons q_233_1 (pU_cons q_233_2 (pU_cons q_233_3 (pU_cons q_233_4 (pU_cons q_233_5 (pU_cons q_233_6 (pU_cons q_233_7 (pU_cons q_233_8 (pU_cons q_233_9 (pU_nil))))))))))
theorem qb_233_1 : ∀ u ∈ [u_233_10, u_233_11, u_233_12, u_233_13, u_233_14, u_233_15, u_233_16, u_233_17, u_233_18, u_233_19], pQ_233 u := pU_cons q_233_10 (pU_cons q_233_11 (pU_cons q_233_12 (pU_cons q_233_13 (pU_cons q_233_14 (pU_cons q_233_15 (pU_cons q_233_16 (pU_cons q_233_17 (pU_cons q_233_18 (pU_cons q_233_19 (pU_nil))))))))))
theorem qb_233_2 : ∀ u ∈ [u_233_20, u_233_21, u_233_22, u_233_23, u_233_24, u_233_25, u_233_26, u_233_27, u_233_28, u_233_29], pQ_233 u := pU_cons q_233_20 (pU_cons q_233_21 (pU_cons q_233_22 (pU_cons q_233_23 (pU_cons q_233_24 (pU_cons q_233_25 (pU_cons q_233_26 (pU_cons q_233_27 (pU_cons q_233_28 (pU_cons q_233_29 (pU_nil))))))))))
theorem qb_233_3 : ∀ u ∈ [u_233_30, u_233_31, u_233_32, u_233_33, u_233_34, u_233_35, u_233_36, u_233_37, u_233_38, u_233_39], pQ_233 u := pU_cons q_233_30 (pU_cons q_233_31 (pU_cons q_233_32 (pU_cons q_233_33 (pU_cons q_233_34 (pU_cons q_233_35 (pU_cons q_233_36 (pU_cons q_233_37 (pU_cons q_233_38 (pU_cons q_233_39 (pU_nil))))))))))
theorem qb_233_4 : ∀ u ∈ [u_233_40, u_233_41, u_233_42, u_233_43, u_233_44, u_233_45, u_233_46, u_233_47, u_233_48, u_233_49], pQ_233 u := pU_cons q_233_40 (pU_cons q_233_41 (pU_cons q_233_42 (pU_cons q_233_43 (pU_cons q_233_44 (pU_cons q_233_45 (pU_cons q_233_46 (pU_cons q_233_47 (pU_cons q_233_48 (pU_cons q_233_49 (pU_nil))))))))))
theorem qb_233_5 : ∀ u ∈ [u_233_50, u_233_51, u_233_52, u_233_53, u_233_54, u_233_55, u_233_56, u_233_57, u_233_58, u_233_59], pQ_233 u := pU_cons q_233_50 (pU_cons q_233_51 (pU_cons q_233_52 (pU_cons q_233_53 (pU_cons q_233_54 (pU_cons q_233_55 (pU_cons q_233_56 (pU_cons q_233_57 (pU_cons q_233_58 (pU_cons q_233_59 (pU_nil))))))))))
theorem qb_233_6 : ∀ u ∈ [u_233_60, u_233_61, u_233_62, u_233_63, u_233_64, u_233_65, u_233_66, u_233_67, u_233_68, u_233_69], pQ_233 u := pU_cons q_233_60 (pU_cons q_233_61 (pU_cons q_233_62 (pU_cons q_233_63 (pU_cons q_233_64 (pU_cons q_233_65 (pU_cons q_233_66 (pU_cons q_233_67 (pU_cons q_233_68 (pU_cons q_233_69 (pU_nil))))))))))
theorem qb_233_7 : ∀ u ∈ [u_233_70, u_233_71, u_233_72, u_233_73, u_233_74, u_233_75, u_233_76, u_233_77, u_233_78, u_233_79], pQ_233 u := pU_cons q_233_70 (pU_cons q_233_71 (pU_cons q_233_72 (pU_cons q_233_73 (pU_cons q_233_74 (pU_cons q_233_75 (pU_cons q_233_76 (pU_cons q_233_77 (pU_cons q_233_78 (pU_cons q_233_79 (pU_nil))))))))))
theorem qb_233_8 : ∀ u ∈ [u_233_80, u_233_81, u_233_82, u_233_83, u_233_84, u_233_85, u_233_86, u_233_87, u_233_88, u_233_89], pQ_233 u := pU_cons q_233_80 (pU_cons q_233_81 (pU_cons q_233_82 (pU_cons q_233_83 (pU_cons q_233_84 (pU_cons q_233_85 (pU_cons q_233_86 (pU_cons q_233_87 (pU_cons q_233_88 (pU_cons q_233_89 (pU_nil))))))))))
theorem qb_233_9 : ∀ u ∈ [u_233_90, u_233_91, u_233_92, u_233_93, u_233_94, u_233_95, u_233_96, u_233_97, u_233_98, u_233_99], pQ_233 u := pU_cons q_233_90 (pU_cons q_233_91 (pU_cons q_233_92 (pU_cons q_233_93 (pU_cons q_233_94 (pU_cons q_233_95 (pU_cons q_233_96 (pU_cons q_233_97 (pU_cons q_233_98 (pU_cons q_233_99 (pU_nil))))))))))
theorem qb_233_10 : ∀ u ∈ [u_233_100, u_233_101, u_233_102, u_233_103, u_233_104, u_233_105, u_233_106, u_233_107, u_233_108, u_233_109], pQ_233 u := pU_cons q_233_100 (pU_cons q_233_101 (pU_cons q_233_102 (pU_cons q_233_103 (pU_cons q_233_104 (pU_cons q_233_105 (pU_cons q_233_106 (pU_cons q_233_107 (pU_cons q_233_108 (pU_cons q_233_109 (pU_nil))))))))))
theorem qb_233_11 : ∀ u ∈ [u_233_110, u_233_111, u_233_112, u_233_113, u_233_114, u_233_115, u_233_116, u_233_117, u_233_118, u_233_119], pQ_233 u := pU_cons q_233_110 (pU_cons q_233_111 (pU_cons q_233_112 (pU_cons q_233_113 (pU_cons q_233_114 (pU_cons q_233_115 (pU_cons q_233_116 (pU_cons q_233_117 (pU_cons q_233_118 (pU_cons q_233_119 (pU_nil))))))))))
theorem qb_233_12 : ∀ u ∈ [u_233_120, u_233_121, u_233_122, u_233_123, u_233_124, u_233_125, u_233_126, u_233_127, u_233_128, u_233_129], pQ_233 u := pU_cons q_233_120 (pU_cons q_233_121 (pU_cons q_233_122 (pU_cons q_233_123 (pU_cons q_233_124 (pU_cons q_233_125 (pU_cons q_233_126 (pU_cons q_233_127 (pU_cons q_233_128 (pU_cons q_233_129 (pU_nil))))))))))
theorem qb_233_13 : ∀ u ∈ [u_233_130, u_233_131, u_233_132, u_233_133, u_233_134, u_233_135, u_233_136, u_233_137, u_233_138, u_233_139], pQ_233 u := pU_cons q_233_130 (pU_cons q_233_131 (pU_cons q_233_132 (pU_cons q_233_133 (pU_cons q_233_134 (pU_cons q_233_135 (pU_cons q_233_136 (pU_cons q_233_137 (pU_cons q_233_138 (pU_cons q_233_139 (pU_nil))))))))))
theorem qb_233_14 : ∀ u ∈ [u_233_140, u_233_141, u_233_142, u_233_143, u_233_144, u_233_145, u_233_146, u_233_147, u_233_148, u_233_149], pQ_233 u := pU_cons q_233_140 (pU_cons q_233_141 (pU_cons q_233_142 (pU_cons q_233_143 (pU_cons q_233_144 (pU_cons q_233_145 (pU_cons q_233_146 (pU_cons q_233_147 (pU_cons q_233_148 (pU_cons q_233_149 (pU_nil))))))))))
theorem qb_233_15 : ∀ u ∈ [u_233_150, u_233_151, u_233_152, u_233_153, u_233_154, u_233_155, u_233_156, u_233_157, u_233_158, u_233_159], pQ_233 u := pU_cons q_233_150 (pU_cons q_233_151 (pU_cons q_233_152 (pU_cons q_233_153 (pU_cons q_233_154 (pU_cons q_233_155 (pU_cons q_233_156 (pU_cons q_233_157 (pU_cons q_233_158 (pU_cons q_233_159 (pU_nil))))))))))
theorem qb_233_16 : ∀ u ∈ [u_233_160, u_233_161, u_233_162, u_233_163], pQ_233 u := pU_cons q_233_160 (pU_cons q_233_161 (pU_cons q_233_162 (pU_cons q_233_163 (pU_nil))))
theorem ok_233 : sInOk pPT i_233 := sInst3 (M := pm_94) (cus := us_233) pOk pg_94 (by decide +kernel) ⟨_, _, _, _, (pS_nil), (pV_cons (List.mem_of_getElem? (i := 0) rfl) (pV_nil)), e_233⟩ (show ∀ u ∈ us_233, pQ_233 u from (pU_app qb_233_0 (pU_app qb_233_1 (pU_app qb_233_2 (pU_app qb_233_3 (pU_app qb_233_4 (pU_app qb_233_5 (pU_app qb_233_6 (pU_app qb_233_7 (pU_app qb_233_8 (pU_app qb_233_9 (pU_app qb_233_10 (pU_app qb_233_11 (pU_app qb_233_12 (pU_app qb_233_13 (pU_app qb_233_14 (pU_app qb_233_15 qb_233_16)))))))))))))))))
def pQ_234 (u : sCu) : Prop := ∃ (SM : List sIn) (H : gHt) (cu : List sCu) (n : Nat), (∀ I ∈ SM, sInOk pPT I) ∧ (∀ v ∈ cu, v ∈ us_234) ∧ sWhU pPT SM H i_234 (mR pm_91) cu n u = true
theorem q_234_0 : pQ_234 u_234_0 := ⟨_, _, _, _, (pS_cons ok_190 (pS_nil)), (pV_nil), f_234_0⟩
theorem q_234_1 : pQ_234 u_234_1 := ⟨_, _, _, _, (pS_cons ok_114 (pS_cons ok_208 (pS_cons ok_233 (pS_nil)))), (pV_cons (List.mem_of_getElem? (i := 0) rfl) (pV_cons (List.mem_of_getElem? (i := 1) rfl) (pV_nil))), f_234_1⟩
theorem qb_234_0 : ∀ u ∈ [u_234_0, u_234_1], pQ_234 u := pU_cons q_234_0 (pU_cons q_234_1 (pU_nil))
theorem ok_234 : sInOk pPT i_234 := sInst3 (M := pm_91) (cus := us_234) pOk pg_91 (by decide +kernel) ⟨_, _, _, _, (pS_cons ok_233 (pS_nil)), (pV_cons (List.mem_of_getElem? (i := 0) rfl) (pV_cons (List.mem_of_getElem? (i := 1) rfl) (pV_nil))), e_234⟩ (show ∀ u ∈ us_234, pQ_234 u from qb_234_0)
def pQ_235 (u : sCu) : Prop := ∃ (SM : List sIn) (H : gHt) (cu : List sCu) (n : Nat), (∀ I ∈ SM, sInOk pPT I) ∧ (∀ v ∈ cu, v ∈ us_235) ∧ sWhU pPT SM H i_235 (mR pm_94) cu n u = true
theorem q_235_0 : pQ_235 u_235_0 := ⟨_, _, _, _, (pS_cons ok_179 (pS_cons ok_187 (pS_cons ok_188 (pS_cons ok_232 (pS_nil))))), (pV_cons (List.mem_of_getElem? (i := 1) rfl) (pV_nil)), f_235_0⟩
theorem q_235_1 : pQ_235 u_235_1 := ⟨_, _, _, _, (pS_nil), (pV_cons (List.mem_of_getElem? (i := 2) rfl) (pV_nil)), f_235_1⟩
theorem q_235_2 : pQ_235 u_235_2 := ⟨_, _, _, _, (pS_nil), (pV_nil), f_235_2⟩
theorem qb_235_0 : ∀ u ∈ [u_235_0, u_235_1, u_235_2], pQ_235 u := pU_cons q_235_0 (pU_cons q_235_1 (pU_cons q_235_2 (pU_nil)))
theorem ok_235 : sInOk pPT i_235 := sInst3 (M := pm_94) (cus := us_235) pOk pg_94 (by decide +kernel) ⟨_, _, _, _, (pS_nil), (pV_cons (List.mem_of_getElem? (i := 0) rfl) (pV_nil)), e_235⟩ (show ∀ u ∈ us_235, pQ_235 u from qb_235_0)
def pQ_236 (u : sCu) : Prop := ∃ (SM : List sIn) (H : gHt) (cu : List sCu) (n : Nat), (∀ I ∈ SM, sInOk pPT I) ∧ (∀ v ∈ cu, v ∈ us_236) ∧ sWhU pPT SM H i_236 (mR pm_91) cu n u = true
theorem q_236_0 : pQ_236 u_236_0 := ⟨_, _, _, _, (pS_cons ok_190 (pS_nil)), (pV_nil), f_236_0⟩
theorem qb_236_0 : ∀ u ∈ [u_236_0], pQ_236 u := pU_cons q_236_0 (pU_nil)
theorem ok_236 : sInOk pPT i_236 := sInst3 (M := pm_91) (cus := us_236) pOk pg_91 (by decide +kernel) ⟨_, _, _, _, (pS_cons ok_235 (pS_nil)), (pV_cons (List.mem_of_getElem? (i := 0) rfl) (pV_nil)), e_236⟩ (show ∀ u ∈ us_236, pQ_236 u from qb_236_0)
def pQ_237 (u : sCu) : Prop := ∃ (SM : List sIn) (H : gHt) (cu : List sCu) (n : Nat), (∀ I ∈ SM, sInOk pPT I) ∧ (∀ v ∈ cu, v ∈ us_237) ∧ sWhU pPT SM H i_237 (mR pm_92) cu n u = true
theorem q_237_0 : pQ_237 u_237_0 := ⟨_, _, _, _, (pS_cons ok_234 (pS_nil)), (pV_cons (List.mem_of_getElem? (i := 2) rfl) (pV_cons (List.mem_of_getElem? (i := 3) rfl) (pV_nil))), f_237_0⟩
theorem q_237_1 : pQ_237 u_237_1 := ⟨_, _, _, _, (pS_cons ok_236 (pS_nil)), (pV_cons (List.mem_of_getElem? (i := 2) rfl) (pV_nil)), f_237_1⟩
theorem q_237_2 : pQ_237 u_237_2 := ⟨_, _, _, _, (pS_cons ok_192 (pS_nil)), (pV_nil), f_237_2⟩
theorem q_237_3 : pQ_237 u_237_3 := ⟨_, _, _, _, (pS_cons ok_114 (pS_cons ok_212 (pS_cons ok_234 (pS_nil)))), (pV_cons (List.mem_of_getElem? (i := 2) rfl) (pV_cons (List.mem_of_getElem? (i := 3) rfl) (pV_nil))), f_237_3⟩
theorem qb_237_0 : ∀ u ∈ [u_237_0, u_237_1, u_237_2, u_237_3], pQ_237 u := pU_cons q_237_0 (pU_cons q_237_1 (pU_cons q_237_2 (pU_cons q_237_3 (pU_nil))))
theorem ok_237 : sInOk pPT i_237 := sInst3 (M := pm_92) (cus := us_237) pOk pg_92 (by decide +kernel) ⟨_, _, _, _, (pS_cons ok_160 (pS_nil)), (pV_cons (List.mem_of_getElem? (i := 0) rfl) (pV_cons (List.mem_of_getElem? (i := 1) rfl) (pV_nil))), e_237⟩ (show ∀ u ∈ us_237, pQ_237 u from qb_237_0)
theorem ok_238 : sInOk pPT i_238 := sInst3 (M := pm_96) (cus := []) pOk pg_96 (by decide +kernel) ⟨_, _, _, _, (pS_cons ok_114 (pS_cons ok_162 (pS_cons ok_164 (pS_cons ok_173 (pS_cons ok_175 (pS_cons ok_194 (pS_cons ok_215 (pS_cons ok_237 (pS_nil))))))))), pV_nil, e_238⟩ pU_nil
def pQ_239 (u : sCu) : Prop := ∃ (SM : List sIn) (H : gHt) (cu : List sCu) (n : Nat), (∀ I ∈ SM, sInOk pPT I) ∧ (∀ v ∈ cu, v ∈ us_239) ∧ sWhU pPT SM H i_239 (mR pm_97) cu n u = true
theorem q_239_0 : pQ_239 u_239_0 := ⟨_, _, _, _, (pS_cons ok_181 (pS_cons ok_182 (pS_nil))), (pV_nil), f_239_0⟩
theorem q_239_1 : pQ_239 u_239_1 := ⟨_, _, _, _, (pS_cons ok_196 (pS_cons ok_197 (pS_nil))), (pV_cons (List.mem_of_getElem? (i := 2) rfl) (pV_cons (List.mem_of_getElem? (i := 3) rfl) (pV_nil))), f_239_1⟩
theorem q_239_2 : pQ_239 u_239_2 := ⟨_, _, _, _, (pS_cons ok_196 (pS_nil)), (pV_cons (List.mem_of_getElem? (i := 4) rfl) (pV_cons (List.mem_of_getElem? (i := 5) rfl) (pV_nil))), f_239_2⟩
theorem q_239_3 : pQ_239 u_239_3 := ⟨_, _, _, _, (pS_cons ok_196 (pS_nil)), (pV_cons (List.mem_of_getElem? (i := 6) rfl) (pV_cons (List.mem_of_getElem? (i := 7) rfl) (pV_nil))), f_239_3⟩
theorem q_239_4 : pQ_239 u_239_4 := ⟨_, _, _, _, (pS_cons ok_114 (pS_cons ok_238 (pS_nil))), (pV_cons (List.mem_of_getElem? (i := 0) rfl) (pV_cons (List.mem_of_getElem? (i := 1) rfl) (pV_nil))), f_239_4⟩
theorem q_239_5 : pQ_239 u_239_5 := ⟨_, _, _, _, (pS_cons ok_114 (pS_cons ok_238 (pS_nil))), (pV_cons (List.mem_of_getElem? (i := 0) rfl) (pV_cons (List.mem_of_getElem? (i := 1) rfl) (pV_nil))), f_239_5⟩
theorem q_239_6 : pQ_239 u_239_6 := ⟨_, _, _, _, (pS_cons ok_114 (pS_cons ok_238 (pS_nil))), (pV_cons (List.mem_of_getElem? (i := 0) rfl) (pV_cons (List.mem_of_getElem? (i := 1) rfl) (pV_nil))), f_239_6⟩
theorem q_239_7 : pQ_239 u_239_7 := ⟨_, _, _, _, (pS_cons ok_114 (pS_cons ok_238 (pS_nil))), (pV_cons (List.mem_of_getElem? (i := 0) rfl) (pV_cons (List.mem_of_getElem? (i := 1) rfl) (pV_nil))), f_239_7⟩
theorem qb_239_0 : ∀ u ∈ [u_239_0, u_239_1, u_239_2, u_239_3, u_239_4, u_239_5, u_239_6, u_239_7], pQ_239 u := pU_cons q_239_0 (pU_cons q_239_1 (pU_cons q_239_2 (pU_cons q_239_3 (pU_cons q_239_4 (pU_cons q_239_5 (pU_cons q_239_6 (pU_cons q_239_7 (pU_nil))))))))
theorem ok_239 : sInOk pPT i_239 := sInst3 (M := pm_97) (cus := us_239) pOk pg_97 (by decide +kernel) ⟨_, _, _, _, (pS_cons ok_238 (pS_nil)), (pV_cons (List.mem_of_getElem? (i := 0) rfl) (pV_cons (List.mem_of_getElem? (i := 1) rfl) (pV_nil))), e_239⟩ (show ∀ u ∈ us_239, pQ_239 u from qb_239_0)
def pQ_240 (u : sCu) : Prop := ∃ (SM : List sIn) (H : gHt) (cu : List sCu) (n : Nat), (∀ I ∈ SM, sInOk pPT I) ∧ (∀ v ∈ cu, v ∈ us_240) ∧ sWhU pPT SM H i_240 (mR pm_98) cu n u = true
theorem q_240_0 : pQ_240 u_240_0 := ⟨_, _, _, _, (pS_cons ok_184 (pS_cons ok_185 (pS_nil))), (pV_nil), f_240_0⟩
theorem q_240_1 : pQ_240 u_240_1 := ⟨_, _, _, _, (pS_cons ok_199 (pS_cons ok_200 (pS_nil))), (pV_cons (List.mem_of_getElem? (i := 2) rfl) (pV_cons (List.mem_of_getElem? (i := 3) rfl) (pV_nil))), f_240_1⟩
theorem q_240_2 : pQ_240 u_240_2 := ⟨_, _, _, _, (pS_cons ok_199 (pS_nil)), (pV_cons (List.mem_of_getElem? (i := 4) rfl) (pV_cons (List.mem_of_getElem? (i := 5) rfl) (pV_nil))), f_240_2⟩
theorem q_240_3 : pQ_240 u_240_3 := ⟨_, _, _, _, (pS_cons ok_199 (pS_nil)), (pV_cons (List.mem_of_getElem? (i := 6) rfl) (pV_cons (List.mem_of_getElem? (i := 7) rfl) (pV_nil))), f_240_3⟩
theorem q_240_4 : pQ_240 u_240_4 := ⟨_, _, _, _, (pS_cons ok_114 (pS_cons ok_239 (pS_nil))), (pV_cons (List.mem_of_getElem? (i := 0) rfl) (pV_cons (List.mem_of_getElem? (i := 1) rfl) (pV_nil))), f_240_4⟩
theorem q_240_5 : pQ_240 u_240_5 := ⟨_, _, _, _, (pS_cons ok_114 (pS_cons ok_239 (pS_nil))), (pV_cons (List.mem_of_getElem? (i := 0) rfl) (pV_cons (List.mem_of_getElem? (i := 1) rfl) (pV_nil))), f_240_5⟩
theorem q_240_6 : pQ_240 u_240_6 := ⟨_, _, _, _, (pS_cons ok_114 (pS_cons ok_239 (pS_nil))), (pV_cons (List.mem_of_getElem? (i := 0) rfl) (pV_cons (List.mem_of_getElem? (i := 1) rfl) (pV_nil))), f_240_6⟩
theorem q_240_7 : pQ_240 u_240_7 := ⟨_, _, _, _, (pS_cons ok_114 (pS_cons ok_239 (pS_nil))), (pV_cons (List.mem_of_getElem? (i := 0) rfl) (pV_cons (List.mem_of_getElem? (i := 1) rfl) (pV_nil))), f_240_7⟩
theorem qb_240_0 : ∀ u ∈ [u_240_0, u_240_1, u_240_2, u_240_3, u_240_4, u_240_5, u_240_6, u_240_7], pQ_240 u := pU_cons q_240_0 (pU_cons q_240_1 (pU_cons q_240_2 (pU_cons q_240_3 (pU_cons q_240_4 (pU_cons q_240_5 (pU_cons q_240_6 (pU_cons q_240_7 (pU_nil))))))))
theorem ok_240 : sInOk pPT i_240 := sInst3 (M := pm_98) (cus := us_240) pOk pg_98 (by decide +kernel) ⟨_, _, _, _, (pS_cons ok_239 (pS_nil)), (pV_cons (List.mem_of_getElem? (i := 0) rfl) (pV_cons (List.mem_of_getElem? (i := 1) rfl) (pV_nil))), e_240⟩ (show ∀ u ∈ us_240, pQ_240 u from qb_240_0)
theorem ok_241 : sInOk pPT i_241 := sInst3 (M := pm_96) (cus := []) pOk pg_96 (by decide +kernel) ⟨_, _, _, _, (pS_nil), pV_nil, e_241⟩ pU_nil
def pQ_242 (u : sCu) : Prop := ∃ (SM : List sIn) (H : gHt) (cu : List sCu) (n : Nat), (∀ I ∈ SM, sInOk pPT I) ∧ (∀ v ∈ cu, v ∈ us_242) ∧ sWhU pPT SM H i_242 (mR pm_97) cu n u = true
theorem q_242_0 : pQ_242 u_242_0 := ⟨_, _, _, _, (pS_cons ok_181 (pS_cons ok_182 (pS_nil))), (pV_nil), f_242_0⟩
theorem qb_242_0 : ∀ u ∈ [u_242_0], pQ_242 u := pU_cons q_242_0 (pU_nil)
theorem ok_242 : sInOk pPT i_242 := sInst3 (M := pm_97) (cus := us_242) pOk pg_97 (by decide +kernel) ⟨_, _, _, _, (pS_cons ok_241 (pS_nil)), (pV_cons (List.mem_of_getElem? (i := 0) rfl) (pV_nil)), e_242⟩ (show ∀ u ∈ us_242, pQ_242 u from qb_242_0)
def pQ_243 (u : sCu) : Prop := ∃ (SM : List sIn) (H : gHt) (cu : List sCu) (n : Nat), (∀ I ∈ SM, sInOk pPT I) ∧ (∀ v ∈ cu, v ∈ us_243) ∧ sWhU pPT SM H i_243 (mR pm_98) cu n u = true
theorem q_243_0 : pQ_243 u_243_0 := ⟨_, _, _, _, (pS_cons ok_184 (pS_cons ok_185 (pS_nil))), (pV_nil), f_243_0⟩
theorem qb_243_0 : ∀ u ∈ [u_243_0], pQ_243 u := pU_cons q_243_0 (pU_nil)
theorem ok_243 : sInOk pPT i_243 := sInst3 (M := pm_98) (cus := us_243) pOk pg_98 (by decide +kernel) ⟨_, _, _, _, (pS_cons ok_242 (pS_nil)), (pV_cons (List.mem_of_getElem? (i := 0) rfl) (pV_nil)), e_243⟩ (show ∀ u ∈ us_243, pQ_243 u from qb_243_0)
def pQ_244 (u : sCu) : Prop := ∃ (SM : List sIn) (H : gHt) (cu : List sCu) (n : Nat), (∀ I ∈ SM, sInOk pPT I) ∧ (∀ v ∈ cu, v ∈ us_244) ∧ sWhU pPT SM H i_244 (mR pm_94) cu n u = true
theorem q_244_0 : pQ_244 u_244_0 := ⟨_, _, _, _, (pS_cons ok_161 (pS_cons ok_187 (pS_cons ok_188 (pS_cons ok_202 (pS_cons ok_203 (pS_cons ok_240 (pS_nil))))))), (pV_cons (List.mem_of_getElem? (i := 1) rfl) (pV_cons (List.mem_of_getElem? (i := 2) rfl) (pV_cons (List.mem_of_getElem? (i := 3) rfl) (pV_cons (List.mem_of_getElem? (i := 4) rfl) (pV_cons (List.mem_of_getElem? (i := 5) rfl) (pV_nil)))))), f_244_0⟩
theorem q_244_1 : pQ_244 u_244_1 := ⟨_, _, _, _, (pS_nil), (pV_cons (List.mem_of_getElem? (i := 6) rfl) (pV_nil)), f_244_1⟩
theorem q_244_2 : pQ_244 u_244_2 := ⟨_, _, _, _, (pS_cons ok_202 (pS_nil)), (pV_cons (List.mem_of_getElem? (i := 7) rfl) (pV_cons (List.mem_of_getElem? (i := 8) rfl) (pV_nil))), f_244_2⟩
theorem q_244_3 : pQ_244 u_244_3 := ⟨_, _, _, _, (pS_cons ok_202 (pS_nil)), (pV_cons (List.mem_of_getElem? (i := 7) rfl) (pV_cons (List.mem_of_getElem? (i := 10) rfl) (pV_nil))), f_244_3⟩
theorem q_244_4 : pQ_244 u_244_4 := ⟨_, _, _, _, (pS_nil), (pV_cons (List.mem_of_getElem? (i := 11) rfl) (pV_nil)), f_244_4⟩
theorem q_244_5 : pQ_244 u_244_5 := ⟨_, _, _, _, (pS_cons ok_114 (pS_nil)), (pV_cons (List.mem_of_getElem? (i := 12) rfl) (pV_nil)), f_244_5⟩
theorem q_244_6 : pQ_244 u_244_6 := ⟨_, _, _, _, (pS_nil), (pV_nil), f_244_6⟩
theorem q_244_7 : pQ_244 u_244_7 := ⟨_, _, _, _, (pS_cons ok_114 (pS_cons ok_240 (pS_nil))), (pV_cons (List.mem_of_getElem? (i := 1) rfl) (pV_cons (List.mem_of_getElem? (i := 14) rfl) (pV_nil))), f_244_7⟩
theorem q_244_8 : pQ_244 u_244_8 := ⟨_, _, _, _, (pS_cons ok_114 (pS_cons ok_240 (pS_nil))), (pV_cons (List.mem_of_getElem? (i := 1) rfl) (pV_cons (List.mem_of_getElem? (i := 14) rfl) (pV_nil))), f_244_8⟩
theorem q_244_9 : pQ_244 u_244_9 := ⟨_, _, _, _, (pS_cons ok_114 (pS_cons ok_240 (pS_nil))), (pV_cons (List.mem_of_getElem? (i := 1) rfl) (pV_cons (List.mem_of_getElem? (i := 14) rfl) (pV_nil))), f_244_9⟩
theorem q_244_10 : pQ_244 u_244_10 := ⟨_, _, _, _, (pS_cons ok_114 (pS_cons ok_240 (pS_nil))), (pV_cons (List.mem_of_getElem? (i := 1) rfl) (pV_cons (List.mem_of_getElem? (i := 14) rfl) (pV_nil))), f_244_10⟩
theorem q_244_11 : pQ_244 u_244_11 := ⟨_, _, _, _, (pS_nil), (pV_nil), f_244_11⟩
theorem q_244_12 : pQ_244 u_244_12 := ⟨_, _, _, _, (pS_cons ok_161 (pS_cons ok_187 (pS_cons ok_188 (pS_cons ok_202 (pS_cons ok_203 (pS_cons ok_240 (pS_nil))))))), (pV_cons (List.mem_of_getElem? (i := 17) rfl) (pV_cons (List.mem_of_getElem? (i := 18) rfl) (pV_cons (List.mem_of_getElem? (i := 19) rfl) (pV_cons (List.mem_of_getElem? (i := 20) rfl) (pV_cons (List.mem_of_getElem? (i := 21) rfl) (pV_nil)))))), f_244_12⟩
theorem q_244_13 : pQ_244 u_244_13 := ⟨_, _, _, _, (pS_nil), (pV_cons (List.mem_of_getElem? (i := 6) rfl) (pV_nil)), f_244_13⟩
theorem q_244_14 : pQ_244 u_244_14 := ⟨_, _, _, _, (pS_nil), (pV_cons (List.mem_of_getElem? (i := 11) rfl) (pV_nil)), f_244_14⟩
theorem q_244_15 : pQ_244 u_244_15 := ⟨_, _, _, _, (pS_nil), (pV_cons (List.mem_of_getElem? (i := 6) rfl) (pV_nil)), f_244_15⟩
theorem q_244_16 : pQ_244 u_244_16 := ⟨_, _, _, _, (pS_nil), (pV_cons (List.mem_of_getElem? (i := 11) rfl) (pV_nil)), f_244_16⟩
theorem q_244_17 : pQ_244 u_244_17 := ⟨_, _, _, _, (pS_nil), (pV_cons (List.mem_of_getElem? (i := 22) rfl) (pV_nil)), f_244_17⟩
theorem q_244_18 : pQ_244 u_244_18 := ⟨_, _, _, _, (pS_cons ok_202 (pS_nil)), (pV_cons (List.mem_of_getElem? (i := 23) rfl) (pV_cons (List.mem_of_getElem? (i := 24) rfl) (pV_nil))), f_244_18⟩
theorem q_244_19 : pQ_244 u_244_19 := ⟨_, _, _, _, (pS_cons ok_202 (pS_nil)), (pV_cons (List.mem_of_getElem? (i := 23) rfl) (pV_cons (List.mem_of_getElem? (i := 26) rfl) (pV_nil))), f_244_19⟩
theorem q_244_20 : pQ_244 u_244_20 := ⟨_, _, _, _, (pS_nil), (pV_cons (List.mem_of_getElem? (i := 27) rfl) (pV_nil)), f_244_20⟩
theorem q_244_21 : pQ_244 u_244_21 := ⟨_, _, _, _, (pS_cons ok_114 (pS_nil)), (pV_cons (List.mem_of_getElem? (i := 28) rfl) (pV_nil)), f_244_21⟩
theorem q_244_22 : pQ_244 u_244_22 := ⟨_, _, _, _, (pS_nil), (pV_cons (List.mem_of_getElem? (i := 29) rfl) (pV_nil)), f_244_22⟩
theorem q_244_23 : pQ_244 u_244_23 := ⟨_, _, _, _, (pS_cons ok_114 (pS_cons ok_240 (pS_nil))), (pV_cons (List.mem_of_getElem? (i := 17) rfl) (pV_cons (List.mem_of_getElem? (i := 31) rfl) (pV_nil))), f_244_23⟩
theorem q_244_24 : pQ_244 u_244_24 := ⟨_, _, _, _, (pS_cons ok_114 (pS_cons ok_240 (pS_nil))), (pV_cons (List.mem_of_getElem? (i := 17) rfl) (pV_cons (List.mem_of_getElem? (i := 31) rfl) (pV_nil))), f_244_24⟩
theorem q_244_25 : pQ_244 u_244_25 := ⟨_, _, _, _, (pS_cons ok_114 (pS_cons ok_240 (pS_nil))), (pV_cons (List.mem_of_getElem? (i := 17) rfl) (pV_cons (List.mem_of_getElem? (i := 31) rfl) (pV_nil))), f_244_25⟩
theorem q_244_26 : pQ_244 u_244_26 := ⟨_, _, _, _, (pS_cons ok_114 (pS_cons ok_240 (pS_nil))), (pV_cons (List.mem_of_getElem? (i := 17) rfl) (pV_cons (List.mem_of_getElem? (i := 31) rfl) (pV_nil))), f_244_26⟩
theorem q_244_27 : pQ_244 u_244_27 := ⟨_, _, _, _, (pS_nil), (pV_cons (List.mem_of_getElem? (i := 34) rfl) (pV_nil)), f_244_27⟩
theorem q_244_28 : pQ_244 u_244_28 := ⟨_, _, _, _, (pS_cons ok_161 (pS_cons ok_187 (pS_cons ok_188 (pS_cons ok_202 (pS_cons ok_203 (pS_cons ok_240 (pS_nil))))))), (pV_cons (List.mem_of_getElem? (i := 35) rfl) (pV_cons (List.mem_of_getElem? (i := 36) rfl) (pV_cons (List.mem_of_getElem? (i := 37) rfl) (pV_cons (List.mem_of_getElem? (i := 38) rfl) (pV_cons (List.mem_of_getElem? (i := 39) rfl) (pV_nil)))))), f_244_28⟩
theorem q_244_29 : pQ_244 u_244_29 := ⟨_, _, _, _, (pS_nil), (pV_nil), f_244_29⟩
theorem q_244_30 : pQ_244 u_244_30 := ⟨_, _, _, _, (pS_nil), (pV_cons (List.mem_of_getElem? (i := 22) rfl) (pV_nil)), f_244_30⟩
theorem q_244_31 : pQ_244 u_244_31 := ⟨_, _, _, _, (pS_nil), (pV_cons (List.mem_of_getElem? (i := 27) rfl) (pV_nil)), f_244_31⟩
theorem q_244_32 : pQ_244 u_244_32 := ⟨_, _, _, _, (pS_nil), (pV_cons (List.mem_of_getElem? (i := 22) rfl) (pV_nil)), f_244_32⟩
theorem q_244_33 : pQ_244 u_244_33 := ⟨_, _, _, _, (pS_nil), (pV_cons (List.mem_of_getElem? (i := 27) rfl) (pV_nil)), f_244_33⟩
theorem q_244_34 : pQ_244 u_244_34 := ⟨_, _, _, _, (pS_nil), (pV_nil), f_244_34⟩
theorem q_244_35 : pQ_244 u_244_35 := ⟨_, _, _, _, (pS_nil), (pV_cons (List.mem_of_getElem? (i := 40) rfl) (pV_nil)), f_244_35⟩
theorem q_244_36 : pQ_244 u_244_36 := ⟨_, _, _, _, (pS_cons ok_202 (pS_nil)), (pV_cons (List.mem_of_getElem? (i := 41) rfl) (pV_cons (List.mem_of_getElem? (i := 42) rfl) (pV_nil))), f_244_36⟩
theorem q_244_37 : pQ_244 u_244_37 := ⟨_, _, _, _, (pS_cons ok_202 (pS_nil)), (pV_cons (List.mem_of_getElem? (i := 41) rfl) (pV_cons (List.mem_of_getElem? (i := 44) rfl) (pV_nil))), f_244_37⟩
theorem q_244_38 : pQ_244 u_244_38 := ⟨_, _, _, _, (pS_nil), (pV_cons (List.mem_of_getElem? (i := 45) rfl) (pV_nil)), f_244_38⟩
theorem q_244_39 : pQ_244 u_244_39 := ⟨_, _, _, _, (pS_cons ok_114 (pS_nil)), (pV_cons (List.mem_of_getElem? (i := 46) rfl) (pV_nil)), f_244_39⟩
theorem q_244_40 : pQ_244 u_244_40 := ⟨_, _, _, _, (pS_nil), (pV_cons (List.mem_of_getElem? (i := 47) rfl) (pV_nil)), f_244_40⟩
theorem q_244_41 : pQ_244 u_244_41 := ⟨_, _, _, _, (pS_cons ok_114 (pS_cons ok_240 (pS_nil))), (pV_cons (List.mem_of_getElem? (i := 35) rfl) (pV_cons (List.mem_of_getElem? (i := 49) rfl) (pV_nil))), f_244_41⟩
theorem q_244_42 : pQ_244 u_244_42 := ⟨_, _, _, _, (pS_cons ok_114 (pS_cons ok_240 (pS_nil))), (pV_cons (List.mem_of_getElem? (i := 35) rfl) (pV_cons (List.mem_of_getElem? (i := 49) rfl) (pV_nil))), f_244_42⟩
theorem q_244_43 : pQ_244 u_244_43 := ⟨_, _, _, _, (pS_cons ok_114 (pS_cons ok_240 (pS_nil))), (pV_cons (List.mem_of_getElem? (i := 35) rfl) (pV_cons (List.mem_of_getElem? (i := 49) rfl) (pV_nil))), f_244_43⟩
theorem q_244_44 : pQ_244 u_244_44 := ⟨_, _, _, _, (pS_cons ok_114 (pS_cons ok_240 (pS_nil))), (pV_cons (List.mem_of_getElem? (i := 35) rfl) (pV_cons (List.mem_of_getElem? (i := 49) rfl) (pV_nil))), f_244_44⟩
theorem q_244_45 : pQ_244 u_244_45 := ⟨_, _, _, _, (pS_nil), (pV_cons (List.mem_of_getElem? (i := 52) rfl) (pV_nil)), f_244_45⟩
theorem q_244_46 : pQ_244 u_244_46 := ⟨_, _, _, _, (pS_cons ok_161 (pS_cons ok_187 (pS_cons ok_188 (pS_cons ok_202 (pS_cons ok_203 (pS_cons ok_240 (pS_nil))))))), (pV_cons (List.mem_of_getElem? (i := 53) rfl) (pV_cons (List.mem_of_getElem? (i := 54) rfl) (pV_cons (List.mem_of_getElem? (i := 55) rfl) (pV_cons (List.mem_of_getElem? (i := 56) rfl) (pV_cons (List.mem_of_getElem? (i := 57) rfl) (pV_nil)))))), f_244_46⟩
theorem q_244_47 : pQ_244 u_244_47 := ⟨_, _, _, _, (pS_nil), (pV_cons (List.mem_of_getElem? (i := 58) rfl) (pV_nil)), f_244_47⟩
theorem q_244_48 : pQ_244 u_244_48 := ⟨_, _, _, _, (pS_nil), (pV_cons (List.mem_of_getElem? (i := 40) rfl) (pV_nil)), f_244_48⟩
theorem q_244_49 : pQ_244 u_244_49 := ⟨_, _, _, _, (pS_nil), (pV_cons (List.mem_of_getElem? (i := 45) rfl) (pV_nil)), f_244_49⟩
theorem q_244_50 : pQ_244 u_244_50 := ⟨_, _, _, _, (pS_nil), (pV_cons (List.mem_of_getElem? (i := 40) rfl) (pV_nil)), f_244_50⟩
theorem q_244_51 : pQ_244 u_244_51 := ⟨_, _, _, _, (pS_nil), (pV_cons (List.mem_of_getElem? (i := 45) rfl) (pV_nil)), f_244_51⟩
theorem q_244_52 : pQ_244 u_244_52 := ⟨_, _, _, _, (pS_nil), (pV_cons (List.mem_of_getElem? (i := 59) rfl) (pV_nil)), f_244_52⟩
theorem q_244_53 : pQ_244 u_244_53 := ⟨_, _, _, _, (pS_nil), (pV_cons (List.mem_of_getElem? (i := 60) rfl) (pV_nil)), f_244_53⟩
theorem q_244_54 : pQ_244 u_244_54 := ⟨_, _, _, _, (pS_cons ok_202 (pS_nil)), (pV_cons (List.mem_of_getElem? (i := 61) rfl) (pV_cons (List.mem_of_getElem? (i := 62) rfl) (pV_nil))), f_244_54⟩
theorem q_244_55 : pQ_244 u_244_55 := ⟨_, _, _, _, (pS_cons ok_202 (pS_nil)), (pV_cons (List.mem_of_getElem? (i := 61) rfl) (pV_cons (List.mem_of_getElem? (i := 64) rfl) (pV_nil))), f_244_55⟩
theorem q_244_56 : pQ_244 u_244_56 := ⟨_, _, _, _, (pS_nil), (pV_cons (List.mem_of_getElem? (i := 65) rfl) (pV_nil)), f_244_56⟩
theorem q_244_57 : pQ_244 u_244_57 := ⟨_, _, _, _, (pS_cons ok_114 (pS_nil)), (pV_cons (List.mem_of_getElem? (i := 66) rfl) (pV_nil)), f_244_57⟩
theorem q_244_58 : pQ_244 u_244_58 := ⟨_, _, _, _, (pS_nil), (pV_nil), f_244_58⟩
theorem q_244_59 : pQ_244 u_244_59 := ⟨_, _, _, _, (pS_nil), (pV_nil), f_244_59⟩
theorem q_244_60 : pQ_244 u_244_60 := ⟨_, _, _, _, (pS_nil), (pV_cons (List.mem_of_getElem? (i := 67) rfl) (pV_nil)), f_244_60⟩
theorem q_244_61 : pQ_244 u_244_61 := ⟨_, _, _, _, (pS_cons ok_114 (pS_cons ok_240 (pS_nil))), (pV_cons (List.mem_of_getElem? (i := 53) rfl) (pV_cons (List.mem_of_getElem? (i := 69) rfl) (pV_nil))), f_244_61⟩
theorem q_244_62 : pQ_244 u_244_62 := ⟨_, _, _, _, (pS_cons ok_114 (pS_cons ok_240 (pS_nil))), (pV_cons (List.mem_of_getElem? (i := 53) rfl) (pV_cons (List.mem_of_getElem? (i := 69) rfl) (pV_nil))), f_244_62⟩
theorem q_244_63 : pQ_244 u_244_63 := ⟨_, _, _, _, (pS_cons ok_114 (pS_cons ok_240 (pS_nil))), (pV_cons (List.mem_of_getElem? (i := 53) rfl) (pV_cons (List.mem_of_getElem? (i := 69) rfl) (pV_nil))), f_244_63⟩
theorem q_244_64 : pQ_244 u_244_64 := ⟨_, _, _, _, (pS_cons ok_114 (pS_cons ok_240 (pS_nil))), (pV_cons (List.mem_of_getElem? (i := 53) rfl) (pV_cons (List.mem_of_getElem? (i := 69) rfl) (pV_nil))), f_244_64⟩
theorem q_244_65 : pQ_244 u_244_65 := ⟨_, _, _, _, (pS_nil), (pV_cons (List.mem_of_getElem? (i := 72) rfl) (pV_nil)), f_244_65⟩
theorem q_244_66 : pQ_244 u_244_66 := ⟨_, _, _, _, (pS_cons ok_161 (pS_cons ok_187 (pS_cons ok_188 (pS_cons ok_202 (pS_cons ok_203 (pS_cons ok_240 (pS_nil))))))), (pV_cons (List.mem_of_getElem? (i := 73) rfl) (pV_cons (List.mem_of_getElem? (i := 74) rfl) (pV_cons (List.mem_of_getElem? (i := 75) rfl) (pV_cons (List.mem_of_getElem? (i := 76) rfl) (pV_cons (List.mem_of_getElem? (i := 77) rfl) (pV_nil)))))), f_244_66⟩
theorem q_244_67 : pQ_244 u_244_67 := ⟨_, _, _, _, (pS_nil), (pV_cons (List.mem_of_getElem? (i := 78) rfl) (pV_nil)), f_244_67⟩
theorem q_244_68 : pQ_244 u_244_68 := ⟨_, _, _, _, (pS_nil), (pV_cons (List.mem_of_getElem? (i := 60) rfl) (pV_nil)), f_244_68⟩
theorem q_244_69 : pQ_244 u_244_69 := ⟨_, _, _, _, (pS_nil), (pV_cons (List.mem_of_getElem? (i := 65) rfl) (pV_nil)), f_244_69⟩
theorem q_244_70 : pQ_244 u_244_70 := ⟨_, _, _, _, (pS_nil), (pV_cons (List.mem_of_getElem? (i := 60) rfl) (pV_nil)), f_244_70⟩
theorem q_244_71 : pQ_244 u_244_71 := ⟨_, _, _, _, (pS_nil), (pV_cons (List.mem_of_getElem? (i := 65) rfl) (pV_nil)), f_244_71⟩
theorem q_244_72 : pQ_244 u_244_72 := ⟨_, _, _, _, (pS_nil), (pV_cons (List.mem_of_getElem? (i := 79) rfl) (pV_nil)), f_244_72⟩
theorem q_244_73 : pQ_244 u_244_73 := ⟨_, _, _, _, (pS_nil), (pV_cons (List.mem_of_getElem? (i := 80) rfl) (pV_nil)), f_244_73⟩
theorem q_244_74 : pQ_244 u_244_74 := ⟨_, _, _, _, (pS_cons ok_202 (pS_nil)), (pV_cons (List.mem_of_getElem? (i := 81) rfl) (pV_cons (List.mem_of_getElem? (i := 82) rfl) (pV_nil))), f_244_74⟩
theorem q_244_75 : pQ_244 u_244_75 := ⟨_, _, _, _, (pS_cons ok_202 (pS_nil)), (pV_cons (List.mem_of_getElem? (i := 81) rfl) (pV_cons (List.mem_of_getElem? (i := 84) rfl) (pV_nil))), f_244_75⟩
theorem q_244_76 : pQ_244 u_244_76 := ⟨_, _, _, _, (pS_nil), (pV_cons (List.mem_of_getElem? (i := 85) rfl) (pV_nil)), f_244_76⟩
theorem q_244_77 : pQ_244 u_244_77 := ⟨_, _, _, _, (pS_cons ok_114 (pS_nil)), (pV_cons (List.mem_of_getElem? (i := 86) rfl) (pV_nil)), f_244_77⟩
theorem q_244_78 : pQ_244 u_244_78 := ⟨_, _, _, _, (pS_nil), (pV_cons (List.mem_of_getElem? (i := 87) rfl) (pV_nil)), f_244_78⟩
theorem q_244_79 : pQ_244 u_244_79 := ⟨_, _, _, _, (pS_nil), (pV_cons (List.mem_of_getElem? (i := 88) rfl) (pV_nil)), f_244_79⟩
theorem q_244_80 : pQ_244 u_244_80 := ⟨_, _, _, _, (pS_nil), (pV_cons (List.mem_of_getElem? (i := 89) rfl) (pV_nil)), f_244_80⟩
theorem q_244_81 : pQ_244 u_244_81 := ⟨_, _, _, _, (pS_cons ok_114 (pS_cons ok_240 (pS_nil))), (pV_cons (List.mem_of_getElem? (i := 73) rfl) (pV_cons (List.mem_of_getElem? (i := 91) rfl) (pV_nil))), f_244_81⟩
theorem q_244_82 : pQ_244 u_244_82 := ⟨_, _, _, _, (pS_cons ok_114 (pS_cons ok_240 (pS_nil))), (pV_cons (List.mem_of_getElem? (i := 73) rfl) (pV_cons (List.mem_of_getElem? (i := 91) rfl) (pV_nil))), f_244_82⟩
theorem q_244_83 : pQ_244 u_244_83 := ⟨_, _, _, _, (pS_cons ok_114 (pS_cons ok_240 (pS_nil))), (pV_cons (List.mem_of_getElem? (i := 73) rfl) (pV_cons (List.mem_of_getElem? (i := 91) rfl) (pV_nil))), f_244_83⟩
theorem q_244_84 : pQ_244 u_244_84 := ⟨_, _, _, _, (pS_cons ok_114 (pS_cons ok_240 (pS_nil))), (pV_cons (List.mem_of_getElem? (i := 73) rfl) (pV_cons (List.mem_of_getElem? (i := 91) rfl) (pV_nil))), f_244_84⟩
theorem q_244_85 : pQ_244 u_244_85 := ⟨_, _, _, _, (pS_nil), (pV_cons (List.mem_of_getElem? (i := 94) rfl) (pV_nil)), f_244_85⟩
theorem q_244_86 : pQ_244 u_244_86 := ⟨_, _, _, _, (pS_cons ok_161 (pS_cons ok_187 (pS_cons ok_188 (pS_cons ok_202 (pS_cons ok_203 (pS_cons ok_240 (pS_nil))))))), (pV_cons (List.mem_of_getElem? (i := 95) rfl) (pV_cons (List.mem_of_getElem? (i := 96) rfl) (pV_cons (List.mem_of_getElem? (i := 97) rfl) (pV_cons (List.mem_of_getElem? (i := 98) rfl) (pV_cons (List.mem_of_getElem? (i := 99) rfl) (pV_nil)))))), f_244_86⟩
theorem q_244_87 : pQ_244 u_244_87 := ⟨_, _, _, _, (pS_nil), (pV_nil), f_244_87⟩
theorem q_244_88 : pQ_244 u_244_88 := ⟨_, _, _, _, (pS_nil), (pV_nil), f_244_88⟩
theorem q_244_89 : pQ_244 u_244_89 := ⟨_, _, _, _, (pS_nil), (pV_cons (List.mem_of_getElem? (i := 100) rfl) (pV_nil)), f_244_89⟩
theorem q_244_90 : pQ_244 u_244_90 := ⟨_, _, _, _, (pS_nil), (pV_cons (List.mem_of_getElem? (i := 80) rfl) (pV_nil)), f_244_90⟩
theorem q_244_91 : pQ_244 u_244_91 := ⟨_, _, _, _, (pS_nil), (pV_cons (List.mem_of_getElem? (i := 85) rfl) (pV_nil)), f_244_91⟩
theorem q_244_92 : pQ_244 u_244_92 := ⟨_, _, _, _, (pS_nil), (pV_cons (List.mem_of_getElem? (i := 80) rfl) (pV_nil)), f_244_92⟩
theorem q_244_93 : pQ_244 u_244_93 := ⟨_, _, _, _, (pS_nil), (pV_cons (List.mem_of_getElem? (i := 85) rfl) (pV_nil)), f_244_93⟩
theorem q_244_94 : pQ_244 u_244_94 := ⟨_, _, _, _, (pS_nil), (pV_cons (List.mem_of_getElem? (i := 101) rfl) (pV_nil)), f_244_94⟩
theorem q_244_95 : pQ_244 u_244_95 := ⟨_, _, _, _, (pS_nil), (pV_cons (List.mem_of_getElem? (i := 102) rfl) (pV_nil)), f_244_95⟩
theorem q_244_96 : pQ_244 u_244_96 := ⟨_, _, _, _, (pS_cons ok_202 (pS_nil)), (pV_cons (List.mem_of_getElem? (i := 103) rfl) (pV_cons (List.mem_of_getElem? (i := 104) rfl) (pV_nil))), f_244_96⟩
theorem q_244_97 : pQ_244 u_244_97 := ⟨_, _, _, _, (pS_cons ok_202 (pS_nil)), (pV_cons (List.mem_of_getElem? (i := 103) rfl) (pV_cons (List.mem_of_getElem? (i := 106) rfl) (pV_nil))), f_244_97⟩
theorem q_244_98 : pQ_244 u_244_98 := ⟨_, _, _, _, (pS_nil), (pV_cons (List.mem_of_getElem? (i := 107) rfl) (pV_nil)), f_244_98⟩
theorem q_244_99 : pQ_244 u_244_99 := ⟨_, _, _, _, (pS_cons ok_114 (pS_nil)), (pV_cons (List.mem_of_getElem? (i := 108) rfl) (pV_nil)), f_244_99⟩
theorem q_244_100 : pQ_244 u_244_100 := ⟨_, _, _, _, (pS_nil), (pV_cons (List.mem_of_getElem? (i := 109) rfl) (pV_nil)), f_244_100⟩
theorem q_244_101 : pQ_244 u_244_101 := ⟨_, _, _, _, (pS_nil), (pV_cons (List.mem_of_getElem? (i := 110) rfl) (pV_nil)), f_244_101⟩
theorem q_244_102 : pQ_244 u_244_102 := ⟨_, _, _, _, (pS_nil), (pV_cons (List.mem_of_getElem? (i := 111) rfl) (pV_nil)), f_244_102⟩
theorem q_244_103 : pQ_244 u_244_103 := ⟨_, _, _, _, (pS_cons ok_114 (pS_cons ok_240 (pS_nil))), (pV_cons (List.mem_of_getElem? (i := 95) rfl) (pV_cons (List.mem_of_getElem? (i := 113) rfl) (pV_nil))), f_244_103⟩
theorem q_244_104 : pQ_244 u_244_104 := ⟨_, _, _, _, (pS_cons ok_114 (pS_cons ok_240 (pS_nil))), (pV_cons (List.mem_of_getElem? (i := 95) rfl) (pV_cons (List.mem_of_getElem? (i := 113) rfl) (pV_nil))), f_244_104⟩
theorem q_244_105 : pQ_244 u_244_105 := ⟨_, _, _, _, (pS_cons ok_114 (pS_cons ok_240 (pS_nil))), (pV_cons (List.mem_of_getElem? (i := 95) rfl) (pV_cons (List.mem_of_getElem? (i := 113) rfl) (pV_nil))), f_244_105⟩
theorem q_244_106 : pQ_244 u_244_106 := ⟨_, _, _, _, (pS_cons ok_114 (pS_cons ok_240 (pS_nil))), (pV_cons (List.mem_of_getElem? (i := 95) rfl) (pV_cons (List.mem_of_getElem? (i := 113) rfl) (pV_nil))), f_244_106⟩
theorem q_244_107 : pQ_244 u_244_107 := ⟨_, _, _, _, (pS_nil), (pV_cons (List.mem_of_getElem? (i := 116) rfl) (pV_nil)), f_244_107⟩
theorem q_244_108 : pQ_244 u_244_108 := ⟨_, _, _, _, (pS_cons ok_161 (pS_cons ok_187 (pS_cons ok_188 (pS_cons ok_202 (pS_cons ok_203 (pS_cons ok_240 (pS_nil))))))), (pV_cons (List.mem_of_getElem? (i := 117) rfl) (pV_cons (List.mem_of_getElem? (i := 118) rfl) (pV_cons (List.mem_of_getElem? (i := 119) rfl) (pV_cons (List.mem_of_getElem? (i := 120) rfl) (pV_cons (List.mem_of_getElem? (i := 121) rfl) (pV_nil)))))), f_244_108⟩
theorem q_244_109 : pQ_244 u_244_109 := ⟨_, _, _, _, (pS_nil), (pV_cons (List.mem_of_getElem? (i := 122) rfl) (pV_nil)), f_244_109⟩
theorem q_244_110 : pQ_244 u_244_110 := ⟨_, _, _, _, (pS_nil), (pV_cons (List.mem_of_getElem? (i := 123) rfl) (pV_nil)), f_244_110⟩
theorem q_244_111 : pQ_244 u_244_111 := ⟨_, _, _, _, (pS_nil), (pV_cons (List.mem_of_getElem? (i := 124) rfl) (pV_nil)), f_244_111⟩
theorem q_244_112 : pQ_244 u_244_112 := ⟨_, _, _, _, (pS_nil), (pV_cons (List.mem_of_getElem? (i := 102) rfl) (pV_nil)), f_244_112⟩
theorem q_244_113 : pQ_244 u_244_113 := ⟨_, _, _, _, (pS_nil), (pV_cons (List.mem_of_getElem? (i := 107) rfl) (pV_nil)), f_244_113⟩
theorem q_244_114 : pQ_244 u_244_114 := ⟨_, _, _, _, (pS_nil), (pV_cons (List.mem_of_getElem? (i := 102) rfl) (pV_nil)), f_244_114⟩
theorem q_244_115 : pQ_244 u_244_115 := ⟨_, _, _, _, (pS_nil), (pV_cons (List.mem_of_getElem? (i := 107) rfl) (pV_nil)), f_244_115⟩
theorem q_244_116 : pQ_244 u_244_116 := ⟨_, _, _, _, (pS_nil), (pV_cons (List.mem_of_getElem? (i := 125) rfl) (pV_nil)), f_244_116⟩
theorem q_244_117 : pQ_244 u_244_117 := ⟨_, _, _, _, (pS_nil), (pV_cons (List.mem_of_getElem? (i := 126) rfl) (pV_nil)), f_244_117⟩
theorem q_244_118 : pQ_244 u_244_118 := ⟨_, _, _, _, (pS_cons ok_202 (pS_nil)), (pV_cons (List.mem_of_getElem? (i := 127) rfl) (pV_cons (List.mem_of_getElem? (i := 128) rfl) (pV_nil))), f_244_118⟩
theorem q_244_119 : pQ_244 u_244_119 := ⟨_, _, _, _, (pS_cons ok_202 (pS_nil)), (pV_cons (List.mem_of_getElem? (i := 127) rfl) (pV_cons (List.mem_of_getElem? (i := 130) rfl) (pV_nil))), f_244_119⟩
theorem q_244_120 : pQ_244 u_244_120 := ⟨_, _, _, _, (pS_nil), (pV_cons (List.mem_of_getElem? (i := 131) rfl) (pV_nil)), f_244_120⟩
theorem q_244_121 : pQ_244 u_244_121 := ⟨_, _, _, _, (pS_nil), (pV_cons (List.mem_of_getElem? (i := 132) rfl) (pV_nil)), f_244_121⟩
theorem q_244_122 : pQ_244 u_244_122 := ⟨_, _, _, _, (pS_nil), (pV_nil), f_244_122⟩
theorem q_244_123 : pQ_244 u_244_123 := ⟨_, _, _, _, (pS_nil), (pV_nil), f_244_123⟩
theorem q_244_124 : pQ_244 u_244_124 := ⟨_, _, _, _, (pS_nil), (pV_cons (List.mem_of_getElem? (i := 133) rfl) (pV_nil)), f_244_124⟩
theorem q_244_125 : pQ_244 u_244_125 := ⟨_, _, _, _, (pS_nil), (pV_cons (List.mem_of_getElem? (i := 134) rfl) (pV_nil)), f_244_125⟩
theorem q_244_126 : pQ_244 u_244_126 := ⟨_, _, _, _, (pS_nil), (pV_cons (List.mem_of_getElem? (i := 135) rfl) (pV_nil)), f_244_126⟩
theorem q_244_127 : pQ_244 u_244_127 := ⟨_, _, _, _, (pS_cons ok_114 (pS_cons ok_240 (pS_nil))), (pV_cons (List.mem_of_getElem? (i := 117) rfl) (pV_cons (List.mem_of_getElem? (i := 137) rfl) (pV_nil))), f_244_127⟩
theorem q_244_128 : pQ_244 u_244_128 := ⟨_, _, _, _, (pS_cons ok_114 (pS_cons ok_240 (pS_nil))), (pV_cons (List.mem_of_getElem? (i := 117) rfl) (pV_cons (List.mem_of_getElem? (i := 137) rfl) (pV_nil))), f_244_128⟩
theorem q_244_129 : pQ_244 u_244_129 := ⟨_, _, _, _, (pS_cons ok_114 (pS_cons ok_240 (pS_nil))), (pV_cons (List.mem_of_getElem? (i := 117) rfl) (pV_cons (List.mem_of_getElem? (i := 137) rfl) (pV_nil))), f_244_129⟩
theorem q_244_130 : pQ_244 u_244_130 := ⟨_, _, _, _, (pS_cons ok_114 (pS_cons ok_240 (pS_nil))), (pV_cons (List.mem_of_getElem? (i := 117) rfl) (pV_cons (List.mem_of_getElem? (i := 137) rfl) (pV_nil))), f_244_130⟩
theorem q_244_131 : pQ_244 u_244_131 := ⟨_, _, _, _, (pS_nil), (pV_cons (List.mem_of_getElem? (i := 140) rfl) (pV_nil)), f_244_131⟩
theorem q_244_132 : pQ_244 u_244_132 := ⟨_, _, _, _, (pS_cons ok_179 (pS_cons ok_187 (pS_cons ok_188 (pS_cons ok_243 (pS_nil))))), (pV_cons (List.mem_of_getElem? (i := 141) rfl) (pV_nil)), f_244_132⟩
theorem q_244_133 : pQ_244 u_244_133 := ⟨_, _, _, _, (pS_nil), (pV_cons (List.mem_of_getElem? (i := 142) rfl) (pV_nil)), f_244_133⟩
theorem q_244_134 : pQ_244 u_244_134 := ⟨_, _, _, _, (pS_nil), (pV_cons (List.mem_of_getElem? (i := 143) rfl) (pV_nil)), f_244_134⟩
theorem q_244_135 : pQ_244 u_244_135 := ⟨_, _, _, _, (pS_nil), (pV_cons (List.mem_of_getElem? (i := 144) rfl) (pV_nil)), f_244_135⟩
theorem q_244_136 : pQ_244 u_244_136 := ⟨_, _, _, _, (pS_nil), (pV_cons (List.mem_of_getElem? (i := 126) rfl) (pV_nil)), f_244_136⟩
theorem q_244_137 : pQ_244 u_244_137 := ⟨_, _, _, _, (pS_nil), (pV_cons (List.mem_of_getElem? (i := 131) rfl) (pV_nil)), f_244_137⟩
theorem q_244_138 : pQ_244 u_244_138 := ⟨_, _, _, _, (pS_nil), (pV_cons (List.mem_of_getElem? (i := 126) rfl) (pV_nil)), f_244_138⟩
theorem q_244_139 : pQ_244 u_244_139 := ⟨_, _, _, _, (pS_nil), (pV_cons (List.mem_of_getElem? (i := 131) rfl) (pV_nil)), f_244_139⟩
theorem q_244_140 : pQ_244 u_244_140 := ⟨_, _, _, _, (pS_nil), (pV_cons (List.mem_of_getElem? (i := 145) rfl) (pV_nil)), f_244_140⟩
theorem q_244_141 : pQ_244 u_244_141 := ⟨_, _, _, _, (pS_nil), (pV_cons (List.mem_of_getElem? (i := 146) rfl) (pV_nil)), f_244_141⟩
theorem q_244_142 : pQ_244 u_244_142 := ⟨_, _, _, _, (pS_nil), (pV_cons (List.mem_of_getElem? (i := 147) rfl) (pV_nil)), f_244_142⟩
theorem q_244_143 : pQ_244 u_244_143 := ⟨_, _, _, _, (pS_nil), (pV_cons (List.mem_of_getElem? (i := 148) rfl) (pV_nil)), f_244_143⟩
theorem q_244_144 : pQ_244 u_244_144 := ⟨_, _, _, _, (pS_nil), (pV_cons (List.mem_of_getElem? (i := 149) rfl) (pV_nil)), f_244_144⟩
theorem q_244_145 : pQ_244 u_244_145 := ⟨_, _, _, _, (pS_nil), (pV_cons (List.mem_of_getElem? (i := 150) rfl) (pV_nil)), f_244_145⟩
theorem q_244_146 : pQ_244 u_244_146 := ⟨_, _, _, _, (pS_nil), (pV_cons (List.mem_of_getElem? (i := 151) rfl) (pV_nil)), f_244_146⟩
theorem q_244_147 : pQ_244 u_244_147 := ⟨_, _, _, _, (pS_nil), (pV_nil), f_244_147⟩
theorem q_244_148 : pQ_244 u_244_148 := ⟨_, _, _, _, (pS_nil), (pV_nil), f_244_148⟩
theorem q_244_149 : pQ_244 u_244_149 := ⟨_, _, _, _, (pS_nil), (pV_cons (List.mem_of_getElem? (i := 152) rfl) (pV_nil)), f_244_149⟩
theorem q_244_150 : pQ_244 u_244_150 := ⟨_, _, _, _, (pS_nil), (pV_cons (List.mem_of_getElem? (i := 153) rfl) (pV_nil)), f_244_150⟩
theorem q_244_151 : pQ_244 u_244_151 := ⟨_, _, _, _, (pS_nil), (pV_cons (List.mem_of_getElem? (i := 154) rfl) (pV_nil)), f_244_151⟩
theorem q_244_152 : pQ_244 u_244_152 := ⟨_, _, _, _, (pS_nil), (pV_cons (List.mem_of_getElem? (i := 155) rfl) (pV_nil)), f_244_152⟩
theorem q_244_153 : pQ_244 u_244_153 := ⟨_, _, _, _, (pS_nil), (pV_cons (List.mem_of_getElem? (i := 156) rfl) (pV_nil)), f_244_153⟩
theorem q_244_154 : pQ_244 u_244_154 := ⟨_, _, _, _, (pS_nil), (pV_cons (List.mem_of_getElem? (i := 157) rfl) (pV_nil)), f_244_154⟩
theorem q_244_155 : pQ_244 u_244_155 := ⟨_, _, _, _, (pS_nil), (pV_cons (List.mem_of_getElem? (i := 158) rfl) (pV_nil)), f_244_155⟩
theorem q_244_156 : pQ_244 u_244_156 := ⟨_, _, _, _, (pS_nil), (pV_cons (List.mem_of_getElem? (i := 159) rfl) (pV_nil)), f_244_156⟩
theorem q_244_157 : pQ_244 u_244_157 := ⟨_, _, _, _, (pS_nil), (pV_cons (List.mem_of_getElem? (i := 160) rfl) (pV_nil)), f_244_157⟩
theorem q_244_158 : pQ_244 u_244_158 := ⟨_, _, _, _, (pS_nil), (pV_nil), f_244_158⟩
theorem q_244_159 : pQ_244 u_244_159 := ⟨_, _, _, _, (pS_nil), (pV_nil), f_244_159⟩
theorem q_244_160 : pQ_244 u_244_160 := ⟨_, _, _, _, (pS_nil), (pV_cons (List.mem_of_getElem? (i := 161) rfl) (pV_nil)), f_244_160⟩
theorem q_244_161 : pQ_244 u_244_161 := ⟨_, _, _, _, (pS_nil), (pV_cons (List.mem_of_getElem? (i := 162) rfl) (pV_nil)), f_244_161⟩
theorem q_244_162 : pQ_244 u_244_162 := ⟨_, _, _, _, (pS_nil), (pV_cons (List.mem_of_getElem? (i := 163) rfl) (pV_nil)), f_244_162⟩
theorem q_244_163 : pQ_244 u_244_163 := ⟨_, _, _, _, (pS_nil), (pV_nil), f_244_163⟩
theorem qb_244_0 : ∀ u ∈ [u_244_0, u_244_1, u_244_2, u_244_3, u_244_4, u_244_5, u_244_6, u_244_7, u_244_8, u_244_9], pQ_244 u := pU_cons q_244_0 (pU_cons q_244_1 (pU_cons q_244_2 (pU_cons q_244_3 (pU_cons q_244_4 (pU_cons q_244_5 (pU_cons q_244_6 (pU_cons q_244_7 (pU_cons q_244_8 (pU_cons q_244_9 (pU_nil))))))))))
theorem qb_244_1 : ∀ u ∈ [u_244_10, u_244_11, u_244_12, u_244_13, u_244_14, u_244_15, u_244_16, u_244_17, u_244_18, u_244_19], pQ_244 u := pU_cons q_244_10 (pU_cons q_244_11 (pU_cons q_244_12 (pU_cons q_244_13 (pU_cons q_244_14 (pU_cons q_244_15 (pU_cons q_244_16 (pU_cons q_244_17 (pU_cons q_244_18 (pU_cons q_244_19 (pU_nil))))))))))
theorem qb_244_2 : ∀ u ∈ [u_244_20, u_244_21, u_244_22, u_244_23, u_244_24, u_244_25, u_244_26, u_244_27, u_244_28, u_244_29], pQ_244 u := pU_cons q_244_20 (pU_cons q_244_21 (pU_cons q_244_22 (pU_cons q_244_23 (pU_cons q_244_24 (pU_cons q_244_25 (pU_cons q_244_26 (pU_cons q_244_27 (pU_cons q_244_28 (pU_cons q_244_29 (pU_nil))))))))))
theorem qb_244_3 : ∀ u ∈ [u_244_30, u_244_31, u_244_32, u_244_33, u_244_34, u_244_35, u_244_36, u_244_37, u_244_38, u_244_39], pQ_244 u := pU_cons q_244_30 (pU_cons q_244_31 (pU_cons q_244_32 (pU_cons q_244_33 (pU_cons q_244_34 (pU_cons q_244_35 (pU_cons q_244_36 (pU_cons q_244_37 (pU_cons q_244_38 (pU_cons q_244_39 (pU_nil))))))))))
theorem qb_244_4 : ∀ u ∈ [u_244_40, u_244_41, u_244_42, u_244_43, u_244_44, u_244_45, u_244_46, u_244_47, u_244_48, u_244_49], pQ_244 u := pU_cons q_244_40 (pU_cons q_244_41 (pU_cons q_244_42 (pU_cons q_244_43 (pU_cons q_244_44 (pU_cons q_244_45 (pU_cons q_244_46 (pU_cons q_244_47 (pU_cons q_244_48 (pU_cons q_244_49 (pU_nil))))))))))
theorem qb_244_5 : ∀ u ∈ [u_244_50, u_244_51, u_244_52, u_244_53, u_244_54, u_244_55, u_244_56, u_244_57, u_244_58, u_244_59], pQ_244 u := pU_cons q_244_50 (pU_cons q_244_51 (pU_cons q_244_52 (pU_cons q_244_53 (pU_cons q_244_54 (pU_cons q_244_55 (pU_cons q_244_56 (pU_cons q_244_57 (pU_cons q_244_58 (pU_cons q_244_59 (pU_nil))))))))))
theorem qb_244_6 : ∀ u ∈ [u_244_60, u_244_61, u_244_62, u_244_63, u_244_64, u_244_65, u_244_66, u_244_67, u_244_68, u_244_69], pQ_244 u := pU_cons q_244_60 (pU_cons q_244_61 (pU_cons q_244_62 (pU_cons q_244_63 (pU_cons q_244_64 (pU_cons q_244_65 (pU_cons q_244_66 (pU_cons q_244_67 (pU_cons q_244_68 (pU_cons q_244_69 (pU_nil))))))))))
theorem qb_244_7 : ∀ u ∈ [u_244_70, u_244_71, u_244_72, u_244_73, u_244_74, u_244_75, u_244_76, u_244_77, u_244_78, u_244_79], pQ_244 u := pU_cons q_244_70 (pU_cons q_244_71 (pU_cons q_244_72 (pU_cons q_244_73 (pU_cons q_244_74 (pU_cons q_244_75 (pU_cons q_244_76 (pU_cons q_244_77 (pU_cons q_244_78 (pU_cons q_244_79 (pU_nil))))))))))
theorem qb_244_8 : ∀ u ∈ [u_244_80, u_244_81, u_244_82, u_244_83, u_244_84, u_244_85, u_244_86, u_244_87, u_244_88, u_244_89], pQ_244 u := pU_cons q_244_80 (pU_cons q_244_81 (pU_cons q_244_82 (pU_cons q_244_83 (pU_cons q_244_84 (pU_cons q_244_85 (pU_cons q_244_86 (pU_cons q_244_87 (pU_cons q_244_88 (pU_cons q_244_89 (pU_nil))))))))))
theorem qb_244_9 : ∀ u ∈ [u_244_90, u_244_91, u_244_92, u_244_93, u_244_94, u_244_95, u_244_96, u_244_97, u_244_98, u_244_99], pQ_244 u := pU_cons q_244_90 (pU_cons q_244_91 (pU_cons q_244_92 (pU_cons q_244_93 (pU_cons q_244_94 (pU_cons q_244_95 (pU_cons q_244_96 (pU_cons q_244_97 (pU_cons q_244_98 (pU_cons q_244_99 (pU_nil))))))))))
theorem qb_244_10 : ∀ u ∈ [u_244_100, u_244_101, u_244_102, u_244_103, u_244_104, u_244_105, u_244_106, u_244_107, u_244_108, u_244_109], pQ_244 u := pU_cons q_244_100 (pU_cons q_244_101 (pU_cons q_244_102 (pU_cons q_244_103 (pU_cons q_244_104 (pU_cons q_244_105 (pU_cons q_244_106 (pU_cons q_244_107 (pU_cons q_244_108 (pU_cons q_244_109 (pU_nil))))))))))
theorem qb_244_11 : ∀ u ∈ [u_244_110, u_244_111, u_244_112, u_244_113, u_244_114, u_244_115, u_244_116, u_244_117, u_244_118, u_244_119], pQ_244 u := pU_cons q_244_110 (pU_cons q_244_111 (pU_cons q_244_112 (pU_cons q_244_113 (pU_cons q_244_114 (pU_cons q_244_115 (pU_cons q_244_116 (pU_cons q_244_117 (pU_cons q_244_118 (pU_cons q_244_119 (pU_nil))))))))))
theorem qb_244_12 : ∀ u ∈ [u_244_120, u_244_121, u_244_122, u_244_123, u_244_124, u_244_125, u_244_126, u_244_127, u_244_128, u_244_129], pQ_244 u := pU_cons q_244_120 (pU_cons q_244_121 (pU_cons q_244_122 (pU_cons q_244_123 (pU_cons q_244_124 (pU_cons q_244_125 (pU_cons q_244_126 (pU_cons q_244_127 (pU_cons q_244_128 (pU_cons q_244_129 (pU_nil))))))))))
theorem qb_244_13 : ∀ u ∈ [u_244_130, u_244_131, u_244_132, u_244_133, u_244_134, u_244_135, u_244_136, u_244_137, u_244_138, u_244_139], pQ_244 u := pU_cons q_244_130 (pU_cons q_244_131 (pU_cons q_244_132 (pU_cons q_244_133 (pU_cons q_244_134 (pU_cons q_244_135 (pU_cons q_244_136 (pU_cons q_244_137 (pU_cons q_244_138 (pU_cons q_244_139 (pU_nil))))))))))
theorem qb_244_14 : ∀ u ∈ [u_244_140, u_244_141, u_244_142, u_244_143, u_244_144, u_244_145, u_244_146, u_244_147, u_244_148, u_244_149], pQ_244 u := pU_cons q_244_140 (pU_cons q_244_141 (pU_cons q_244_142 (pU_cons q_244_143 (pU_cons q_244_144 (pU_cons q_244_145 (pU_cons q_244_146 (pU_cons q_244_147 (pU_cons q_244_148 (pU_cons q_244_149 (pU_nil))))))))))
theorem qb_244_15 : ∀ u ∈ [u_244_150, u_244_151, u_244_152, u_244_153, u_244_154, u_244_155, u_244_156, u_244_157, u_244_158, u_244_159], pQ_244 u := pU_cons q_244_150 (pU_cons q_244_151 (pU_cons q_244_152 (pU_cons q_244_153 (pU_cons q_244_154 (pU_cons q_244_155 (pU_cons q_244_156 (pU_cons q_244_157 (pU_cons q_244_158 (pU_cons q_244_159 (pU_nil))))))))))
theorem qb_244_16 : ∀ u ∈ [u_244_160, u_244_161, u_244_162, u_244_163], pQ_244 u := pU_cons q_244_160 (pU_cons q_244_161 (pU_cons q_244_162 (pU_cons q_244_163 (pU_nil))))
theorem ok_244 : sInOk pPT i_244 := sInst3 (M := pm_94) (cus := us_244) pOk pg_94 (by decide +kernel) ⟨_, _, _, _, (pS_nil), (pV_cons (List.mem_of_getElem? (i := 0) rfl) (pV_nil)), e_244⟩ (show ∀ u ∈ us_244, pQ_244 u from (pU_app qb_244_0 (pU_app qb_244_1 (pU_app qb_244_2 (pU_app qb_244_3 (pU_app qb_244_4 (pU_app qb_244_5 (pU_app qb_244_6 (pU_app qb_244_7 (pU_app qb_244_8 (pU_app qb_244_9 (pU_app qb_244_10 (pU_app qb_244_11 (pU_app qb_244_12 (pU_app qb_244_13 (pU_app qb_244_14 (pU_app qb_244_15 qb_244_16)))))))))))))))))
def pQ_245 (u : sCu) : Prop := ∃ (SM : List sIn) (H : gHt) (cu : List sCu) (n : Nat), (∀ I ∈ SM, sInOk pPT I) ∧ (∀ v ∈ cu, v ∈ us_245) ∧ sWhU pPT SM H i_245 (mR pm_91) cu n u = true
theorem q_245_0 : pQ_245 u_245_0 := ⟨_, _, _, _, (pS_cons ok_190 (pS_nil)), (pV_nil), f_245_0⟩
theorem q_245_1 : pQ_245 u_245_1 := ⟨_, _, _, _, (pS_cons ok_114 (pS_cons ok_208 (pS_cons ok_244 (pS_nil)))), (pV_cons (List.mem_of_getElem? (i := 0) rfl) (pV_cons (List.mem_of_getElem? (i := 1) rfl) (pV_nil))), f_245_1⟩
theorem qb_245_0 : ∀ u ∈ [u_245_0, u_245_1], pQ_245 u := pU_cons q_245_0 (pU_cons q_245_1 (pU_nil))
theorem ok_245 : sInOk pPT i_245 := sInst3 (M := pm_91) (cus := us_245) pOk pg_91 (by decide +kernel) ⟨_, _, _, _, (pS_cons ok_244 (pS_nil)), (pV_cons (List.mem_of_getElem? (i := 0) rfl) (pV_cons (List.mem_of_getElem? (i := 1) rfl) (pV_nil))), e_245⟩ (show ∀ u ∈ us_245, pQ_245 u from qb_245_0)
def pQ_246 (u : sCu) : Prop := ∃ (SM : List sIn) (H : gHt) (cu : List sCu) (n : Nat), (∀ I ∈ SM, sInOk pPT I) ∧ (∀ v ∈ cu, v ∈ us_246) ∧ sWhU pPT SM H i_246 (mR pm_94) cu n u = true
theorem q_246_0 : pQ_246 u_246_0 := ⟨_, _, _, _, (pS_cons ok_179 (pS_cons ok_187 (pS_cons ok_188 (pS_cons ok_243 (pS_nil))))), (pV_cons (List.mem_of_getElem? (i := 1) rfl) (pV_nil)), f_246_0⟩
theorem q_246_1 : pQ_246 u_246_1 := ⟨_, _, _, _, (pS_nil), (pV_cons (List.mem_of_getElem? (i := 2) rfl) (pV_nil)), f_246_1⟩
theorem q_246_2 : pQ_246 u_246_2 := ⟨_, _, _, _, (pS_nil), (pV_nil), f_246_2⟩
theorem qb_246_0 : ∀ u ∈ [u_246_0, u_246_1, u_246_2], pQ_246 u := pU_cons q_246_0 (pU_cons q_246_1 (pU_cons q_246_2 (pU_nil)))
theorem ok_246 : sInOk pPT i_246 := sInst3 (M := pm_94) (cus := us_246) pOk pg_94 (by decide +kernel) ⟨_, _, _, _, (pS_nil), (pV_cons (List.mem_of_getElem? (i := 0) rfl) (pV_nil)), e_246⟩ (show ∀ u ∈ us_246, pQ_246 u from qb_246_0)
def pQ_247 (u : sCu) : Prop := ∃ (SM : List sIn) (H : gHt) (cu : List sCu) (n : Nat), (∀ I ∈ SM, sInOk pPT I) ∧ (∀ v ∈ cu, v ∈ us_247) ∧ sWhU pPT SM H i_247 (mR pm_91) cu n u = true
theorem q_247_0 : pQ_247 u_247_0 := ⟨_, _, _, _, (pS_cons ok_190 (pS_nil)), (pV_nil), f_247_0⟩
theorem qb_247_0 : ∀ u ∈ [u_247_0], pQ_247 u := pU_cons q_247_0 (pU_nil)
theorem ok_247 : sInOk pPT i_247 := sInst3 (M := pm_91) (cus := us_247) pOk pg_91 (by decide +kernel) ⟨_, _, _, _, (pS_cons ok_246 (pS_nil)), (pV_cons (List.mem_of_getElem? (i := 0) rfl) (pV_nil)), e_247⟩ (show ∀ u ∈ us_247, pQ_247 u from qb_247_0)
def pQ_248 (u : sCu) : Prop := ∃ (SM : List sIn) (H : gHt) (cu : List sCu) (n : Nat), (∀ I ∈ SM, sInOk pPT I) ∧ (∀ v ∈ cu, v ∈ us_248) ∧ sWhU pPT SM H i_248 (mR pm_92) cu n u = true
theorem q_248_0 : pQ_248 u_248_0 := ⟨_, _, _, _, (pS_cons ok_245 (pS_nil)), (pV_cons (List.mem_of_getElem? (i := 2) rfl) (pV_cons (List.mem_of_getElem? (i := 3) rfl) (pV_nil))), f_248_0⟩
theorem q_248_1 : pQ_248 u_248_1 := ⟨_, _, _, _, (pS_cons ok_247 (pS_nil)), (pV_cons (List.mem_of_getElem? (i := 2) rfl) (pV_nil)), f_248_1⟩
theorem q_248_2 : pQ_248 u_248_2 := ⟨_, _, _, _, (pS_cons ok_192 (pS_nil)), (pV_nil), f_248_2⟩
theorem q_248_3 : pQ_248 u_248_3 := ⟨_, _, _, _, (pS_cons ok_114 (pS_cons ok_212 (pS_cons ok_245 (pS_nil)))), (pV_cons (List.mem_of_getElem? (i := 2) rfl) (pV_cons (List.mem_of_getElem? (i := 3) rfl) (pV_nil))), f_248_3⟩
theorem qb_248_0 : ∀ u ∈ [u_248_0, u_248_1, u_248_2, u_248_3], pQ_248 u := pU_cons q_248_0 (pU_cons q_248_1 (pU_cons q_248_2 (pU_cons q_248_3 (pU_nil))))
theorem ok_248 : sInOk pPT i_248 := sInst3 (M := pm_92) (cus := us_248) pOk pg_92 (by decide +kernel) ⟨_, _, _, _, (pS_cons ok_160 (pS_nil)), (pV_cons (List.mem_of_getElem? (i := 0) rfl) (pV_cons (List.mem_of_getElem? (i := 1) rfl) (pV_nil))), e_248⟩ (show ∀ u ∈ us_248, pQ_248 u from qb_248_0)
theorem ok_249 : sInOk pPT i_249 := sInst3 (M := pm_96) (cus := []) pOk pg_96 (by decide +kernel) ⟨_, _, _, _, (pS_cons ok_114 (pS_cons ok_162 (pS_cons ok_164 (pS_cons ok_173 (pS_cons ok_174 (pS_cons ok_194 (pS_cons ok_215 (pS_cons ok_248 (pS_nil))))))))), pV_nil, e_249⟩ pU_nil
def pQ_250 (u : sCu) : Prop := ∃ (SM : List sIn) (H : gHt) (cu : List sCu) (n : Nat), (∀ I ∈ SM, sInOk pPT I) ∧ (∀ v ∈ cu, v ∈ us_250) ∧ sWhU pPT SM H i_250 (mR pm_97) cu n u = true
theorem q_250_0 : pQ_250 u_250_0 := ⟨_, _, _, _, (pS_cons ok_181 (pS_cons ok_182 (pS_nil))), (pV_nil), f_250_0⟩
theorem q_250_1 : pQ_250 u_250_1 := ⟨_, _, _, _, (pS_cons ok_196 (pS_cons ok_197 (pS_nil))), (pV_cons (List.mem_of_getElem? (i := 2) rfl) (pV_cons (List.mem_of_getElem? (i := 3) rfl) (pV_nil))), f_250_1⟩
theorem q_250_2 : pQ_250 u_250_2 := ⟨_, _, _, _, (pS_cons ok_196 (pS_nil)), (pV_cons (List.mem_of_getElem? (i := 4) rfl) (pV_cons (List.mem_of_getElem? (i := 5) rfl) (pV_nil))), f_250_2⟩
theorem q_250_3 : pQ_250 u_250_3 := ⟨_, _, _, _, (pS_cons ok_196 (pS_nil)), (pV_cons (List.mem_of_getElem? (i := 6) rfl) (pV_cons (List.mem_of_getElem? (i := 7) rfl) (pV_nil))), f_250_3⟩
theorem q_250_4 : pQ_250 u_250_4 := ⟨_, _, _, _, (pS_cons ok_114 (pS_cons ok_249 (pS_nil))), (pV_cons (List.mem_of_getElem? (i := 0) rfl) (pV_cons (List.mem_of_getElem? (i := 1) rfl) (pV_nil))), f_250_4⟩
theorem q_250_5 : pQ_250 u_250_5 := ⟨_, _, _, _, (pS_cons ok_114 (pS_cons ok_249 (pS_nil))), (pV_cons (List.mem_of_getElem? (i := 0) rfl) (pV_cons (List.mem_of_getElem? (i := 1) rfl) (pV_nil))), f_250_5⟩
theorem q_250_6 : pQ_250 u_250_6 := ⟨_, _, _, _, (pS_cons ok_114 (pS_cons ok_249 (pS_nil))), (pV_cons (List.mem_of_getElem? (i := 0) rfl) (pV_cons (List.mem_of_getElem? (i := 1) rfl) (pV_nil))), f_250_6⟩
theorem q_250_7 : pQ_250 u_250_7 := ⟨_, _, _, _, (pS_cons ok_114 (pS_cons ok_249 (pS_nil))), (pV_cons (List.mem_of_getElem? (i := 0) rfl) (pV_cons (List.mem_of_getElem? (i := 1) rfl) (pV_nil))), f_250_7⟩
theorem qb_250_0 : ∀ u ∈ [u_250_0, u_250_1, u_250_2, u_250_3, u_250_4, u_250_5, u_250_6, u_250_7], pQ_250 u := pU_cons q_250_0 (pU_cons q_250_1 (pU_cons q_250_2 (pU_cons q_250_3 (pU_cons q_250_4 (pU_cons q_250_5 (pU_cons q_250_6 (pU_cons q_250_7 (pU_nil))))))))
theorem ok_250 : sInOk pPT i_250 := sInst3 (M := pm_97) (cus := us_250) pOk pg_97 (by decide +kernel) ⟨_, _, _, _, (pS_cons ok_249 (pS_nil)), (pV_cons (List.mem_of_getElem? (i := 0) rfl) (pV_cons (List.mem_of_getElem? (i := 1) rfl) (pV_nil))), e_250⟩ (show ∀ u ∈ us_250, pQ_250 u from qb_250_0)
def pQ_251 (u : sCu) : Prop := ∃ (SM : List sIn) (H : gHt) (cu : List sCu) (n : Nat), (∀ I ∈ SM, sInOk pPT I) ∧ (∀ v ∈ cu, v ∈ us_251) ∧ sWhU pPT SM H i_251 (mR pm_98) cu n u = true
theorem q_251_0 : pQ_251 u_251_0 := ⟨_, _, _, _, (pS_cons ok_184 (pS_cons ok_185 (pS_nil))), (pV_nil), f_251_0⟩
theorem q_251_1 : pQ_251 u_251_1 := ⟨_, _, _, _, (pS_cons ok_199 (pS_cons ok_200 (pS_nil))), (pV_cons (List.mem_of_getElem? (i := 2) rfl) (pV_cons (List.mem_of_getElem? (i := 3) rfl) (pV_nil))), f_251_1⟩
theorem q_251_2 : pQ_251 u_251_2 := ⟨_, _, _, _, (pS_cons ok_199 (pS_nil)), (pV_cons (List.mem_of_getElem? (i := 4) rfl) (pV_cons (List.mem_of_getElem? (i := 5) rfl) (pV_nil))), f_251_2⟩
theorem q_251_3 : pQ_251 u_251_3 := ⟨_, _, _, _, (pS_cons ok_199 (pS_nil)), (pV_cons (List.mem_of_getElem? (i := 6) rfl) (pV_cons (List.mem_of_getElem? (i := 7) rfl) (pV_nil))), f_251_3⟩
theorem q_251_4 : pQ_251 u_251_4 := ⟨_, _, _, _, (pS_cons ok_114 (pS_cons ok_250 (pS_nil))), (pV_cons (List.mem_of_getElem? (i := 0) rfl) (pV_cons (List.mem_of_getElem? (i := 1) rfl) (pV_nil))), f_251_4⟩
theorem q_251_5 : pQ_251 u_251_5 := ⟨_, _, _, _, (pS_cons ok_114 (pS_cons ok_250 (pS_nil))), (pV_cons (List.mem_of_getElem? (i := 0) rfl) (pV_cons (List.mem_of_getElem? (i := 1) rfl) (pV_nil))), f_251_5⟩
theorem q_251_6 : pQ_251 u_251_6 := ⟨_, _, _, _, (pS_cons ok_114 (pS_cons ok_250 (pS_nil))), (pV_cons (List.mem_of_getElem? (i := 0) rfl) (pV_cons (List.mem_of_getElem? (i := 1) rfl) (pV_nil))), f_251_6⟩
theorem q_251_7 : pQ_251 u_251_7 := ⟨_, _, _, _, (pS_cons ok_114 (pS_cons ok_250 (pS_nil))), (pV_cons (List.mem_of_getElem? (i := 0) rfl) (pV_cons (List.mem_of_getElem? (i := 1) rfl) (pV_nil))), f_251_7⟩
theorem qb_251_0 : ∀ u ∈ [u_251_0, u_251_1, u_251_2, u_251_3, u_251_4, u_251_5, u_251_6, u_251_7], pQ_251 u := pU_cons q_251_0 (pU_cons q_251_1 (pU_cons q_251_2 (pU_cons q_251_3 (pU_cons q_251_4 (pU_cons q_251_5 (pU_cons q_251_6 (pU_cons q_251_7 (pU_nil))))))))
theorem ok_251 : sInOk pPT i_251 := sInst3 (M := pm_98) (cus := us_251) pOk pg_98 (by decide +kernel) ⟨_, _, _, _, (pS_cons ok_250 (pS_nil)), (pV_cons (List.mem_of_getElem? (i := 0) rfl) (pV_cons (List.mem_of_getElem? (i := 1) rfl) (pV_nil))), e_251⟩ (show ∀ u ∈ us_251, pQ_251 u from qb_251_0)
theorem ok_252 : sInOk pPT i_252 := sInst3 (M := pm_96) (cus := []) pOk pg_96 (by decide +kernel) ⟨_, _, _, _, (pS_nil), pV_nil, e_252⟩ pU_nil
def pQ_253 (u : sCu) : Prop := ∃ (SM : List sIn) (H : gHt) (cu : List sCu) (n : Nat), (∀ I ∈ SM, sInOk pPT I) ∧ (∀ v ∈ cu, v ∈ us_253) ∧ sWhU pPT SM H i_253 (mR pm_97) cu n u = true
theorem q_253_0 : pQ_253 u_253_0 := ⟨_, _, _, _, (pS_cons ok_181 (pS_cons ok_182 (pS_nil))), (pV_nil), f_253_0⟩
theorem qb_253_0 : ∀ u ∈ [u_253_0], pQ_253 u := pU_cons q_253_0 (pU_nil)
theorem ok_253 : sInOk pPT i_253 := sInst3 (M := pm_97) (cus := us_253) pOk pg_97 (by decide +kernel) ⟨_, _, _, _, (pS_cons ok_252 (pS_nil)), (pV_cons (List.mem_of_getElem? (i := 0) rfl) (pV_nil)), e_253⟩ (show ∀ u ∈ us_253, pQ_253 u from qb_253_0)
def pQ_254 (u : sCu) : Prop := ∃ (SM : List sIn) (H : gHt) (cu : List sCu) (n : Nat), (∀ I ∈ SM, sInOk pPT I) ∧ (∀ v ∈ cu, v ∈ us_254) ∧ sWhU pPT SM H i_254 (mR pm_98) cu n u = true
theorem q_254_0 : pQ_254 u_254_0 := ⟨_, _, _, _, (pS_cons ok_184 (pS_cons ok_185 (pS_nil))), (pV_nil), f_254_0⟩
theorem qb_254_0 : ∀ u ∈ [u_254_0], pQ_254 u := pU_cons q_254_0 (pU_nil)
theorem ok_254 : sInOk pPT i_254 := sInst3 (M := pm_98) (cus := us_254) pOk pg_98 (by decide +kernel) ⟨_, _, _, _, (pS_cons ok_253 (pS_nil)), (pV_cons (List.mem_of_getElem? (i := 0) rfl) (pV_nil)), e_254⟩ (show ∀ u ∈ us_254, pQ_254 u from qb_254_0)
def pQ_255 (u : sCu) : Prop := ∃ (SM : List sIn) (H : gHt) (cu : List sCu) (n : Nat), (∀ I ∈ SM, sInOk pPT I) ∧ (∀ v ∈ cu, v ∈ us_255) ∧ sWhU pPT SM H i_255 (mR pm_94) cu n u = true
theorem q_255_0 : pQ_255 u_255_0 := ⟨_, _, _, _, (pS_cons ok_161 (pS_cons ok_187 (pS_cons ok_188 (pS_cons ok_202 (pS_cons ok_203 (pS_cons ok_251 (pS_nil))))))), (pV_cons (List.mem_of_getElem? (i := 1) rfl) (pV_cons (List.mem_of_getElem? (i := 2) rfl) (pV_cons (List.mem_of_getElem? (i := 3) rfl) (pV_cons (List.mem_of_getElem? (i := 4) rfl) (pV_cons (List.mem_of_getElem? (i := 5) rfl) (pV_nil)))))), f_255_0⟩
theorem q_255_1 : pQ_255 u_255_1 := ⟨_, _, _, _, (pS_nil), (pV_cons (List.mem_of_getElem? (i := 6) rfl) (pV_nil)), f_255_1⟩
theorem q_255_2 : pQ_255 u_255_2 := ⟨_, _, _, _, (pS_cons ok_202 (pS_nil)), (pV_cons (List.mem_of_getElem? (i := 7) rfl) (pV_cons (List.mem_of_getElem? (i := 8) rfl) (pV_nil))), f_255_2⟩
theorem q_255_3 : pQ_255 u_255_3 := ⟨_, _, _, _, (pS_cons ok_202 (pS_nil)), (pV_cons (List.mem_of_getElem? (i := 7) rfl) (pV_cons (List.mem_of_getElem? (i := 10) rfl) (pV_nil))), f_255_3⟩
theorem q_255_4 : pQ_255 u_255_4 := ⟨_, _, _, _, (pS_nil), (pV_cons (List.mem_of_getElem? (i := 11) rfl) (pV_nil)), f_255_4⟩
theorem q_255_5 : pQ_255 u_255_5 := ⟨_, _, _, _, (pS_cons ok_114 (pS_nil)), (pV_cons (List.mem_of_getElem? (i := 12) rfl) (pV_nil)), f_255_5⟩
theorem q_255_6 : pQ_255 u_255_6 := ⟨_, _, _, _, (pS_nil), (pV_nil), f_255_6⟩
theorem q_255_7 : pQ_255 u_255_7 := ⟨_, _, _, _, (pS_cons ok_114 (pS_cons ok_251 (pS_nil))), (pV_cons (List.mem_of_getElem? (i := 1) rfl) (pV_cons (List.mem_of_getElem? (i := 14) rfl) (pV_nil))), f_255_7⟩
theorem q_255_8 : pQ_255 u_255_8 := ⟨_, _, _, _, (pS_cons ok_114 (pS_cons ok_251 (pS_nil))), (pV_cons (List.mem_of_getElem? (i := 1) rfl) (pV_cons (List.mem_of_getElem? (i := 14) rfl) (pV_nil))), f_255_8⟩
theorem q_255_9 : pQ_255 u_255_9 := ⟨_, _, _, _, (pS_cons ok_114 (pS_cons ok_251 (pS_nil))), (pV_cons (List.mem_of_getElem? (i := 1) rfl) (pV_cons (List.mem_of_getElem? (i := 14) rfl) (pV_nil))), f_255_9⟩
theorem q_255_10 : pQ_255 u_255_10 := ⟨_, _, _, _, (pS_cons ok_114 (pS_cons ok_251 (pS_nil))), (pV_cons (List.mem_of_getElem? (i := 1) rfl) (pV_cons (List.mem_of_getElem? (i := 14) rfl) (pV_nil))), f_255_10⟩
theorem q_255_11 : pQ_255 u_255_11 := ⟨_, _, _, _, (pS_nil), (pV_nil), f_255_11⟩
theorem q_255_12 : pQ_255 u_255_12 := ⟨_, _, _, _, (pS_cons ok_161 (pS_cons ok_187 (pS_cons ok_188 (pS_cons ok_202 (pS_cons ok_203 (pS_cons ok_251 (pS_nil))))))), (pV_cons (List.mem_of_getElem? (i := 17) rfl) (pV_cons (List.mem_of_getElem? (i := 18) rfl) (pV_cons (List.mem_of_getElem? (i := 19) rfl) (pV_cons (List.mem_of_getElem? (i := 20) rfl) (pV_cons (List.mem_of_getElem? (i := 21) rfl) (pV_nil)))))), f_255_12⟩
theorem q_255_13 : pQ_255 u_255_13 := ⟨_, _, _, _, (pS_nil), (pV_cons (List.mem_of_getElem? (i := 6) rfl) (pV_nil)), f_255_13⟩
theorem q_255_14 : pQ_255 u_255_14 := ⟨_, _, _, _, (pS_nil), (pV_cons (List.mem_of_getElem? (i := 11) rfl) (pV_nil)), f_255_14⟩
theorem q_255_15 : pQ_255 u_255_15 := ⟨_, _, _, _, (pS_nil), (pV_cons (List.mem_of_getElem? (i := 6) rfl) (pV_nil)), f_255_15⟩
theorem q_255_16 : pQ_255 u_255_16 := ⟨_, _, _, _, (pS_nil), (pV_cons (List.mem_of_getElem? (i := 11) rfl) (pV_nil)), f_255_16⟩
theorem q_255_17 : pQ_255 u_255_17 := ⟨_, _, _, _, (pS_nil), (pV_cons (List.mem_of_getElem? (i := 22) rfl) (pV_nil)), f_255_17⟩
theorem q_255_18 : pQ_255 u_255_18 := ⟨_, _, _, _, (pS_cons ok_202 (pS_nil)), (pV_cons (List.mem_of_getElem? (i := 23) rfl) (pV_cons (List.mem_of_getElem? (i := 24) rfl) (pV_nil))), f_255_18⟩
theorem q_255_19 : pQ_255 u_255_19 := ⟨_, _, _, _, (pS_cons ok_202 (pS_nil)), (pV_cons (List.mem_of_getElem? (i := 23) rfl) (pV_cons (List.mem_of_getElem? (i := 26) rfl) (pV_nil))), f_255_19⟩
theorem q_255_20 : pQ_255 u_255_20 := ⟨_, _, _, _, (pS_nil), (pV_cons (List.mem_of_getElem? (i := 27) rfl) (pV_nil)), f_255_20⟩
theorem q_255_21 : pQ_255 u_255_21 := ⟨_, _, _, _, (pS_cons ok_114 (pS_nil)), (pV_cons (List.mem_of_getElem? (i := 28) rfl) (pV_nil)), f_255_21⟩
theorem q_255_22 : pQ_255 u_255_22 := ⟨_, _, _, _, (pS_nil), (pV_cons (List.mem_of_getElem? (i := 29) rfl) (pV_nil)), f_255_22⟩
theorem q_255_23 : pQ_255 u_255_23 := ⟨_, _, _, _, (pS_cons ok_114 (pS_cons ok_251 (pS_nil))), (pV_cons (List.mem_of_getElem? (i := 17) rfl) (pV_cons (List.mem_of_getElem? (i := 31) rfl) (pV_nil))), f_255_23⟩
theorem q_255_24 : pQ_255 u_255_24 := ⟨_, _, _, _, (pS_cons ok_114 (pS_cons ok_251 (pS_nil))), (pV_cons (List.mem_of_getElem? (i := 17) rfl) (pV_cons (List.mem_of_getElem? (i := 31) rfl) (pV_nil))), f_255_24⟩
theorem q_255_25 : pQ_255 u_255_25 := ⟨_, _, _, _, (pS_cons ok_114 (pS_cons ok_251 (pS_nil))), (pV_cons (List.mem_of_getElem? (i := 17) rfl) (pV_cons (List.mem_of_getElem? (i := 31) rfl) (pV_nil))), f_255_25⟩
theorem q_255_26 : pQ_255 u_255_26 := ⟨_, _, _, _, (pS_cons ok_114 (pS_cons ok_251 (pS_nil))), (pV_cons (List.mem_of_getElem? (i := 17) rfl) (pV_cons (List.mem_of_getElem? (i := 31) rfl) (pV_nil))), f_255_26⟩
theorem q_255_27 : pQ_255 u_255_27 := ⟨_, _, _, _, (pS_nil), (pV_cons (List.mem_of_getElem? (i := 34) rfl) (pV_nil)), f_255_27⟩
theorem q_255_28 : pQ_255 u_255_28 := ⟨_, _, _, _, (pS_cons ok_161 (pS_cons ok_187 (pS_cons ok_188 (pS_cons ok_202 (pS_cons ok_203 (pS_cons ok_251 (pS_nil))))))), (pV_cons (List.mem_of_getElem? (i := 35) rfl) (pV_cons (List.mem_of_getElem? (i := 36) rfl) (pV_cons (List.mem_of_getElem? (i := 37) rfl) (pV_cons (List.mem_of_getElem? (i := 38) rfl) (pV_cons (List.mem_of_getElem? (i := 39) rfl) (pV_nil)))))), f_255_28⟩
theorem q_255_29 : pQ_255 u_255_29 := ⟨_, _, _, _, (pS_nil), (pV_nil), f_255_29⟩
theorem q_255_30 : pQ_255 u_255_30 := ⟨_, _, _, _, (pS_nil), (pV_cons (List.mem_of_getElem? (i := 22) rfl) (pV_nil)), f_255_30⟩
theorem q_255_31 : pQ_255 u_255_31 := ⟨_, _, _, _, (pS_nil), (pV_cons (List.mem_of_getElem? (i := 27) rfl) (pV_nil)), f_255_31⟩
theorem q_255_32 : pQ_255 u_255_32 := ⟨_, _, _, _, (pS_nil), (pV_cons (List.mem_of_getElem? (i := 22) rfl) (pV_nil)), f_255_32⟩
theorem q_255_33 : pQ_255 u_255_33 := ⟨_, _, _, _, (pS_nil), (pV_cons (List.mem_of_getElem? (i := 27) rfl) (pV_nil)), f_255_33⟩
theorem q_255_34 : pQ_255 u_255_34 := ⟨_, _, _, _, (pS_nil), (pV_nil), f_255_34⟩
theorem q_255_35 : pQ_255 u_255_35 := ⟨_, _, _, _, (pS_nil), (pV_cons (List.mem_of_getElem? (i := 40) rfl) (pV_nil)), f_255_35⟩
theorem q_255_36 : pQ_255 u_255_36 := ⟨_, _, _, _, (pS_cons ok_202 (pS_nil)), (pV_cons (List.mem_of_getElem? (i := 41) rfl) (pV_cons (List.mem_of_getElem? (i := 42) rfl) (pV_nil))), f_255_36⟩
theorem q_255_37 : pQ_255 u_255_37 := ⟨_, _, _, _, (pS_cons ok_202 (pS_nil)), (pV_cons (List.mem_of_getElem? (i := 41) rfl) (pV_cons (List.mem_of_getElem? (i := 44) rfl) (pV_nil))), f_255_37⟩
theorem q_255_38 : pQ_255 u_255_38 := ⟨_, _, _, _, (pS_nil), (pV_cons (List.mem_of_getElem? (i := 45) rfl) (pV_nil)), f_255_38⟩
theorem q_255_39 : pQ_255 u_255_39 := ⟨_, _, _, _, (pS_cons ok_114 (pS_nil)), (pV_cons (List.mem_of_getElem? (i := 46) rfl) (pV_nil)), f_255_39⟩
theorem q_255_40 : pQ_255 u_255_40 := ⟨_, _, _, _, (pS_nil), (pV_cons (List.mem_of_getElem? (i := 47) rfl) (pV_nil)), f_255_40⟩
theorem q_255_41 : pQ_255 u_255_41 := ⟨_, _, _, _, (pS_cons ok_114 (pS_cons ok_251 (pS_nil))), (pV_cons (List.mem_of_getElem? (i := 35) rfl) (pV_cons (List.mem_of_getElem? (i := 49) rfl) (pV_nil))), f_255_41⟩
theorem q_255_42 : pQ_255 u_255_42 := ⟨_, _, _, _, (pS_cons ok_114 (pS_cons ok_251 (pS_nil))), (pV_cons (List.mem_of_getElem? (i := 35) rfl) (pV_cons (List.mem_of_getElem? (i := 49) rfl) (pV_nil))), f_255_42⟩
theorem q_255_43 : pQ_255 u_255_43 := ⟨_, _, _, _, (pS_cons ok_114 (pS_cons ok_251 (pS_nil))), (pV_cons (List.mem_of_getElem? (i := 35) rfl) (pV_cons (List.mem_of_getElem? (i := 49) rfl) (pV_nil))), f_255_43⟩
theorem q_255_44 : pQ_255 u_255_44 := ⟨_, _, _, _, (pS_cons ok_114 (pS_cons ok_251 (pS_nil))), (pV_cons (List.mem_of_getElem? (i := 35) rfl) (pV_cons (List.mem_of_getElem? (i := 49) rfl) (pV_nil))), f_255_44⟩
theorem q_255_45 : pQ_255 u_255_45 := ⟨_, _, _, _, (pS_nil), (pV_cons (List.mem_of_getElem? (i := 52) rfl) (pV_nil)), f_255_45⟩
theorem q_255_46 : pQ_255 u_255_46 := ⟨_, _, _, _, (pS_cons ok_161 (pS_cons ok_187 (pS_cons ok_188 (pS_cons ok_202 (pS_cons ok_203 (pS_cons ok_251 (pS_nil))))))), (pV_cons (List.mem_of_getElem? (i := 53) rfl) (pV_cons (List.mem_of_getElem? (i := 54) rfl) (pV_cons (List.mem_of_getElem? (i := 55) rfl) (pV_cons (List.mem_of_getElem? (i := 56) rfl) (pV_cons (List.mem_of_getElem? (i := 57) rfl) (pV_nil)))))), f_255_46⟩
theorem q_255_47 : pQ_255 u_255_47 := ⟨_, _, _, _, (pS_nil), (pV_cons (List.mem_of_getElem? (i := 58) rfl) (pV_nil)), f_255_47⟩
theorem q_255_48 : pQ_255 u_255_48 := ⟨_, _, _, _, (pS_nil), (pV_cons (List.mem_of_getElem? (i := 40) rfl) (pV_nil)), f_255_48⟩
theorem q_255_49 : pQ_255 u_255_49 := ⟨_, _, _, _, (pS_nil), (pV_cons (List.mem_of_getElem? (i := 45) rfl) (pV_nil)), f_255_49⟩
theorem q_255_50 : pQ_255 u_255_50 := ⟨_, _, _, _, (pS_nil), (pV_cons (List.mem_of_getElem? (i := 40) rfl) (pV_nil)), f_255_50⟩
theorem q_255_51 : pQ_255 u_255_51 := ⟨_, _, _, _, (pS_nil), (pV_cons (List.mem_of_getElem? (i := 45) rfl) (pV_nil)), f_255_51⟩
theorem q_255_52 : pQ_255 u_255_52 := ⟨_, _, _, _, (pS_nil), (pV_cons (List.mem_of_getElem? (i := 59) rfl) (pV_nil)), f_255_52⟩
theorem q_255_53 : pQ_255 u_255_53 := ⟨_, _, _, _, (pS_nil), (pV_cons (List.mem_of_getElem? (i := 60) rfl) (pV_nil)), f_255_53⟩
theorem q_255_54 : pQ_255 u_255_54 := ⟨_, _, _, _, (pS_cons ok_202 (pS_nil)), (pV_cons (List.mem_of_getElem? (i := 61) rfl) (pV_cons (List.mem_of_getElem? (i := 62) rfl) (pV_nil))), f_255_54⟩
theorem q_255_55 : pQ_255 u_255_55 := ⟨_, _, _, _, (pS_cons ok_202 (pS_nil)), (pV_cons (List.mem_of_getElem? (i := 61) rfl) (pV_cons (List.mem_of_getElem? (i := 64) rfl) (pV_nil))), f_255_55⟩
theorem q_255_56 : pQ_255 u_255_56 := ⟨_, _, _, _, (pS_nil), (pV_cons (List.mem_of_getElem? (i := 65) rfl) (pV_nil)), f_255_56⟩
theorem q_255_57 : pQ_255 u_255_57 := ⟨_, _, _, _, (pS_cons ok_114 (pS_nil)), (pV_cons (List.mem_of_getElem? (i := 66) rfl) (pV_nil)), f_255_57⟩
theorem q_255_58 : pQ_255 u_255_58 := ⟨_, _, _, _, (pS_nil), (pV_nil), f_255_58⟩
theorem q_255_59 : pQ_255 u_255_59 := ⟨_, _, _, _, (pS_nil), (pV_nil), f_255_59⟩
theorem q_255_60 : pQ_255 u_255_60 := ⟨_, _, _, _, (pS_nil), (pV_cons (List.mem_of_getElem? (i := 67) rfl) (pV_nil)), f_255_60⟩
theorem q_255_61 : pQ_255 u_255_61 := ⟨_, _, _, _, (pS_cons ok_114 (pS_cons ok_251 (pS_nil))), (pV_cons (List.mem_of_getElem? (i := 53) rfl) (pV_cons (List.mem_of_getElem? (i := 69) rfl) (pV_nil))), f_255_61⟩
theorem q_255_62 : pQ_255 u_255_62 := ⟨_, _, _, _, (pS_cons ok_114 (pS_cons ok_251 (pS_nil))), (pV_cons (List.mem_of_getElem? (i := 53) rfl) (pV_cons (List.mem_of_getElem? (i := 69) rfl) (pV_nil))), f_255_62⟩
theorem q_255_63 : pQ_255 u_255_63 := ⟨_, _, _, _, (pS_cons ok_114 (pS_cons ok_251 (pS_nil))), (pV_cons (List.mem_of_getElem? (i := 53) rfl) (pV_cons (List.mem_of_getElem? (i := 69) rfl) (pV_nil))), f_255_63⟩
theorem q_255_64 : pQ_255 u_255_64 := ⟨_, _, _, _, (pS_cons ok_114 (pS_cons ok_251 (pS_nil))), (pV_cons (List.mem_of_getElem? (i := 53) rfl) (pV_cons (List.mem_of_getElem? (i := 69) rfl) (pV_nil))), f_255_64⟩
theorem q_255_65 : pQ_255 u_255_65 := ⟨_, _, _, _, (pS_nil), (pV_cons (List.mem_of_getElem? (i := 72) rfl) (pV_nil)), f_255_65⟩
theorem q_255_66 : pQ_255 u_255_66 := ⟨_, _, _, _, (pS_cons ok_161 (pS_cons ok_187 (pS_cons ok_188 (pS_cons ok_202 (pS_cons ok_203 (pS_cons ok_251 (pS_nil))))))), (pV_cons (List.mem_of_getElem? (i := 73) rfl) (pV_cons (List.mem_of_getElem? (i := 74) rfl) (pV_cons (List.mem_of_getElem? (i := 75) rfl) (pV_cons (List.mem_of_getElem? (i := 76) rfl) (pV_cons (List.mem_of_getElem? (i := 77) rfl) (pV_nil)))))), f_255_66⟩
theorem q_255_67 : pQ_255 u_255_67 := ⟨_, _, _, _, (pS_nil), (pV_cons (List.mem_of_getElem? (i := 78) rfl) (pV_nil)), f_255_67⟩
theorem q_255_68 : pQ_255 u_255_68 := ⟨_, _, _, _, (pS_nil), (pV_cons (List.mem_of_getElem? (i := 60) rfl) (pV_nil)), f_255_68⟩
theorem q_255_69 : pQ_255 u_255_69 := ⟨_, _, _, _, (pS_nil), (pV_cons (List.mem_of_getElem? (i := 65) rfl) (pV_nil)), f_255_69⟩
theorem q_255_70 : pQ_255 u_255_70 := ⟨_, _, _, _, (pS_nil), (pV_cons (List.mem_of_getElem? (i := 60) rfl) (pV_nil)), f_255_70⟩
theorem q_255_71 : pQ_255 u_255_71 := ⟨_, _, _, _, (pS_nil), (pV_cons (List.mem_of_getElem? (i := 65) rfl) (pV_nil)), f_255_71⟩
theorem q_255_72 : pQ_255 u_255_72 := ⟨_, _, _, _, (pS_nil), (pV_cons (List.mem_of_getElem? (i := 79) rfl) (pV_nil)), f_255_72⟩
theorem q_255_73 : pQ_255 u_255_73 := ⟨_, _, _, _, (pS_nil), (pV_cons (List.mem_of_getElem? (i := 80) rfl) (pV_nil)), f_255_73⟩
theorem q_255_74 : pQ_255 u_255_74 := ⟨_, _, _, _, (pS_cons ok_202 (pS_nil)), (pV_cons (List.mem_of_getElem? (i := 81) rfl) (pV_cons (List.mem_of_getElem? (i := 82) rfl) (pV_nil))), f_255_74⟩
theorem q_255_75 : pQ_255 u_255_75 := ⟨_, _, _, _, (pS_cons ok_202 (pS_nil)), (pV_cons (List.mem_of_getElem? (i := 81) rfl) (pV_cons (List.mem_of_getElem? (i := 84) rfl) (pV_nil))), f_255_75⟩
theorem q_255_76 : pQ_255 u_255_76 := ⟨_, _, _, _, (pS_nil), (pV_cons (List.mem_of_getElem? (i := 85) rfl) (pV_nil)), f_255_76⟩
theorem q_255_77 : pQ_255 u_255_77 := ⟨_, _, _, _, (pS_cons ok_114 (pS_nil)), (pV_cons (List.mem_of_getElem? (i := 86) rfl) (pV_nil)), f_255_77⟩
theorem q_255_78 : pQ_255 u_255_78 := ⟨_, _, _, _, (pS_nil), (pV_cons (List.mem_of_getElem? (i := 87) rfl) (pV_nil)), f_255_78⟩
theorem q_255_79 : pQ_255 u_255_79 := ⟨_, _, _, _, (pS_nil), (pV_cons (List.mem_of_getElem? (i := 88) rfl) (pV_nil)), f_255_79⟩
theorem q_255_80 : pQ_255 u_255_80 := ⟨_, _, _, _, (pS_nil), (pV_cons (List.mem_of_getElem? (i := 89) rfl) (pV_nil)), f_255_80⟩
theorem q_255_81 : pQ_255 u_255_81 := ⟨_, _, _, _, (pS_cons ok_114 (pS_cons ok_251 (pS_nil))), (pV_cons (List.mem_of_getElem? (i := 73) rfl) (pV_cons (List.mem_of_getElem? (i := 91) rfl) (pV_nil))), f_255_81⟩
theorem q_255_82 : pQ_255 u_255_82 := ⟨_, _, _, _, (pS_cons ok_114 (pS_cons ok_251 (pS_nil))), (pV_cons (List.mem_of_getElem? (i := 73) rfl) (pV_cons (List.mem_of_getElem? (i := 91) rfl) (pV_nil))), f_255_82⟩
theorem q_255_83 : pQ_255 u_255_83 := ⟨_, _, _, _, (pS_cons ok_114 (pS_cons ok_251 (pS_nil))), (pV_cons (List.mem_of_getElem? (i := 73) rfl) (pV_cons (List.mem_of_getElem? (i := 91) rfl) (pV_nil))), f_255_83⟩
theorem q_255_84 : pQ_255 u_255_84 := ⟨_, _, _, _, (pS_cons ok_114 (pS_cons ok_251 (pS_nil))), (pV_cons (List.mem_of_getElem? (i := 73) rfl) (pV_cons (List.mem_of_getElem? (i := 91) rfl) (pV_nil))), f_255_84⟩
theorem q_255_85 : pQ_255 u_255_85 := ⟨_, _, _, _, (pS_nil), (pV_cons (List.mem_of_getElem? (i := 94) rfl) (pV_nil)), f_255_85⟩
theorem q_255_86 : pQ_255 u_255_86 := ⟨_, _, _, _, (pS_cons ok_161 (pS_cons ok_187 (pS_cons ok_188 (pS_cons ok_202 (pS_cons ok_203 (pS_cons ok_251 (pS_nil))))))), (pV_cons (List.mem_of_getElem? (i := 95) rfl) (pV_cons (List.mem_of_getElem? (i := 96) rfl) (pV_cons (List.mem_of_getElem? (i := 97) rfl) (pV_cons (List.mem_of_getElem? (i := 98) rfl) (pV_cons (List.mem_of_getElem? (i := 99) rfl) (pV_nil)))))), f_255_86⟩
theorem q_255_87 : pQ_255 u_255_87 := ⟨_, _, _, _, (pS_nil), (pV_nil), f_255_87⟩
theorem q_255_88 : pQ_255 u_255_88 := ⟨_, _, _, _, (pS_nil), (pV_nil), f_255_88⟩
theorem q_255_89 : pQ_255 u_255_89 := ⟨_, _, _, _, (pS_nil), (pV_cons (List.mem_of_getElem? (i := 100) rfl) (pV_nil)), f_255_89⟩
theorem q_255_90 : pQ_255 u_255_90 := ⟨_, _, _, _, (pS_nil), (pV_cons (List.mem_of_getElem? (i := 80) rfl) (pV_nil)), f_255_90⟩
theorem q_255_91 : pQ_255 u_255_91 := ⟨_, _, _, _, (pS_nil), (pV_cons (List.mem_of_getElem? (i := 85) rfl) (pV_nil)), f_255_91⟩
theorem q_255_92 : pQ_255 u_255_92 := ⟨_, _, _, _, (pS_nil), (pV_cons (List.mem_of_getElem? (i := 80) rfl) (pV_nil)), f_255_92⟩
theorem q_255_93 : pQ_255 u_255_93 := ⟨_, _, _, _, (pS_nil), (pV_cons (List.mem_of_getElem? (i := 85) rfl) (pV_nil)), f_255_93⟩
theorem q_255_94 : pQ_255 u_255_94 := ⟨_, _, _, _, (pS_nil), (pV_cons (List.mem_of_getElem? (i := 101) rfl) (pV_nil)), f_255_94⟩
theorem q_255_95 : pQ_255 u_255_95 := ⟨_, _, _, _, (pS_nil), (pV_cons (List.mem_of_getElem? (i := 102) rfl) (pV_nil)), f_255_95⟩
theorem q_255_96 : pQ_255 u_255_96 := ⟨_, _, _, _, (pS_cons ok_202 (pS_nil)), (pV_cons (List.mem_of_getElem? (i := 103) rfl) (pV_cons (List.mem_of_getElem? (i := 104) rfl) (pV_nil))), f_255_96⟩
theorem q_255_97 : pQ_255 u_255_97 := ⟨_, _, _, _, (pS_cons ok_202 (pS_nil)), (pV_cons (List.mem_of_getElem? (i := 103) rfl) (pV_cons (List.mem_of_getElem? (i := 106) rfl) (pV_nil))), f_255_97⟩
theorem q_255_98 : pQ_255 u_255_98 := ⟨_, _, _, _, (pS_nil), (pV_cons (List.mem_of_getElem? (i := 107) rfl) (pV_nil)), f_255_98⟩
theorem q_255_99 : pQ_255 u_255_99 := ⟨_, _, _, _, (pS_cons ok_114 (pS_nil)), (pV_cons (List.mem_of_getElem? (i := 108) rfl) (pV_nil)), f_255_99⟩
theorem q_255_100 : pQ_255 u_255_100 := ⟨_, _, _, _, (pS_nil), (pV_cons (List.mem_of_getElem? (i := 109) rfl) (pV_nil)), f_255_100⟩
theorem q_255_101 : pQ_255 u_255_101 := ⟨_, _, _, _, (pS_nil), (pV_cons (List.mem_of_getElem? (i := 110) rfl) (pV_nil)), f_255_101⟩
theorem q_255_102 : pQ_255 u_255_102 := ⟨_, _, _, _, (pS_nil), (pV_cons (List.mem_of_getElem? (i := 111) rfl) (pV_nil)), f_255_102⟩
theorem q_255_103 : pQ_255 u_255_103 := ⟨_, _, _, _, (pS_cons ok_114 (pS_cons ok_251 (pS_nil))), (pV_cons (List.mem_of_getElem? (i := 95) rfl) (pV_cons (List.mem_of_getElem? (i := 113) rfl) (pV_nil))), f_255_103⟩
theorem q_255_104 : pQ_255 u_255_104 := ⟨_, _, _, _, (pS_cons ok_114 (pS_cons ok_251 (pS_nil))), (pV_cons (List.mem_of_getElem? (i := 95) rfl) (pV_cons (List.mem_of_getElem? (i := 113) rfl) (pV_nil))), f_255_104⟩
theorem q_255_105 : pQ_255 u_255_105 := ⟨_, _, _, _, (pS_cons ok_114 (pS_cons ok_251 (pS_nil))), (pV_cons (List.mem_of_getElem? (i := 95) rfl) (pV_cons (List.mem_of_getElem? (i := 113) rfl) (pV_nil))), f_255_105⟩
theorem q_255_106 : pQ_255 u_255_106 := ⟨_, _, _, _, (pS_cons ok_114 (pS_cons ok_251 (pS_nil))), (pV_cons (List.mem_of_getElem? (i := 95) rfl) (pV_cons (List.mem_of_getElem? (i := 113) rfl) (pV_nil))), f_255_106⟩
theorem q_255_107 : pQ_255 u_255_107 := ⟨_, _, _, _, (pS_nil), (pV_cons (List.mem_of_getElem? (i := 116) rfl) (pV_nil)), f_255_107⟩
theorem q_255_108 : pQ_255 u_255_108 := ⟨_, _, _, _, (pS_cons ok_161 (pS_cons ok_187 (pS_cons ok_188 (pS_cons ok_202 (pS_cons ok_203 (pS_cons ok_251 (pS_nil))))))), (pV_cons (List.mem_of_getElem? (i := 117) rfl) (pV_cons (List.mem_of_getElem? (i := 118) rfl) (pV_cons (List.mem_of_getElem? (i := 119) rfl) (pV_cons (List.mem_of_getElem? (i := 120) rfl) (pV_cons (List.mem_of_getElem? (i := 121) rfl) (pV_nil)))))), f_255_108⟩
theorem q_255_109 : pQ_255 u_255_109 := ⟨_, _, _, _, (pS_nil), (pV_cons (List.mem_of_getElem? (i := 122) rfl) (pV_nil)), f_255_109⟩
theorem q_255_110 : pQ_255 u_255_110 := ⟨_, _, _, _, (pS_nil), (pV_cons (List.mem_of_getElem? (i := 123) rfl) (pV_nil)), f_255_110⟩
theorem q_255_111 : pQ_255 u_255_111 := ⟨_, _, _, _, (pS_nil), (pV_cons (List.mem_of_getElem? (i := 124) rfl) (pV_nil)), f_255_111⟩
theorem q_255_112 : pQ_255 u_255_112 := ⟨_, _, _, _, (pS_nil), (pV_cons (List.mem_of_getElem? (i := 102) rfl) (pV_nil)), f_255_112⟩
theorem q_255_113 : pQ_255 u_255_113 := ⟨_, _, _, _, (pS_nil), (pV_cons (List.mem_of_getElem? (i := 107) rfl) (pV_nil)), f_255_113⟩
theorem q_255_114 : pQ_255 u_255_114 := ⟨_, _, _, _, (pS_nil), (pV_cons (List.mem_of_getElem? (i := 102) rfl) (pV_nil)), f_255_114⟩
theorem q_255_115 : pQ_255 u_255_115 := ⟨_, _, _, _, (pS_nil), (pV_cons (List.mem_of_getElem? (i := 107) rfl) (pV_nil)), f_255_115⟩
theorem q_255_116 : pQ_255 u_255_116 := ⟨_, _, _, _, (pS_nil), (pV_cons (List.mem_of_getElem? (i := 125) rfl) (pV_nil)), f_255_116⟩
theorem q_255_117 : pQ_255 u_255_117 := ⟨_, _, _, _, (pS_nil), (pV_cons (List.mem_of_getElem? (i := 126) rfl) (pV_nil)), f_255_117⟩
theorem q_255_118 : pQ_255 u_255_118 := ⟨_, _, _, _, (pS_cons ok_202 (pS_nil)), (pV_cons (List.mem_of_getElem? (i := 127) rfl) (pV_cons (List.mem_of_getElem? (i := 128) rfl) (pV_nil))), f_255_118⟩
theorem q_255_119 : pQ_255 u_255_119 := ⟨_, _, _, _, (pS_cons ok_202 (pS_nil)), (pV_cons (List.mem_of_getElem? (i := 127) rfl) (pV_cons (List.mem_of_getElem? (i := 130) rfl) (pV_nil))), f_255_119⟩
theorem q_255_120 : pQ_255 u_255_120 := ⟨_, _, _, _, (pS_nil), (pV_cons (List.mem_of_getElem? (i := 131) rfl) (pV_nil)), f_255_120⟩
theorem q_255_121 : pQ_255 u_255_121 := ⟨_, _, _, _, (pS_nil), (pV_cons (List.mem_of_getElem? (i := 132) rfl) (pV_nil)), f_255_121⟩
theorem q_255_122 : pQ_255 u_255_122 := ⟨_, _, _, _, (pS_nil), (pV_nil), f_255_122⟩
theorem q_255_123 : pQ_255 u_255_123 := ⟨_, _, _, _, (pS_nil), (pV_nil), f_255_123⟩
theorem q_255_124 : pQ_255 u_255_124 := ⟨_, _, _, _, (pS_nil), (pV_cons (List.mem_of_getElem? (i := 133) rfl) (pV_nil)), f_255_124⟩
theorem q_255_125 : pQ_255 u_255_125 := ⟨_, _, _, _, (pS_nil), (pV_cons (List.mem_of_getElem? (i := 134) rfl) (pV_nil)), f_255_125⟩
theorem q_255_126 : pQ_255 u_255_126 := ⟨_, _, _, _, (pS_nil), (pV_cons (List.mem_of_getElem? (i := 135) rfl) (pV_nil)), f_255_126⟩
theorem q_255_127 : pQ_255 u_255_127 := ⟨_, _, _, _, (pS_cons ok_114 (pS_cons ok_251 (pS_nil))), (pV_cons (List.mem_of_getElem? (i := 117) rfl) (pV_cons (List.mem_of_getElem? (i := 137) rfl) (pV_nil))), f_255_127⟩
theorem q_255_128 : pQ_255 u_255_128 := ⟨_, _, _, _, (pS_cons ok_114 (pS_cons ok_251 (pS_nil))), (pV_cons (List.mem_of_getElem? (i := 117) rfl) (pV_cons (List.mem_of_getElem? (i := 137) rfl) (pV_nil))), f_255_128⟩
theorem q_255_129 : pQ_255 u_255_129 := ⟨_, _, _, _, (pS_cons ok_114 (pS_cons ok_251 (pS_nil))), (pV_cons (List.mem_of_getElem? (i := 117) rfl) (pV_cons (List.mem_of_getElem? (i := 137) rfl) (pV_nil))), f_255_129⟩
theorem q_255_130 : pQ_255 u_255_130 := ⟨_, _, _, _, (pS_cons ok_114 (pS_cons ok_251 (pS_nil))), (pV_cons (List.mem_of_getElem? (i := 117) rfl) (pV_cons (List.mem_of_getElem? (i := 137) rfl) (pV_nil))), f_255_130⟩
theorem q_255_131 : pQ_255 u_255_131 := ⟨_, _, _, _, (pS_nil), (pV_cons (List.mem_of_getElem? (i := 140) rfl) (pV_nil)), f_255_131⟩
theorem q_255_132 : pQ_255 u_255_132 := ⟨_, _, _, _, (pS_cons ok_179 (pS_cons ok_187 (pS_cons ok_188 (pS_cons ok_254 (pS_nil))))), (pV_cons (List.mem_of_getElem? (i := 141) rfl) (pV_nil)), f_255_132⟩
theorem q_255_133 : pQ_255 u_255_133 := ⟨_, _, _, _, (pS_nil), (pV_cons (List.mem_of_getElem? (i := 142) rfl) (pV_nil)), f_255_133⟩
theorem q_255_134 : pQ_255 u_255_134 := ⟨_, _, _, _, (pS_nil), (pV_cons (List.mem_of_getElem? (i := 143) rfl) (pV_nil)), f_255_134⟩
theorem q_255_135 : pQ_255 u_255_135 := ⟨_, _, _, _, (pS_nil), (pV_cons (List.mem_of_getElem? (i := 144) rfl) (pV_nil)), f_255_135⟩
theorem q_255_136 : pQ_255 u_255_136 := ⟨_, _, _, _, (pS_nil), (pV_cons (List.mem_of_getElem? (i := 126) rfl) (pV_nil)), f_255_136⟩
theorem q_255_137 : pQ_255 u_255_137 := ⟨_, _, _, _, (pS_nil), (pV_cons (List.mem_of_getElem? (i := 131) rfl) (pV_nil)), f_255_137⟩
theorem q_255_138 : pQ_255 u_255_138 := ⟨_, _, _, _, (pS_nil), (pV_cons (List.mem_of_getElem? (i := 126) rfl) (pV_nil)), f_255_138⟩
theorem q_255_139 : pQ_255 u_255_139 := ⟨_, _, _, _, (pS_nil), (pV_cons (List.mem_of_getElem? (i := 131) rfl) (pV_nil)), f_255_139⟩
theorem q_255_140 : pQ_255 u_255_140 := ⟨_, _, _, _, (pS_nil), (pV_cons (List.mem_of_getElem? (i := 145) rfl) (pV_nil)), f_255_140⟩
theorem q_255_141 : pQ_255 u_255_141 := ⟨_, _, _, _, (pS_nil), (pV_cons (List.mem_of_getElem? (i := 146) rfl) (pV_nil)), f_255_141⟩
theorem q_255_142 : pQ_255 u_255_142 := ⟨_, _, _, _, (pS_nil), (pV_cons (List.mem_of_getElem? (i := 147) rfl) (pV_nil)), f_255_142⟩
theorem q_255_143 : pQ_255 u_255_143 := ⟨_, _, _, _, (pS_nil), (pV_cons (List.mem_of_getElem? (i := 148) rfl) (pV_nil)), f_255_143⟩
theorem q_255_144 : pQ_255 u_255_144 := ⟨_, _, _, _, (pS_nil), (pV_cons (List.mem_of_getElem? (i := 149) rfl) (pV_nil)), f_255_144⟩
theorem q_255_145 : pQ_255 u_255_145 := ⟨_, _, _, _, (pS_nil), (pV_cons (List.mem_of_getElem? (i := 150) rfl) (pV_nil)), f_255_145⟩
theorem q_255_146 : pQ_255 u_255_146 := ⟨_, _, _, _, (pS_nil), (pV_cons (List.mem_of_getElem? (i := 151) rfl) (pV_nil)), f_255_146⟩
theorem q_255_147 : pQ_255 u_255_147 := ⟨_, _, _, _, (pS_nil), (pV_nil), f_255_147⟩
theorem q_255_148 : pQ_255 u_255_148 := ⟨_, _, _, _, (pS_nil), (pV_nil), f_255_148⟩
theorem q_255_149 : pQ_255 u_255_149 := ⟨_, _, _, _, (pS_nil), (pV_cons (List.mem_of_getElem? (i := 152) rfl) (pV_nil)), f_255_149⟩
theorem q_255_150 : pQ_255 u_255_150 := ⟨_, _, _, _, (pS_nil), (pV_cons (List.mem_of_getElem? (i := 153) rfl) (pV_nil)), f_255_150⟩
theorem q_255_151 : pQ_255 u_255_151 := ⟨_, _, _, _, (pS_nil), (pV_cons (List.mem_of_getElem? (i := 154) rfl) (pV_nil)), f_255_151⟩
theorem q_255_152 : pQ_255 u_255_152 := ⟨_, _, _, _, (pS_nil), (pV_cons (List.mem_of_getElem? (i := 155) rfl) (pV_nil)), f_255_152⟩
theorem q_255_153 : pQ_255 u_255_153 := ⟨_, _, _, _, (pS_nil), (pV_cons (List.mem_of_getElem? (i := 156) rfl) (pV_nil)), f_255_153⟩
theorem q_255_154 : pQ_255 u_255_154 := ⟨_, _, _, _, (pS_nil), (pV_cons (List.mem_of_getElem? (i := 157) rfl) (pV_nil)), f_255_154⟩
theorem q_255_155 : pQ_255 u_255_155 := ⟨_, _, _, _, (pS_nil), (pV_cons (List.mem_of_getElem? (i := 158) rfl) (pV_nil)), f_255_155⟩
theorem q_255_156 : pQ_255 u_255_156 := ⟨_, _, _, _, (pS_nil), (pV_cons (List.mem_of_getElem? (i := 159) rfl) (pV_nil)), f_255_156⟩
theorem q_255_157 : pQ_255 u_255_157 := ⟨_, _, _, _, (pS_nil), (pV_cons (List.mem_of_getElem? (i := 160) rfl) (pV_nil)), f_255_157⟩
theorem q_255_158 : pQ_255 u_255_158 := ⟨_, _, _, _, (pS_nil), (pV_nil), f_255_158⟩
theorem q_255_159 : pQ_255 u_255_159 := ⟨_, _, _, _, (pS_nil), (pV_nil), f_255_159⟩
theorem q_255_160 : pQ_255 u_255_160 := ⟨_, _, _, _, (pS_nil), (pV_cons (List.mem_of_getElem? (i := 161) rfl) (pV_nil)), f_255_160⟩
theorem q_255_161 : pQ_255 u_255_161 := ⟨_, _, _, _, (pS_nil), (pV_cons (List.mem_of_getElem? (i := 162) rfl) (pV_nil)), f_255_161⟩
theorem q_255_162 : pQ_255 u_255_162 := ⟨_, _, _, _, (pS_nil), (pV_cons (List.mem_of_getElem? (i := 163) rfl) (pV_nil)), f_255_162⟩
theorem q_255_163 : pQ_255 u_255_163 := ⟨_, _, _, _, (pS_nil), (pV_nil), f_255_163⟩
theorem qb_255_0 : ∀ u ∈ [u_255_0, u_255_1, u_255_2, u_255_3, u_255_4, u_255_5, u_255_6, u_255_7, u_255_8, u_255_9], pQ_255 u := pU_cons q_255_0 (pU_cons q_255_1 (pU_cons q_255_2 (pU_cons q_255_3 (pU_cons q_255_4 (pU_cons q_255_5 (pU_cons q_255_6 (pU_cons q_255_7 (pU_cons q_255_8 (pU_cons q_255_9 (pU_nil))))))))))
theorem qb_255_1 : ∀ u ∈ [u_255_10, u_255_11, u_255_12, u_255_13, u_255_14, u_255_15, u_255_16, u_255_17, u_255_18, u_255_19], pQ_255 u := pU_cons q_255_10 (pU_cons q_255_11 (pU_cons q_255_12 (pU_cons q_255_13 (pU_cons q_255_14 (pU_cons q_255_15 (pU_cons q_255_16 (pU_cons q_255_17 (pU_cons q_255_18 (pU_cons q_255_19 (pU_nil))))))))))
theorem qb_255_2 : ∀ u ∈ [u_255_20, u_255_21, u_255_22, u_255_23, u_255_24, u_255_25, u_255_26, u_255_27, u_255_28, u_255_29], pQ_255 u := pU_cons q_255_20 (pU_cons q_255_21 (pU_cons q_255_22 (pU_cons q_255_23 (pU_cons q_255_24 (pU_cons q_255_25 (pU_cons q_255_26 (pU_cons q_255_27 (pU_cons q_255_28 (pU_cons q_255_29 (pU_nil))))))))))
theorem qb_255_3 : ∀ u ∈ [u_255_30, u_255_31, u_255_32, u_255_33, u_255_34, u_255_35, u_255_36, u_255_37, u_255_38, u_255_39], pQ_255 u := pU_cons q_255_30 (pU_cons q_255_31 (pU_cons q_255_32 (pU_cons q_255_33 (pU_cons q_255_34 (pU_cons q_255_35 (pU_cons q_255_36 (pU_cons q_255_37 (pU_cons q_255_38 (pU_cons q_255_39 (pU_nil))))))))))
theorem qb_255_4 : ∀ u ∈ [u_255_40, u_255_41, u_255_42, u_255_43, u_255_44, u_255_45, u_255_46, u_255_47, u_255_48, u_255_49], pQ_255 u := pU_cons q_255_40 (pU_cons q_255_41 (pU_cons q_255_42 (pU_cons q_255_43 (pU_cons q_255_44 (pU_cons q_255_45 (pU_cons q_255_46 (pU_cons q_255_47 (pU_cons q_255_48 (pU_cons q_255_49 (pU_nil))))))))))
theorem qb_255_5 : ∀ u ∈ [u_255_50, u_255_51, u_255_52, u_255_53, u_255_54, u_255_55, u_255_56, u_255_57, u_255_58, u_255_59], pQ_255 u := pU_cons q_255_50 (pU_cons q_255_51 (pU_cons q_255_52 (pU_cons q_255_53 (pU_cons q_255_54 (pU_cons q_255_55 (pU_cons q_255_56 (pU_cons q_255_57 (pU_cons q_255_58 (pU_cons q_255_59 (pU_nil))))))))))
theorem qb_255_6 : ∀ u ∈ [u_255_60, u_255_61, u_255_62, u_255_63, u_255_64, u_255_65, u_255_66, u_255_67, u_255_68, u_255_69], pQ_255 u := pU_cons q_255_60 (pU_cons q_255_61 (pU_cons q_255_62 (pU_cons q_255_63 (pU_cons q_255_64 (pU_cons q_255_65 (pU_cons q_255_66 (pU_cons q_255_67 (pU_cons q_255_68 (pU_cons q_255_69 (pU_nil))))))))))
theorem qb_255_7 : ∀ u ∈ [u_255_70, u_255_71, u_255_72, u_255_73, u_255_74, u_255_75, u_255_76, u_255_77, u_255_78, u_255_79], pQ_255 u := pU_cons q_255_70 (pU_cons q_255_71 (pU_cons q_255_72 (pU_cons q_255_73 (pU_cons q_255_74 (pU_cons q_255_75 (pU_cons q_255_76 (pU_cons q_255_77 (pU_cons q_255_78 (pU_cons q_255_79 (pU_nil))))))))))
theorem qb_255_8 : ∀ u ∈ [u_255_80, u_255_81, u_255_82, u_255_83, u_255_84, u_255_85, u_255_86, u_255_87, u_255_88, u_255_89], pQ_255 u := pU_cons q_255_80 (pU_cons q_255_81 (pU_cons q_255_82 (pU_cons q_255_83 (pU_cons q_255_84 (pU_cons q_255_85 (pU_cons q_255_86 (pU_cons q_255_87 (pU_cons q_255_88 (pU_cons q_255_89 (pU_nil))))))))))
theorem qb_255_9 : ∀ u ∈ [u_255_90, u_255_91, u_255_92, u_255_93, u_255_94, u_255_95, u_255_96, u_255_97, u_255_98, u_255_99], pQ_255 u := pU_cons q_255_90 (pU_cons q_255_91 (pU_cons q_255_92 (pU_cons q_255_93 (pU_cons q_255_94 (pU_cons q_255_95 (pU_cons q_255_96 (pU_cons q_255_97 (pU_cons q_255_98 (pU_cons q_255_99 (pU_nil))))))))))
theorem qb_255_10 : ∀ u ∈ [u_255_100, u_255_101, u_255_102, u_255_103, u_255_104, u_255_105, u_255_106, u_255_107, u_255_108, u_255_109], pQ_255 u := pU_cons q_255_100 (pU_cons q_255_101 (pU_cons q_255_102 (pU_cons q_255_103 (pU_cons q_255_104 (pU_cons q_255_105 (pU_cons q_255_106 (pU_cons q_255_107 (pU_cons q_255_108 (pU_cons q_255_109 (pU_nil))))))))))
theorem qb_255_11 : ∀ u ∈ [u_255_110, u_255_111, u_255_112, u_255_113, u_255_114, u_255_115, u_255_116, u_255_117, u_255_118, u_255_119], pQ_255 u := pU_cons q_255_110 (pU_cons q_255_111 (pU_cons q_255_112 (pU_cons q_255_113 (pU_cons q_255_114 (pU_cons q_255_115 (pU_cons q_255_116 (pU_cons q_255_117 (pU_cons q_255_118 (pU_cons q_255_119 (pU_nil))))))))))
theorem qb_255_12 : ∀ u ∈ [u_255_120, u_255_121, u_255_122, u_255_123, u_255_124, u_255_125, u_255_126, u_255_127, u_255_128, u_255_129], pQ_255 u := pU_cons q_255_120 (pU_cons q_255_121 (pU_cons q_255_122 (pU_cons q_255_123 (pU_cons q_255_124 (pU_cons q_255_125 (pU_cons q_255_126 (pU_cons q_255_127 (pU_cons q_255_128 (pU_cons q_255_129 (pU_nil))))))))))
theorem qb_255_13 : ∀ u ∈ [u_255_130, u_255_131, u_255_132, u_255_133, u_255_134, u_255_135, u_255_136, u_255_137, u_255_138, u_255_139], pQ_255 u := pU_cons q_255_130 (pU_cons q_255_131 (pU_cons q_255_132 (pU_cons q_255_133 (pU_cons q_255_134 (pU_cons q_255_135 (pU_cons q_255_136 (pU_cons q_255_137 (pU_cons q_255_138 (pU_cons q_255_139 (pU_nil))))))))))
theorem qb_255_14 : ∀ u ∈ [u_255_140, u_255_141, u_255_142, u_255_143, u_255_144, u_255_145, u_255_146, u_255_147, u_255_148, u_255_149], pQ_255 u := pU_cons q_255_140 (pU_cons q_255_141 (pU_cons q_255_142 (pU_cons q_255_143 (pU_cons q_255_144 (pU_cons q_255_145 (pU_cons q_255_146 (pU_cons q_255_147 (pU_cons q_255_148 (pU_cons q_255_149 (pU_nil))))))))))
theorem qb_255_15 : ∀ u ∈ [u_255_150, u_255_151, u_255_152, u_255_153, u_255_154, u_255_155, u_255_156, u_255_157, u_255_158, u_255_159], pQ_255 u := pU_cons q_255_150 (pU_cons q_255_151 (pU_cons q_255_152 (pU_cons q_255_153 (pU_cons q_255_154 (pU_cons q_255_155 (pU_cons q_255_156 (pU_cons q_255_157 (pU_cons q_255_158 (pU_cons q_255_159 (pU_nil))))))))))
theorem qb_255_16 : ∀ u ∈ [u_255_160, u_255_161, u_255_162, u_255_163], pQ_255 u := pU_cons q_255_160 (pU_cons q_255_161 (pU_cons q_255_162 (pU_cons q_255_163 (pU_nil))))
theorem ok_255 : sInOk pPT i_255 := sInst3 (M := pm_94) (cus := us_255) pOk pg_94 (by decide +kernel) ⟨_, _, _, _, (pS_nil), (pV_cons (List.mem_of_getElem? (i := 0) rfl) (pV_nil)), e_255⟩ (show ∀ u ∈ us_255, pQ_255 u from (pU_app qb_255_0 (pU_app qb_255_1 (pU_app qb_255_2 (pU_app qb_255_3 (pU_app qb_255_4 (pU_app qb_255_5 (pU_app qb_255_6 (pU_app qb_255_7 (pU_app qb_255_8 (pU_app qb_255_9 (pU_app qb_255_10 (pU_app qb_255_11 (pU_app qb_255_12 (pU_app qb_255_13 (pU_app qb_255_14 (pU_app qb_255_15 qb_255_16)))))))))))))))))
def pQ_256 (u : sCu) : Prop := ∃ (SM : List sIn) (H : gHt) (cu : List sCu) (n : Nat), (∀ I ∈ SM, sInOk pPT I) ∧ (∀ v ∈ cu, v ∈ us_256) ∧ sWhU pPT SM H i_256 (mR pm_91) cu n u = true
theorem q_256_0 : pQ_256 u_256_0 := ⟨_, _, _, _, (pS_cons ok_190 (pS_nil)), (pV_nil), f_256_0⟩
theorem q_256_1 : pQ_256 u_256_1 := ⟨_, _, _, _, (pS_cons ok_114 (pS_cons ok_208 (pS_cons ok_255 (pS_nil)))), (pV_cons (List.mem_of_getElem? (i := 0) rfl) (pV_cons (List.mem_of_getElem? (i := 1) rfl) (pV_nil))), f_256_1⟩
theorem qb_256_0 : ∀ u ∈ [u_256_0, u_256_1], pQ_256 u := pU_cons q_256_0 (pU_cons q_256_1 (pU_nil))
theorem ok_256 : sInOk pPT i_256 := sInst3 (M := pm_91) (cus := us_256) pOk pg_91 (by decide +kernel) ⟨_, _, _, _, (pS_cons ok_255 (pS_nil)), (pV_cons (List.mem_of_getElem? (i := 0) rfl) (pV_cons (List.mem_of_getElem? (i := 1) rfl) (pV_nil))), e_256⟩ (show ∀ u ∈ us_256, pQ_256 u from qb_256_0)
def pQ_257 (u : sCu) : Prop := ∃ (SM : List sIn) (H : gHt) (cu : List sCu) (n : Nat), (∀ I ∈ SM, sInOk pPT I) ∧ (∀ v ∈ cu, v ∈ us_257) ∧ sWhU pPT SM H i_257 (mR pm_94) cu n u = true
theorem q_257_0 : pQ_257 u_257_0 := ⟨_, _, _, _, (pS_cons ok_179 (pS_cons ok_187 (pS_cons ok_188 (pS_cons ok_254 (pS_nil))))), (pV_cons (List.mem_of_getElem? (i := 1) rfl) (pV_nil)), f_257_0⟩
theorem q_257_1 : pQ_257 u_257_1 := ⟨_, _, _, _, (pS_nil), (pV_cons (List.mem_of_getElem? (i := 2) rfl) (pV_nil)), f_257_1⟩
theorem q_257_2 : pQ_257 u_257_2 := ⟨_, _, _, _, (pS_nil), (pV_nil), f_257_2⟩
theorem qb_257_0 : ∀ u ∈ [u_257_0, u_257_1, u_257_2], pQ_257 u := pU_cons q_257_0 (pU_cons q_257_1 (pU_cons q_257_2 (pU_nil)))
theorem ok_257 : sInOk pPT i_257 := sInst3 (M := pm_94) (cus := us_257) pOk pg_94 (by decide +kernel) ⟨_, _, _, _, (pS_nil), (pV_cons (List.mem_of_getElem? (i := 0) rfl) (pV_nil)), e_257⟩ (show ∀ u ∈ us_257, pQ_257 u from qb_257_0)
def pQ_258 (u : sCu) : Prop := ∃ (SM : List sIn) (H : gHt) (cu : List sCu) (n : Nat), (∀ I ∈ SM, sInOk pPT I) ∧ (∀ v ∈ cu, v ∈ us_258) ∧ sWhU pPT SM H i_258 (mR pm_91) cu n u = true
theorem q_258_0 : pQ_258 u_258_0 := ⟨_, _, _, _, (pS_cons ok_190 (pS_nil)), (pV_nil), f_258_0⟩
theorem qb_258_0 : ∀ u ∈ [u_258_0], pQ_258 u := pU_cons q_258_0 (pU_nil)
theorem ok_258 : sInOk pPT i_258 := sInst3 (M := pm_91) (cus := us_258) pOk pg_91 (by decide +kernel) ⟨_, _, _, _, (pS_cons ok_257 (pS_nil)), (pV_cons (List.mem_of_getElem? (i := 0) rfl) (pV_nil)), e_258⟩ (show ∀ u ∈ us_258, pQ_258 u from qb_258_0)
def pQ_259 (u : sCu) : Prop := ∃ (SM : List sIn) (H : gHt) (cu : List sCu) (n : Nat), (∀ I ∈ SM, sInOk pPT I) ∧ (∀ v ∈ cu, v ∈ us_259) ∧ sWhU pPT SM H i_259 (mR pm_92) cu n u = true
theorem q_259_0 : pQ_259 u_259_0 := ⟨_, _, _, _, (pS_cons ok_256 (pS_nil)), (pV_cons (List.mem_of_getElem? (i := 2) rfl) (pV_cons (List.mem_of_getElem? (i := 3) rfl) (pV_nil))), f_259_0⟩
theorem q_259_1 : pQ_259 u_259_1 := ⟨_, _, _, _, (pS_cons ok_258 (pS_nil)), (pV_cons (List.mem_of_getElem? (i := 2) rfl) (pV_nil)), f_259_1⟩
theorem q_259_2 : pQ_259 u_259_2 := ⟨_, _, _, _, (pS_cons ok_192 (pS_nil)), (pV_nil), f_259_2⟩
theorem q_259_3 : pQ_259 u_259_3 := ⟨_, _, _, _, (pS_cons ok_114 (pS_cons ok_212 (pS_cons ok_256 (pS_nil)))), (pV_cons (List.mem_of_getElem? (i := 2) rfl) (pV_cons (List.mem_of_getElem? (i := 3) rfl) (pV_nil))), f_259_3⟩
theorem qb_259_0 : ∀ u ∈ [u_259_0, u_259_1, u_259_2, u_259_3], pQ_259 u := pU_cons q_259_0 (pU_cons q_259_1 (pU_cons q_259_2 (pU_cons q_259_3 (pU_nil))))
theorem ok_259 : sInOk pPT i_259 := sInst3 (M := pm_92) (cus := us_259) pOk pg_92 (by decide +kernel) ⟨_, _, _, _, (pS_cons ok_160 (pS_nil)), (pV_cons (List.mem_of_getElem? (i := 0) rfl) (pV_cons (List.mem_of_getElem? (i := 1) rfl) (pV_nil))), e_259⟩ (show ∀ u ∈ us_259, pQ_259 u from qb_259_0)
theorem ok_260 : sInOk pPT i_260 := sInst3 (M := pm_96) (cus := []) pOk pg_96 (by decide +kernel) ⟨_, _, _, _, (pS_cons ok_114 (pS_cons ok_162 (pS_cons ok_163 (pS_cons ok_164 (pS_cons ok_173 (pS_cons ok_194 (pS_cons ok_215 (pS_cons ok_259 (pS_nil))))))))), pV_nil, e_260⟩ pU_nil
def pQ_261 (u : sCu) : Prop := ∃ (SM : List sIn) (H : gHt) (cu : List sCu) (n : Nat), (∀ I ∈ SM, sInOk pPT I) ∧ (∀ v ∈ cu, v ∈ us_261) ∧ sWhU pPT SM H i_261 (mR pm_97) cu n u = true
theorem q_261_0 : pQ_261 u_261_0 := ⟨_, _, _, _, (pS_cons ok_181 (pS_cons ok_182 (pS_nil))), (pV_nil), f_261_0⟩
theorem q_261_1 : pQ_261 u_261_1 := ⟨_, _, _, _, (pS_cons ok_196 (pS_cons ok_197 (pS_nil))), (pV_cons (List.mem_of_getElem? (i := 2) rfl) (pV_cons (List.mem_of_getElem? (i := 3) rfl) (pV_nil))), f_261_1⟩
theorem q_261_2 : pQ_261 u_261_2 := ⟨_, _, _, _, (pS_cons ok_196 (pS_nil)), (pV_cons (List.mem_of_getElem? (i := 4) rfl) (pV_cons (List.mem_of_getElem? (i := 5) rfl) (pV_nil))), f_261_2⟩
theorem q_261_3 : pQ_261 u_261_3 := ⟨_, _, _, _, (pS_cons ok_196 (pS_nil)), (pV_cons (List.mem_of_getElem? (i := 6) rfl) (pV_cons (List.mem_of_getElem? (i := 7) rfl) (pV_nil))), f_261_3⟩
theorem q_261_4 : pQ_261 u_261_4 := ⟨_, _, _, _, (pS_cons ok_114 (pS_cons ok_260 (pS_nil))), (pV_cons (List.mem_of_getElem? (i := 0) rfl) (pV_cons (List.mem_of_getElem? (i := 1) rfl) (pV_nil))), f_261_4⟩
theorem q_261_5 : pQ_261 u_261_5 := ⟨_, _, _, _, (pS_cons ok_114 (pS_cons ok_260 (pS_nil))), (pV_cons (List.mem_of_getElem? (i := 0) rfl) (pV_cons (List.mem_of_getElem? (i := 1) rfl) (pV_nil))), f_261_5⟩
theorem q_261_6 : pQ_261 u_261_6 := ⟨_, _, _, _, (pS_cons ok_114 (pS_cons ok_260 (pS_nil))), (pV_cons (List.mem_of_getElem? (i := 0) rfl) (pV_cons (List.mem_of_getElem? (i := 1) rfl) (pV_nil))), f_261_6⟩
theorem q_261_7 : pQ_261 u_261_7 := ⟨_, _, _, _, (pS_cons ok_114 (pS_cons ok_260 (pS_nil))), (pV_cons (List.mem_of_getElem? (i := 0) rfl) (pV_cons (List.mem_of_getElem? (i := 1) rfl) (pV_nil))), f_261_7⟩
theorem qb_261_0 : ∀ u ∈ [u_261_0, u_261_1, u_261_2, u_261_3, u_261_4, u_261_5, u_261_6, u_261_7], pQ_261 u := pU_cons q_261_0 (pU_cons q_261_1 (pU_cons q_261_2 (pU_cons q_261_3 (pU_cons q_261_4 (pU_cons q_261_5 (pU_cons q_261_6 (pU_cons q_261_7 (pU_nil))))))))
theorem ok_261 : sInOk pPT i_261 := sInst3 (M := pm_97) (cus := us_261) pOk pg_97 (by decide +kernel) ⟨_, _, _, _, (pS_cons ok_260 (pS_nil)), (pV_cons (List.mem_of_getElem? (i := 0) rfl) (pV_cons (List.mem_of_getElem? (i := 1) rfl) (pV_nil))), e_261⟩ (show ∀ u ∈ us_261, pQ_261 u from qb_261_0)
def pQ_262 (u : sCu) : Prop := ∃ (SM : List sIn) (H : gHt) (cu : List sCu) (n : Nat), (∀ I ∈ SM, sInOk pPT I) ∧ (∀ v ∈ cu, v ∈ us_262) ∧ sWhU pPT SM H i_262 (mR pm_98) cu n u = true
theorem q_262_0 : pQ_262 u_262_0 := ⟨_, _, _, _, (pS_cons ok_184 (pS_cons ok_185 (pS_nil))), (pV_nil), f_262_0⟩
theorem q_262_1 : pQ_262 u_262_1 := ⟨_, _, _, _, (pS_cons ok_199 (pS_cons ok_200 (pS_nil))), (pV_cons (List.mem_of_getElem? (i := 2) rfl) (pV_cons (List.mem_of_getElem? (i := 3) rfl) (pV_nil))), f_262_1⟩
theorem q_262_2 : pQ_262 u_262_2 := ⟨_, _, _, _, (pS_cons ok_199 (pS_nil)), (pV_cons (List.mem_of_getElem? (i := 4) rfl) (pV_cons (List.mem_of_getElem? (i := 5) rfl) (pV_nil))), f_262_2⟩
theorem q_262_3 : pQ_262 u_262_3 := ⟨_, _, _, _, (pS_cons ok_199 (pS_nil)), (pV_cons (List.mem_of_getElem? (i := 6) rfl) (pV_cons (List.mem_of_getElem? (i := 7) rfl) (pV_nil))), f_262_3⟩
theorem q_262_4 : pQ_262 u_262_4 := ⟨_, _, _, _, (pS_cons ok_114 (pS_cons ok_261 (pS_nil))), (pV_cons (List.mem_of_getElem? (i := 0) rfl) (pV_cons (List.mem_of_getElem? (i := 1) rfl) (pV_nil))), f_262_4⟩
theorem q_262_5 : pQ_262 u_262_5 := ⟨_, _, _, _, (pS_cons ok_114 (pS_cons ok_261 (pS_nil))), (pV_cons (List.mem_of_getElem? (i := 0) rfl) (pV_cons (List.mem_of_getElem? (i := 1) rfl) (pV_nil))), f_262_5⟩
theorem q_262_6 : pQ_262 u_262_6 := ⟨_, _, _, _, (pS_cons ok_114 (pS_cons ok_261 (pS_nil))), (pV_cons (List.mem_of_getElem? (i := 0) rfl) (pV_cons (List.mem_of_getElem? (i := 1) rfl) (pV_nil))), f_262_6⟩
theorem q_262_7 : pQ_262 u_262_7 := ⟨_, _, _, _, (pS_cons ok_114 (pS_cons ok_261 (pS_nil))), (pV_cons (List.mem_of_getElem? (i := 0) rfl) (pV_cons (List.mem_of_getElem? (i := 1) rfl) (pV_nil))), f_262_7⟩
theorem qb_262_0 : ∀ u ∈ [u_262_0, u_262_1, u_262_2, u_262_3, u_262_4, u_262_5, u_262_6, u_262_7], pQ_262 u := pU_cons q_262_0 (pU_cons q_262_1 (pU_cons q_262_2 (pU_cons q_262_3 (pU_cons q_262_4 (pU_cons q_262_5 (pU_cons q_262_6 (pU_cons q_262_7 (pU_nil))))))))
theorem ok_262 : sInOk pPT i_262 := sInst3 (M := pm_98) (cus := us_262) pOk pg_98 (by decide +kernel) ⟨_, _, _, _, (pS_cons ok_261 (pS_nil)), (pV_cons (List.mem_of_getElem? (i := 0) rfl) (pV_cons (List.mem_of_getElem? (i := 1) rfl) (pV_nil))), e_262⟩ (show ∀ u ∈ us_262, pQ_262 u from qb_262_0)
theorem ok_263 : sInOk pPT i_263 := sInst3 (M := pm_96) (cus := []) pOk pg_96 (by decide +kernel) ⟨_, _, _, _, (pS_nil), pV_nil, e_263⟩ pU_nil
def pQ_264 (u : sCu) : Prop := ∃ (SM : List sIn) (H : gHt) (cu : List sCu) (n : Nat), (∀ I ∈ SM, sInOk pPT I) ∧ (∀ v ∈ cu, v ∈ us_264) ∧ sWhU pPT SM H i_264 (mR pm_97) cu n u = true
theorem q_264_0 : pQ_264 u_264_0 := ⟨_, _, _, _, (pS_cons ok_181 (pS_cons ok_182 (pS_nil))), (pV_nil), f_264_0⟩
theorem qb_264_0 : ∀ u ∈ [u_264_0], pQ_264 u := pU_cons q_264_0 (pU_nil)
theorem ok_264 : sInOk pPT i_264 := sInst3 (M := pm_97) (cus := us_264) pOk pg_97 (by decide +kernel) ⟨_, _, _, _, (pS_cons ok_263 (pS_nil)), (pV_cons (List.mem_of_getElem? (i := 0) rfl) (pV_nil)), e_264⟩ (show ∀ u ∈ us_264, pQ_264 u from qb_264_0)
def pQ_265 (u : sCu) : Prop := ∃ (SM : List sIn) (H : gHt) (cu : List sCu) (n : Nat), (∀ I ∈ SM, sInOk pPT I) ∧ (∀ v ∈ cu, v ∈ us_265) ∧ sWhU pPT SM H i_265 (mR pm_98) cu n u = true
theorem q_265_0 : pQ_265 u_265_0 := ⟨_, _, _, _, (pS_cons ok_184 (pS_cons ok_185 (pS_nil))), (pV_nil), f_265_0⟩
theorem qb_265_0 : ∀ u ∈ [u_265_0], pQ_265 u := pU_cons q_265_0 (pU_nil)
theorem ok_265 : sInOk pPT i_265 := sInst3 (M := pm_98) (cus := us_265) pOk pg_98 (by decide +kernel) ⟨_, _, _, _, (pS_cons ok_264 (pS_nil)), (pV_cons (List.mem_of_getElem? (i := 0) rfl) (pV_nil)), e_265⟩ (show ∀ u ∈ us_265, pQ_265 u from qb_265_0)
def pQ_266 (u : sCu) : Prop := ∃ (SM : List sIn) (H : gHt) (cu : List sCu) (n : Nat), (∀ I ∈ SM, sInOk pPT I) ∧ (∀ v ∈ cu, v ∈ us_266) ∧ sWhU pPT SM H i_266 (mR pm_94) cu n u = true
theorem q_266_0 : pQ_266 u_266_0 := ⟨_, _, _, _, (pS_cons ok_161 (pS_cons ok_187 (pS_cons ok_188 (pS_cons ok_202 (pS_cons ok_203 (pS_cons ok_262 (pS_nil))))))), (pV_cons (List.mem_of_getElem? (i := 1) rfl) (pV_cons (List.mem_of_getElem? (i := 2) rfl) (pV_cons (List.mem_of_getElem? (i := 3) rfl) (pV_cons (List.mem_of_getElem? (i := 4) rfl) (pV_cons (List.mem_of_getElem? (i := 5) rfl) (pV_nil)))))), f_266_0⟩
theorem q_266_1 : pQ_266 u_266_1 := ⟨_, _, _, _, (pS_nil), (pV_cons (List.mem_of_getElem? (i := 6) rfl) (pV_nil)), f_266_1⟩
theorem q_266_2 : pQ_266 u_266_2 := ⟨_, _, _, _, (pS_cons ok_202 (pS_nil)), (pV_cons (List.mem_of_getElem? (i := 7) rfl) (pV_cons (List.mem_of_getElem? (i := 8) rfl) (pV_nil))), f_266_2⟩
theorem q_266_3 : pQ_266 u_266_3 := ⟨_, _, _, _, (pS_cons ok_202 (pS_nil)), (pV_cons (List.mem_of_getElem? (i := 7) rfl) (pV_cons (List.mem_of_getElem? (i := 10) rfl) (pV_nil))), f_266_3⟩
theorem q_266_4 : pQ_266 u_266_4 := ⟨_, _, _, _, (pS_nil), (pV_cons (List.mem_of_getElem? (i := 11) rfl) (pV_nil)), f_266_4⟩
theorem q_266_5 : pQ_266 u_266_5 := ⟨_, _, _, _, (pS_cons ok_114 (pS_nil)), (pV_cons (List.mem_of_getElem? (i := 12) rfl) (pV_nil)), f_266_5⟩
theorem q_266_6 : pQ_266 u_266_6 := ⟨_, _, _, _, (pS_nil), (pV_nil), f_266_6⟩
theorem q_266_7 : pQ_266 u_266_7 := ⟨_, _, _, _, (pS_cons ok_114 (pS_cons ok_262 (pS_nil))), (pV_cons (List.mem_of_getElem? (i := 1) rfl) (pV_cons (List.mem_of_getElem? (i := 14) rfl) (pV_nil))), f_266_7⟩
theorem q_266_8 : pQ_266 u_266_8 := ⟨_, _, _, _, (pS_cons ok_114 (pS_cons ok_262 (pS_nil))), (pV_cons (List.mem_of_getElem? (i := 1) rfl) (pV_cons (List.mem_of_getElem? (i := 14) rfl) (pV_nil))), f_266_8⟩
theorem q_266_9 : pQ_266 u_266_9 := ⟨_, _, _, _, (pS_cons ok_114 (pS_cons ok_262 (pS_nil))), (pV_cons (List.mem_of_getElem? (i := 1) rfl) (pV_cons (List.mem_of_getElem? (i := 14) rfl) (pV_nil))), f_266_9⟩
theorem q_266_10 : pQ_266 u_266_10 := ⟨_, _, _, _, (pS_cons ok_114 (pS_cons ok_262 (pS_nil))), (pV_cons (List.mem_of_getElem? (i := 1) rfl) (pV_cons (List.mem_of_getElem? (i := 14) rfl) (pV_nil))), f_266_10⟩
theorem q_266_11 : pQ_266 u_266_11 := ⟨_, _, _, _, (pS_nil), (pV_nil), f_266_11⟩
theorem q_266_12 : pQ_266 u_266_12 := ⟨_, _, _, _, (pS_cons ok_161 (pS_cons ok_187 (pS_cons ok_188 (pS_cons ok_202 (pS_cons ok_203 (pS_cons ok_262 (pS_nil))))))), (pV_cons (List.mem_of_getElem? (i := 17) rfl) (pV_cons (List.mem_of_getElem? (i := 18) rfl) (pV_cons (List.mem_of_getElem? (i := 19) rfl) (pV_cons (List.mem_of_getElem? (i := 20) rfl) (pV_cons (List.mem_of_getElem? (i := 21) rfl) (pV_nil)))))), f_266_12⟩
theorem q_266_13 : pQ_266 u_266_13 := ⟨_, _, _, _, (pS_nil), (pV_cons (List.mem_of_getElem? (i := 6) rfl) (pV_nil)), f_266_13⟩
theorem q_266_14 : pQ_266 u_266_14 := ⟨_, _, _, _, (pS_nil), (pV_cons (List.mem_of_getElem? (i := 11) rfl) (pV_nil)), f_266_14⟩
theorem q_266_15 : pQ_266 u_266_15 := ⟨_, _, _, _, (pS_nil), (pV_cons (List.mem_of_getElem? (i := 6) rfl) (pV_nil)), f_266_15⟩
theorem q_266_16 : pQ_266 u_266_16 := ⟨_, _, _, _, (pS_nil), (pV_cons (List.mem_of_getElem? (i := 11) rfl) (pV_nil)), f_266_16⟩
theorem q_266_17 : pQ_266 u_266_17 := ⟨_, _, _, _, (pS_nil), (pV_cons (List.mem_of_getElem? (i := 22) rfl) (pV_nil)), f_266_17⟩
theorem q_266_18 : pQ_266 u_266_18 := ⟨_, _, _, _, (pS_cons ok_202 (pS_nil)), (pV_cons (List.mem_of_getElem? (i := 23) rfl) (pV_cons (List.mem_of_getElem? (i := 24) rfl) (pV_nil))), f_266_18⟩
theorem q_266_19 : pQ_266 u_266_19 := ⟨_, _, _, _, (pS_cons ok_202 (pS_nil)), (pV_cons (List.mem_of_getElem? (i := 23) rfl) (pV_cons (List.mem_of_getElem? (i := 26) rfl) (pV_nil))), f_266_19⟩
theorem q_266_20 : pQ_266 u_266_20 := ⟨_, _, _, _, (pS_nil), (pV_cons (List.mem_of_getElem? (i := 27) rfl) (pV_nil)), f_266_20⟩
theorem q_266_21 : pQ_266 u_266_21 := ⟨_, _, _, _, (pS_cons ok_114 (pS_nil)), (pV_cons (List.mem_of_getElem? (i := 28) rfl) (pV_nil)), f_266_21⟩
theorem q_266_22 : pQ_266 u_266_22 := ⟨_, _, _, _, (pS_nil), (pV_cons (List.mem_of_getElem? (i := 29) rfl) (pV_nil)), f_266_22⟩
theorem q_266_23 : pQ_266 u_266_23 := ⟨_, _, _, _, (pS_cons ok_114 (pS_cons ok_262 (pS_nil))), (pV_cons (List.mem_of_getElem? (i := 17) rfl) (pV_cons (List.mem_of_getElem? (i := 31) rfl) (pV_nil))), f_266_23⟩
theorem q_266_24 : pQ_266 u_266_24 := ⟨_, _, _, _, (pS_cons ok_114 (pS_cons ok_262 (pS_nil))), (pV_cons (List.mem_of_getElem? (i := 17) rfl) (pV_cons (List.mem_of_getElem? (i := 31) rfl) (pV_nil))), f_266_24⟩
theorem q_266_25 : pQ_266 u_266_25 := ⟨_, _, _, _, (pS_cons ok_114 (pS_cons ok_262 (pS_nil))), (pV_cons (List.mem_of_getElem? (i := 17) rfl) (pV_cons (List.mem_of_getElem? (i := 31) rfl) (pV_nil))), f_266_25⟩
theorem q_266_26 : pQ_266 u_266_26 := ⟨_, _, _, _, (pS_cons ok_114 (pS_cons ok_262 (pS_nil))), (pV_cons (List.mem_of_getElem? (i := 17) rfl) (pV_cons (List.mem_of_getElem? (i := 31) rfl) (pV_nil))), f_266_26⟩
theorem q_266_27 : pQ_266 u_266_27 := ⟨_, _, _, _, (pS_nil), (pV_cons (List.mem_of_getElem? (i := 34) rfl) (pV_nil)), f_266_27⟩
theorem q_266_28 : pQ_266 u_266_28 := ⟨_, _, _, _, (pS_cons ok_161 (pS_cons ok_187 (pS_cons ok_188 (pS_cons ok_202 (pS_cons ok_203 (pS_cons ok_262 (pS_nil))))))), (pV_cons (List.mem_of_getElem? (i := 35) rfl) (pV_cons (List.mem_of_getElem? (i := 36) rfl) (pV_cons (List.mem_of_getElem? (i := 37) rfl) (pV_cons (List.mem_of_getElem? (i := 38) rfl) (pV_cons (List.mem_of_getElem? (i := 39) rfl) (pV_nil)))))), f_266_28⟩
theorem q_266_29 : pQ_266 u_266_29 := ⟨_, _, _, _, (pS_nil), (pV_nil), f_266_29⟩
theorem q_266_30 : pQ_266 u_266_30 := ⟨_, _, _, _, (pS_nil), (pV_cons (List.mem_of_getElem? (i := 22) rfl) (pV_nil)), f_266_30⟩
theorem q_266_31 : pQ_266 u_266_31 := ⟨_, _, _, _, (pS_nil), (pV_cons (List.mem_of_getElem? (i := 27) rfl) (pV_nil)), f_266_31⟩
theorem q_266_32 : pQ_266 u_266_32 := ⟨_, _, _, _, (pS_nil), (pV_cons (List.mem_of_getElem? (i := 22) rfl) (pV_nil)), f_266_32⟩
theorem q_266_33 : pQ_266 u_266_33 := ⟨_, _, _, _, (pS_nil), (pV_cons (List.mem_of_getElem? (i := 27) rfl) (pV_nil)), f_266_33⟩
theorem q_266_34 : pQ_266 u_266_34 := ⟨_, _, _, _, (pS_nil), (pV_nil), f_266_34⟩
theorem q_266_35 : pQ_266 u_266_35 := ⟨_, _, _, _, (pS_nil), (pV_cons (List.mem_of_getElem? (i := 40) rfl) (pV_nil)), f_266_35⟩
theorem q_266_36 : pQ_266 u_266_36 := ⟨_, _, _, _, (pS_cons ok_202 (pS_nil)), (pV_cons (List.mem_of_getElem? (i := 41) rfl) (pV_cons (List.mem_of_getElem? (i := 42) rfl) (pV_nil))), f_266_36⟩
theorem q_266_37 : pQ_266 u_266_37 := ⟨_, _, _, _, (pS_cons ok_202 (pS_nil)), (pV_cons (List.mem_of_getElem? (i := 41) rfl) (pV_cons (List.mem_of_getElem? (i := 44) rfl) (pV_nil))), f_266_37⟩
theorem q_266_38 : pQ_266 u_266_38 := ⟨_, _, _, _, (pS_nil), (pV_cons (List.mem_of_getElem? (i := 45) rfl) (pV_nil)), f_266_38⟩
theorem q_266_39 : pQ_266 u_266_39 := ⟨_, _, _, _, (pS_cons ok_114 (pS_nil)), (pV_cons (List.mem_of_getElem? (i := 46) rfl) (pV_nil)), f_266_39⟩
theorem q_266_40 : pQ_266 u_266_40 := ⟨_, _, _, _, (pS_nil), (pV_cons (List.mem_of_getElem? (i := 47) rfl) (pV_nil)), f_266_40⟩
theorem q_266_41 : pQ_266 u_266_41 := ⟨_, _, _, _, (pS_cons ok_114 (pS_cons ok_262 (pS_nil))), (pV_cons (List.mem_of_getElem? (i := 35) rfl) (pV_cons (List.mem_of_getElem? (i := 49) rfl) (pV_nil))), f_266_41⟩
theorem q_266_42 : pQ_266 u_266_42 := ⟨_, _, _, _, (pS_cons ok_114 (pS_cons ok_262 (pS_nil))), (pV_cons (List.mem_of_getElem? (i := 35) rfl) (pV_cons (List.mem_of_getElem? (i := 49) rfl) (pV_nil))), f_266_42⟩
theorem q_266_43 : pQ_266 u_266_43 := ⟨_, _, _, _, (pS_cons ok_114 (pS_cons ok_262 (pS_nil))), (pV_cons (List.mem_of_getElem? (i := 35) rfl) (pV_cons (List.mem_of_getElem? (i := 49) rfl) (pV_nil))), f_266_43⟩
theorem q_266_44 : pQ_266 u_266_44 := ⟨_, _, _, _, (pS_cons ok_114 (pS_cons ok_262 (pS_nil))), (pV_cons (List.mem_of_getElem? (i := 35) rfl) (pV_cons (List.mem_of_getElem? (i := 49) rfl) (pV_nil))), f_266_44⟩
theorem q_266_45 : pQ_266 u_266_45 := ⟨_, _, _, _, (pS_nil), (pV_cons (List.mem_of_getElem? (i := 52) rfl) (pV_nil)), f_266_45⟩
theorem q_266_46 : pQ_266 u_266_46 := ⟨_, _, _, _, (pS_cons ok_161 (pS_cons ok_187 (pS_cons ok_188 (pS_cons ok_202 (pS_cons ok_203 (pS_cons ok_262 (pS_nil))))))), (pV_cons (List.mem_of_getElem? (i := 53) rfl) (pV_cons (List.mem_of_getElem? (i := 54) rfl) (pV_cons (List.mem_of_getElem? (i := 55) rfl) (pV_cons (List.mem_of_getElem? (i := 56) rfl) (pV_cons (List.mem_of_getElem? (i := 57) rfl) (pV_nil)))))), f_266_46⟩
theorem q_266_47 : pQ_266 u_266_47 := ⟨_, _, _, _, (pS_nil), (pV_cons (List.mem_of_getElem? (i := 58) rfl) (pV_nil)), f_266_47⟩
theorem q_266_48 : pQ_266 u_266_48 := ⟨_, _, _, _, (pS_nil), (pV_cons (List.mem_of_getElem? (i := 40) rfl) (pV_nil)), f_266_48⟩
theorem q_266_49 : pQ_266 u_266_49 := ⟨_, _, _, _, (pS_nil), (pV_cons (List.mem_of_getElem? (i := 45) rfl) (pV_nil)), f_266_49⟩
theorem q_266_50 : pQ_266 u_266_50 := ⟨_, _, _, _, (pS_nil), (pV_cons (List.mem_of_getElem? (i := 40) rfl) (pV_nil)), f_266_50⟩
theorem q_266_51 : pQ_266 u_266_51 := ⟨_, _, _, _, (pS_nil), (pV_cons (List.mem_of_getElem? (i := 45) rfl) (pV_nil)), f_266_51⟩
theorem q_266_52 : pQ_266 u_266_52 := ⟨_, _, _, _, (pS_nil), (pV_cons (List.mem_of_getElem? (i := 59) rfl) (pV_nil)), f_266_52⟩
theorem q_266_53 : pQ_266 u_266_53 := ⟨_, _, _, _, (pS_nil), (pV_cons (List.mem_of_getElem? (i := 60) rfl) (pV_nil)), f_266_53⟩
theorem q_266_54 : pQ_266 u_266_54 := ⟨_, _, _, _, (pS_cons ok_202 (pS_nil)), (pV_cons (List.mem_of_getElem? (i := 61) rfl) (pV_cons (List.mem_of_getElem? (i := 62) rfl) (pV_nil))), f_266_54⟩
theorem q_266_55 : pQ_266 u_266_55 := ⟨_, _, _, _, (pS_cons ok_202 (pS_nil)), (pV_cons (List.mem_of_getElem? (i := 61) rfl) (pV_cons (List.mem_of_getElem? (i := 64) rfl) (pV_nil))), f_266_55⟩
theorem q_266_56 : pQ_266 u_266_56 := ⟨_, _, _, _, (pS_nil), (pV_cons (List.mem_of_getElem? (i := 65) rfl) (pV_nil)), f_266_56⟩
theorem q_266_57 : pQ_266 u_266_57 := ⟨_, _, _, _, (pS_cons ok_114 (pS_nil)), (pV_cons (List.mem_of_getElem? (i := 66) rfl) (pV_nil)), f_266_57⟩
theorem q_266_58 : pQ_266 u_266_58 := ⟨_, _, _, _, (pS_nil), (pV_nil), f_266_58⟩
theorem q_266_59 : pQ_266 u_266_59 := ⟨_, _, _, _, (pS_nil), (pV_nil), f_266_59⟩
theorem q_266_60 : pQ_266 u_266_60 := ⟨_, _, _, _, (pS_nil), (pV_cons (List.mem_of_getElem? (i := 67) rfl) (pV_nil)), f_266_60⟩
theorem q_266_61 : pQ_266 u_266_61 := ⟨_, _, _, _, (pS_cons ok_114 (pS_cons ok_262 (pS_nil))), (pV_cons (List.mem_of_getElem? (i := 53) rfl) (pV_cons (List.mem_of_getElem? (i := 69) rfl) (pV_nil))), f_266_61⟩
theorem q_266_62 : pQ_266 u_266_62 := ⟨_, _, _, _, (pS_cons ok_114 (pS_cons ok_262 (pS_nil))), (pV_cons (List.mem_of_getElem? (i := 53) rfl) (pV_cons (List.mem_of_getElem? (i := 69) rfl) (pV_nil))), f_266_62⟩
theorem q_266_63 : pQ_266 u_266_63 := ⟨_, _, _, _, (pS_cons ok_114 (pS_cons ok_262 (pS_nil))), (pV_cons (List.mem_of_getElem? (i := 53) rfl) (pV_cons (List.mem_of_getElem? (i := 69) rfl) (pV_nil))), f_266_63⟩
theorem q_266_64 : pQ_266 u_266_64 := ⟨_, _, _, _, (pS_cons ok_114 (pS_cons ok_262 (pS_nil))), (pV_cons (List.mem_of_getElem? (i := 53) rfl) (pV_cons (List.mem_of_getElem? (i := 69) rfl) (pV_nil))), f_266_64⟩
theorem q_266_65 : pQ_266 u_266_65 := ⟨_, _, _, _, (pS_nil), (pV_cons (List.mem_of_getElem? (i := 72) rfl) (pV_nil)), f_266_65⟩
theorem q_266_66 : pQ_266 u_266_66 := ⟨_, _, _, _, (pS_cons ok_161 (pS_cons ok_187 (pS_cons ok_188 (pS_cons ok_202 (pS_cons ok_203 (pS_cons ok_262 (pS_nil))))))), (pV_cons (List.mem_of_getElem? (i := 73) rfl) (pV_cons (List.mem_of_getElem? (i := 74) rfl) (pV_cons (List.mem_of_getElem? (i := 75) rfl) (pV_cons (List.mem_of_getElem? (i := 76) rfl) (pV_cons (List.mem_of_getElem? (i := 77) rfl) (pV_nil)))))), f_266_66⟩
theorem q_266_67 : pQ_266 u_266_67 := ⟨_, _, _, _, (pS_nil), (pV_cons (List.mem_of_getElem? (i := 78) rfl) (pV_nil)), f_266_67⟩
theorem q_266_68 : pQ_266 u_266_68 := ⟨_, _, _, _, (pS_nil), (pV_cons (List.mem_of_getElem? (i := 60) rfl) (pV_nil)), f_266_68⟩
theorem q_266_69 : pQ_266 u_266_69 := ⟨_, _, _, _, (pS_nil), (pV_cons (List.mem_of_getElem? (i := 65) rfl) (pV_nil)), f_266_69⟩
theorem q_266_70 : pQ_266 u_266_70 := ⟨_, _, _, _, (pS_nil), (pV_cons (List.mem_of_getElem? (i := 60) rfl) (pV_nil)), f_266_70⟩
theorem q_266_71 : pQ_266 u_266_71 := ⟨_, _, _, _, (pS_nil), (pV_cons (List.mem_of_getElem? (i := 65) rfl) (pV_nil)), f_266_71⟩
theorem q_266_72 : pQ_266 u_266_72 := ⟨_, _, _, _, (pS_nil), (pV_cons (List.mem_of_getElem? (i := 79) rfl) (pV_nil)), f_266_72⟩
theorem q_266_73 : pQ_266 u_266_73 := ⟨_, _, _, _, (pS_nil), (pV_cons (List.mem_of_getElem? (i := 80) rfl) (pV_nil)), f_266_73⟩
theorem q_266_74 : pQ_266 u_266_74 := ⟨_, _, _, _, (pS_cons ok_202 (pS_nil)), (pV_cons (List.mem_of_getElem? (i := 81) rfl) (pV_cons (List.mem_of_getElem? (i := 82) rfl) (pV_nil))), f_266_74⟩
theorem q_266_75 : pQ_266 u_266_75 := ⟨_, _, _, _, (pS_cons ok_202 (pS_nil)), (pV_cons (List.mem_of_getElem? (i := 81) rfl) (pV_cons (List.mem_of_getElem? (i := 84) rfl) (pV_nil))), f_266_75⟩
theorem q_266_76 : pQ_266 u_266_76 := ⟨_, _, _, _, (pS_nil), (pV_cons (List.mem_of_getElem? (i := 85) rfl) (pV_nil)), f_266_76⟩
theorem q_266_77 : pQ_266 u_266_77 := ⟨_, _, _, _, (pS_cons ok_114 (pS_nil)), (pV_cons (List.mem_of_getElem? (i := 86) rfl) (pV_nil)), f_266_77⟩
theorem q_266_78 : pQ_266 u_266_78 := ⟨_, _, _, _, (pS_nil), (pV_cons (List.mem_of_getElem? (i := 87) rfl) (pV_nil)), f_266_78⟩
theorem q_266_79 : pQ_266 u_266_79 := ⟨_, _, _, _, (pS_nil), (pV_cons (List.mem_of_getElem? (i := 88) rfl) (pV_nil)), f_266_79⟩
theorem q_266_80 : pQ_266 u_266_80 := ⟨_, _, _, _, (pS_nil), (pV_cons (List.mem_of_getElem? (i := 89) rfl) (pV_nil)), f_266_80⟩
theorem q_266_81 : pQ_266 u_266_81 := ⟨_, _, _, _, (pS_cons ok_114 (pS_cons ok_262 (pS_nil))), (pV_cons (List.mem_of_getElem? (i := 73) rfl) (pV_cons (List.mem_of_getElem? (i := 91) rfl) (pV_nil))), f_266_81⟩
theorem q_266_82 : pQ_266 u_266_82 := ⟨_, _, _, _, (pS_cons ok_114 (pS_cons ok_262 (pS_nil))), (pV_cons (List.mem_of_getElem? (i := 73) rfl) (pV_cons (List.mem_of_getElem? (i := 91) rfl) (pV_nil))), f_266_82⟩
theorem q_266_83 : pQ_266 u_266_83 := ⟨_, _, _, _, (pS_cons ok_114 (pS_cons ok_262 (pS_nil))), (pV_cons (List.mem_of_getElem? (i := 73) rfl) (pV_cons (List.mem_of_getElem? (i := 91) rfl) (pV_nil))), f_266_83⟩
theorem q_266_84 : pQ_266 u_266_84 := ⟨_, _, _, _, (pS_cons ok_114 (pS_cons ok_262 (pS_nil))), (pV_cons (List.mem_of_getElem? (i := 73) rfl) (pV_cons (List.mem_of_getElem? (i := 91) rfl) (pV_nil))), f_266_84⟩
theorem q_266_85 : pQ_266 u_266_85 := ⟨_, _, _, _, (pS_nil), (pV_cons (List.mem_of_getElem? (i := 94) rfl) (pV_nil)), f_266_85⟩
theorem q_266_86 : pQ_266 u_266_86 := ⟨_, _, _, _, (pS_cons ok_161 (pS_cons ok_187 (pS_cons ok_188 (pS_cons ok_202 (pS_cons ok_203 (pS_cons ok_262 (pS_nil))))))), (pV_cons (List.mem_of_getElem? (i := 95) rfl) (pV_cons (List.mem_of_getElem? (i := 96) rfl) (pV_cons (List.mem_of_getElem? (i := 97) rfl) (pV_cons (List.mem_of_getElem? (i := 98) rfl) (pV_cons (List.mem_of_getElem? (i := 99) rfl) (pV_nil)))))), f_266_86⟩
theorem q_266_87 : pQ_266 u_266_87 := ⟨_, _, _, _, (pS_nil), (pV_nil), f_266_87⟩
theorem q_266_88 : pQ_266 u_266_88 := ⟨_, _, _, _, (pS_nil), (pV_nil), f_266_88⟩
theorem q_266_89 : pQ_266 u_266_89 := ⟨_, _, _, _, (pS_nil), (pV_cons (List.mem_of_getElem? (i := 100) rfl) (pV_nil)), f_266_89⟩
theorem q_266_90 : pQ_266 u_266_90 := ⟨_, _, _, _, (pS_nil), (pV_cons (List.mem_of_getElem? (i := 80) rfl) (pV_nil)), f_266_90⟩
theorem q_266_91 : pQ_266 u_266_91 := ⟨_, _, _, _, (pS_nil), (pV_cons (List.mem_of_getElem? (i := 85) rfl) (pV_nil)), f_266_91⟩
theorem q_266_92 : pQ_266 u_266_92 := ⟨_, _, _, _, (pS_nil), (pV_cons (List.mem_of_getElem? (i := 80) rfl) (pV_nil)), f_266_92⟩
theorem q_266_93 : pQ_266 u_266_93 := ⟨_, _, _, _, (pS_nil), (pV_cons (List.mem_of_getElem? (i := 85) rfl) (pV_nil)), f_266_93⟩
theorem q_266_94 : pQ_266 u_266_94 := ⟨_, _, _, _, (pS_nil), (pV_cons (List.mem_of_getElem? (i := 101) rfl) (pV_nil)), f_266_94⟩
theorem q_266_95 : pQ_266 u_266_95 := ⟨_, _, _, _, (pS_nil), (pV_cons (List.mem_of_getElem? (i := 102) rfl) (pV_nil)), f_266_95⟩
theorem q_266_96 : pQ_266 u_266_96 := ⟨_, _, _, _, (pS_cons ok_202 (pS_nil)), (pV_cons (List.mem_of_getElem? (i := 103) rfl) (pV_cons (List.mem_of_getElem? (i := 104) rfl) (pV_nil))), f_266_96⟩
theorem q_266_97 : pQ_266 u_266_97 := ⟨_, _, _, _, (pS_cons ok_202 (pS_nil)), (pV_cons (List.mem_of_getElem? (i := 103) rfl) (pV_cons (List.mem_of_getElem? (i := 106) rfl) (pV_nil))), f_266_97⟩
theorem q_266_98 : pQ_266 u_266_98 := ⟨_, _, _, _, (pS_nil), (pV_cons (List.mem_of_getElem? (i := 107) rfl) (pV_nil)), f_266_98⟩
theorem q_266_99 : pQ_266 u_266_99 := ⟨_, _, _, _, (pS_cons ok_114 (pS_nil)), (pV_cons (List.mem_of_getElem? (i := 108) rfl) (pV_nil)), f_266_99⟩
theorem q_266_100 : pQ_266 u_266_100 := ⟨_, _, _, _, (pS_nil), (pV_cons (List.mem_of_getElem? (i := 109) rfl) (pV_nil)), f_266_100⟩
theorem q_266_101 : pQ_266 u_266_101 := ⟨_, _, _, _, (pS_nil), (pV_cons (List.mem_of_getElem? (i := 110) rfl) (pV_nil)), f_266_101⟩
theorem q_266_102 : pQ_266 u_266_102 := ⟨_, _, _, _, (pS_nil), (pV_cons (List.mem_of_getElem? (i := 111) rfl) (pV_nil)), f_266_102⟩
theorem q_266_103 : pQ_266 u_266_103 := ⟨_, _, _, _, (pS_cons ok_114 (pS_cons ok_262 (pS_nil))), (pV_cons (List.mem_of_getElem? (i := 95) rfl) (pV_cons (List.mem_of_getElem? (i := 113) rfl) (pV_nil))), f_266_103⟩
theorem q_266_104 : pQ_266 u_266_104 := ⟨_, _, _, _, (pS_cons ok_114 (pS_cons ok_262 (pS_nil))), (pV_cons (List.mem_of_getElem? (i := 95) rfl) (pV_cons (List.mem_of_getElem? (i := 113) rfl) (pV_nil))), f_266_104⟩
theorem q_266_105 : pQ_266 u_266_105 := ⟨_, _, _, _, (pS_cons ok_114 (pS_cons ok_262 (pS_nil))), (pV_cons (List.mem_of_getElem? (i := 95) rfl) (pV_cons (List.mem_of_getElem? (i := 113) rfl) (pV_nil))), f_266_105⟩
theorem q_266_106 : pQ_266 u_266_106 := ⟨_, _, _, _, (pS_cons ok_114 (pS_cons ok_262 (pS_nil))), (pV_cons (List.mem_of_getElem? (i := 95) rfl) (pV_cons (List.mem_of_getElem? (i := 113) rfl) (pV_nil))), f_266_106⟩
theorem q_266_107 : pQ_266 u_266_107 := ⟨_, _, _, _, (pS_nil), (pV_cons (List.mem_of_getElem? (i := 116) rfl) (pV_nil)), f_266_107⟩
theorem q_266_108 : pQ_266 u_266_108 := ⟨_, _, _, _, (pS_cons ok_161 (pS_cons ok_187 (pS_cons ok_188 (pS_cons ok_202 (pS_cons ok_203 (pS_cons ok_262 (pS_nil))))))), (pV_cons (List.mem_of_getElem? (i := 117) rfl) (pV_cons (List.mem_of_getElem? (i := 118) rfl) (pV_cons (List.mem_of_getElem? (i := 119) rfl) (pV_cons (List.mem_of_getElem? (i := 120) rfl) (pV_cons (List.mem_of_getElem? (i := 121) rfl) (pV_nil)))))), f_266_108⟩
theorem q_266_109 : pQ_266 u_266_109 := ⟨_, _, _, _, (pS_nil), (pV_cons (List.mem_of_getElem? (i := 122) rfl) (pV_nil)), f_266_109⟩
theorem q_266_110 : pQ_266 u_266_110 := ⟨_, _, _, _, (pS_nil), (pV_cons (List.mem_of_getElem? (i := 123) rfl) (pV_nil)), f_266_110⟩
theorem q_266_111 : pQ_266 u_266_111 := ⟨_, _, _, _, (pS_nil), (pV_cons (List.mem_of_getElem? (i := 124) rfl) (pV_nil)), f_266_111⟩
theorem q_266_112 : pQ_266 u_266_112 := ⟨_, _, _, _, (pS_nil), (pV_cons (List.mem_of_getElem? (i := 102) rfl) (pV_nil)), f_266_112⟩
theorem q_266_113 : pQ_266 u_266_113 := ⟨_, _, _, _, (pS_nil), (pV_cons (List.mem_of_getElem? (i := 107) rfl) (pV_nil)), f_266_113⟩
theorem q_266_114 : pQ_266 u_266_114 := ⟨_, _, _, _, (pS_nil), (pV_cons (List.mem_of_getElem? (i := 102) rfl) (pV_nil)), f_266_114⟩
theorem q_266_115 : pQ_266 u_266_115 := ⟨_, _, _, _, (pS_nil), (pV_cons (List.mem_of_getElem? (i := 107) rfl) (pV_nil)), f_266_115⟩
theorem q_266_116 : pQ_266 u_266_116 := ⟨_, _, _, _, (pS_nil), (pV_cons (List.mem_of_getElem? (i := 125) rfl) (pV_nil)), f_266_116⟩
theorem q_266_117 : pQ_266 u_266_117 := ⟨_, _, _, _, (pS_nil), (pV_cons (List.mem_of_getElem? (i := 126) rfl) (pV_nil)), f_266_117⟩
theorem q_266_118 : pQ_266 u_266_118 := ⟨_, _, _, _, (pS_cons ok_202 (pS_nil)), (pV_cons (List.mem_of_getElem? (i := 127) rfl) (pV_cons (List.mem_of_getElem? (i := 128) rfl) (pV_nil))), f_266_118⟩
theorem q_266_119 : pQ_266 u_266_119 := ⟨_, _, _, _, (pS_cons ok_202 (pS_nil)), (pV_cons (List.mem_of_getElem? (i := 127) rfl) (pV_cons (List.mem_of_getElem? (i := 130) rfl) (pV_nil))), f_266_119⟩
theorem q_266_120 : pQ_266 u_266_120 := ⟨_, _, _, _, (pS_nil), (pV_cons (List.mem_of_getElem? (i := 131) rfl) (pV_nil)), f_266_120⟩
theorem q_266_121 : pQ_266 u_266_121 := ⟨_, _, _, _, (pS_nil), (pV_cons (List.mem_of_getElem? (i := 132) rfl) (pV_nil)), f_266_121⟩
theorem q_266_122 : pQ_266 u_266_122 := ⟨_, _, _, _, (pS_nil), (pV_nil), f_266_122⟩
theorem q_266_123 : pQ_266 u_266_123 := ⟨_, _, _, _, (pS_nil), (pV_nil), f_266_123⟩
theorem q_266_124 : pQ_266 u_266_124 := ⟨_, _, _, _, (pS_nil), (pV_cons (List.mem_of_getElem? (i := 133) rfl) (pV_nil)), f_266_124⟩
theorem q_266_125 : pQ_266 u_266_125 := ⟨_, _, _, _, (pS_nil), (pV_cons (List.mem_of_getElem? (i := 134) rfl) (pV_nil)), f_266_125⟩
theorem q_266_126 : pQ_266 u_266_126 := ⟨_, _, _, _, (pS_nil), (pV_cons (List.mem_of_getElem? (i := 135) rfl) (pV_nil)), f_266_126⟩
theorem q_266_127 : pQ_266 u_266_127 := ⟨_, _, _, _, (pS_cons ok_114 (pS_cons ok_262 (pS_nil))), (pV_cons (List.mem_of_getElem? (i := 117) rfl) (pV_cons (List.mem_of_getElem? (i := 137) rfl) (pV_nil))), f_266_127⟩
theorem q_266_128 : pQ_266 u_266_128 := ⟨_, _, _, _, (pS_cons ok_114 (pS_cons ok_262 (pS_nil))), (pV_cons (List.mem_of_getElem? (i := 117) rfl) (pV_cons (List.mem_of_getElem? (i := 137) rfl) (pV_nil))), f_266_128⟩
theorem q_266_129 : pQ_266 u_266_129 := ⟨_, _, _, _, (pS_cons ok_114 (pS_cons ok_262 (pS_nil))), (pV_cons (List.mem_of_getElem? (i := 117) rfl) (pV_cons (List.mem_of_getElem? (i := 137) rfl) (pV_nil))), f_266_129⟩
theorem q_266_130 : pQ_266 u_266_130 := ⟨_, _, _, _, (pS_cons ok_114 (pS_cons ok_262 (pS_nil))), (pV_cons (List.mem_of_getElem? (i := 117) rfl) (pV_cons (List.mem_of_getElem? (i := 137) rfl) (pV_nil))), f_266_130⟩
theorem q_266_131 : pQ_266 u_266_131 := ⟨_, _, _, _, (pS_nil), (pV_cons (List.mem_of_getElem? (i := 140) rfl) (pV_nil)), f_266_131⟩
theorem q_266_132 : pQ_266 u_266_132 := ⟨_, _, _, _, (pS_cons ok_179 (pS_cons ok_187 (pS_cons ok_188 (pS_cons ok_265 (pS_nil))))), (pV_cons (List.mem_of_getElem? (i := 141) rfl) (pV_nil)), f_266_132⟩
theorem q_266_133 : pQ_266 u_266_133 := ⟨_, _, _, _, (pS_nil), (pV_cons (List.mem_of_getElem? (i := 142) rfl) (pV_nil)), f_266_133⟩
theorem q_266_134 : pQ_266 u_266_134 := ⟨_, _, _, _, (pS_nil), (pV_cons (List.mem_of_getElem? (i := 143) rfl) (pV_nil)), f_266_134⟩
theorem q_266_135 : pQ_266 u_266_135 := ⟨_, _, _, _, (pS_nil), (pV_cons (List.mem_of_getElem? (i := 144) rfl) (pV_nil)), f_266_135⟩
theorem q_266_136 : pQ_266 u_266_136 := ⟨_, _, _, _, (pS_nil), (pV_cons (List.mem_of_getElem? (i := 126) rfl) (pV_nil)), f_266_136⟩
theorem q_266_137 : pQ_266 u_266_137 := ⟨_, _, _, _, (pS_nil), (pV_cons (List.mem_of_getElem? (i := 131) rfl) (pV_nil)), f_266_137⟩
theorem q_266_138 : pQ_266 u_266_138 := ⟨_, _, _, _, (pS_nil), (pV_cons (List.mem_of_getElem? (i := 126) rfl) (pV_nil)), f_266_138⟩
theorem q_266_139 : pQ_266 u_266_139 := ⟨_, _, _, _, (pS_nil), (pV_cons (List.mem_of_getElem? (i := 131) rfl) (pV_nil)), f_266_139⟩
theorem q_266_140 : pQ_266 u_266_140 := ⟨_, _, _, _, (pS_nil), (pV_cons (List.mem_of_getElem? (i := 145) rfl) (pV_nil)), f_266_140⟩
theorem q_266_141 : pQ_266 u_266_141 := ⟨_, _, _, _, (pS_nil), (pV_cons (List.mem_of_getElem? (i := 146) rfl) (pV_nil)), f_266_141⟩
theorem q_266_142 : pQ_266 u_266_142 := ⟨_, _, _, _, (pS_nil), (pV_cons (List.mem_of_getElem? (i := 147) rfl) (pV_nil)), f_266_142⟩
theorem q_266_143 : pQ_266 u_266_143 := ⟨_, _, _, _, (pS_nil), (pV_cons (List.mem_of_getElem? (i := 148) rfl) (pV_nil)), f_266_143⟩
theorem q_266_144 : pQ_266 u_266_144 := ⟨_, _, _, _, (pS_nil), (pV_cons (List.mem_of_getElem? (i := 149) rfl) (pV_nil)), f_266_144⟩
theorem q_266_145 : pQ_266 u_266_145 := ⟨_, _, _, _, (pS_nil), (pV_cons (List.mem_of_getElem? (i := 150) rfl) (pV_nil)), f_266_145⟩
theorem q_266_146 : pQ_266 u_266_146 := ⟨_, _, _, _, (pS_nil), (pV_cons (List.mem_of_getElem? (i := 151) rfl) (pV_nil)), f_266_146⟩
theorem q_266_147 : pQ_266 u_266_147 := ⟨_, _, _, _, (pS_nil), (pV_nil), f_266_147⟩
theorem q_266_148 : pQ_266 u_266_148 := ⟨_, _, _, _, (pS_nil), (pV_nil), f_266_148⟩
theorem q_266_149 : pQ_266 u_266_149 := ⟨_, _, _, _, (pS_nil), (pV_cons (List.mem_of_getElem? (i := 152) rfl) (pV_nil)), f_266_149⟩
theorem q_266_150 : pQ_266 u_266_150 := ⟨_, _, _, _, (pS_nil), (pV_cons (List.mem_of_getElem? (i := 153) rfl) (pV_nil)), f_266_150⟩
theorem q_266_151 : pQ_266 u_266_151 := ⟨_, _, _, _, (pS_nil), (pV_cons (List.mem_of_getElem? (i := 154) rfl) (pV_nil)), f_266_151⟩
theorem q_266_152 : pQ_266 u_266_152 := ⟨_, _, _, _, (pS_nil), (pV_cons (List.mem_of_getElem? (i := 155) rfl) (pV_nil)), f_266_152⟩
theorem q_266_153 : pQ_266 u_266_153 := ⟨_, _, _, _, (pS_nil), (pV_cons (List.mem_of_getElem? (i := 156) rfl) (pV_nil)), f_266_153⟩
theorem q_266_154 : pQ_266 u_266_154 := ⟨_, _, _, _, (pS_nil), (pV_cons (List.mem_of_getElem? (i := 157) rfl) (pV_nil)), f_266_154⟩
theorem q_266_155 : pQ_266 u_266_155 := ⟨_, _, _, _, (pS_nil), (pV_cons (List.mem_of_getElem? (i := 158) rfl) (pV_nil)), f_266_155⟩
theorem q_266_156 : pQ_266 u_266_156 := ⟨_, _, _, _, (pS_nil), (pV_cons (List.mem_of_getElem? (i := 159) rfl) (pV_nil)), f_266_156⟩
theorem q_266_157 : pQ_266 u_266_157 := ⟨_, _, _, _, (pS_nil), (pV_cons (List.mem_of_getElem? (i := 160) rfl) (pV_nil)), f_266_157⟩
theorem q_266_158 : pQ_266 u_266_158 := ⟨_, _, _, _, (pS_nil), (pV_nil), f_266_158⟩
theorem q_266_159 : pQ_266 u_266_159 := ⟨_, _, _, _, (pS_nil), (pV_nil), f_266_159⟩
theorem q_266_160 : pQ_266 u_266_160 := ⟨_, _, _, _, (pS_nil), (pV_cons (List.mem_of_getElem? (i := 161) rfl) (pV_nil)), f_266_160⟩
theorem q_266_161 : pQ_266 u_266_161 := ⟨_, _, _, _, (pS_nil), (pV_cons (List.mem_of_getElem? (i := 162) rfl) (pV_nil)), f_266_161⟩
theorem q_266_162 : pQ_266 u_266_162 := ⟨_, _, _, _, (pS_nil), (pV_cons (List.mem_of_getElem? (i := 163) rfl) (pV_nil)), f_266_162⟩
theorem q_266_163 : pQ_266 u_266_163 := ⟨_, _, _, _, (pS_nil), (pV_nil), f_266_163⟩
theorem qb_266_0 : ∀ u ∈ [u_266_0, u_266_1, u_266_2, u_266_3, u_266_4, u_266_5, u_266_6, u_266_7, u_266_8, u_266_9], pQ_266 u := pU_cons q_266_0 (pU_cons q_266_1 (pU_cons q_266_2 (pU_cons q_266_3 (pU_cons q_266_4 (pU_cons q_266_5 (pU_cons q_266_6 (pU_cons q_266_7 (pU_cons q_266_8 (pU_cons q_266_9 (pU_nil))))))))))
theorem qb_266_1 : ∀ u ∈ [u_266_10, u_266_11, u_266_12, u_266_13, u_266_14, u_266_15, u_266_16, u_266_17, u_266_18, u_266_19], pQ_266 u := pU_cons q_266_10 (pU_cons q_266_11 (pU_cons q_266_12 (pU_cons q_266_13 (pU_cons q_266_14 (pU_cons q_266_15 (pU_cons q_266_16 (pU_cons q_266_17 (pU_cons q_266_18 (pU_cons q_266_19 (pU_nil))))))))))
theorem qb_266_2 : ∀ u ∈ [u_266_20, u_266_21, u_266_22, u_266_23, u_266_24, u_266_25, u_266_26, u_266_27, u_266_28, u_266_29], pQ_266 u := pU_cons q_266_20 (pU_cons q_266_21 (pU_cons q_266_22 (pU_cons q_266_23 (pU_cons q_266_24 (pU_cons q_266_25 (pU_cons q_266_26 (pU_cons q_266_27 (pU_cons q_266_28 (pU_cons q_266_29 (pU_nil))))))))))
theorem qb_266_3 : ∀ u ∈ [u_266_30, u_266_31, u_266_32, u_266_33, u_266_34, u_266_35, u_266_36, u_266_37, u_266_38, u_266_39], pQ_266 u := pU_cons q_266_30 (pU_cons q_266_31 (pU_cons q_266_32 (pU_cons q_266_33 (pU_cons q_266_34 (pU_cons q_266_35 (pU_cons q_266_36 (pU_cons q_266_37 (pU_cons q_266_38 (pU_cons q_266_39 (pU_nil))))))))))
theorem qb_266_4 : ∀ u ∈ [u_266_40, u_266_41, u_266_42, u_266_43, u_266_44, u_266_45, u_266_46, u_266_47, u_266_48, u_266_49], pQ_266 u := pU_cons q_266_40 (pU_cons q_266_41 (pU_cons q_266_42 (pU_cons q_266_43 (pU_cons q_266_44 (pU_cons q_266_45 (pU_cons q_266_46 (pU_cons q_266_47 (pU_cons q_266_48 (pU_cons q_266_49 (pU_nil))))))))))
theorem qb_266_5 : ∀ u ∈ [u_266_50, u_266_51, u_266_52, u_266_53, u_266_54, u_266_55, u_266_56, u_266_57, u_266_58, u_266_59], pQ_266 u := pU_cons q_266_50 (pU_cons q_266_51 (pU_cons q_266_52 (pU_cons q_266_53 (pU_cons q_266_54 (pU_cons q_266_55 (pU_cons q_266_56 (pU_cons q_266_57 (pU_cons q_266_58 (pU_cons q_266_59 (pU_nil))))))))))
theorem qb_266_6 : ∀ u ∈ [u_266_60, u_266_61, u_266_62, u_266_63, u_266_64, u_266_65, u_266_66, u_266_67, u_266_68, u_266_69], pQ_266 u := pU_cons q_266_60 (pU_cons q_266_61 (pU_cons q_266_62 (pU_cons q_266_63 (pU_cons q_266_64 (pU_cons q_266_65 (pU_cons q_266_66 (pU_cons q_266_67 (pU_cons q_266_68 (pU_cons q_266_69 (pU_nil))))))))))
theorem qb_266_7 : ∀ u ∈ [u_266_70, u_266_71, u_266_72, u_266_73, u_266_74, u_266_75, u_266_76, u_266_77, u_266_78, u_266_79], pQ_266 u := pU_cons q_266_70 (pU_cons q_266_71 (pU_cons q_266_72 (pU_cons q_266_73 (pU_cons q_266_74 (pU_cons q_266_75 (pU_cons q_266_76 (pU_cons q_266_77 (pU_cons q_266_78 (pU_cons q_266_79 (pU_nil))))))))))
theorem qb_266_8 : ∀ u ∈ [u_266_80, u_266_81, u_266_82, u_266_83, u_266_84, u_266_85, u_266_86, u_266_87, u_266_88, u_266_89], pQ_266 u := pU_cons q_266_80 (pU_cons q_266_81 (pU_cons q_266_82 (pU_cons q_266_83 (pU_cons q_266_84 (pU_cons q_266_85 (pU_cons q_266_86 (pU_cons q_266_87 (pU_cons q_266_88 (pU_cons q_266_89 (pU_nil))))))))))
theorem qb_266_9 : ∀ u ∈ [u_266_90, u_266_91, u_266_92, u_266_93, u_266_94, u_266_95, u_266_96, u_266_97, u_266_98, u_266_99], pQ_266 u := pU_cons q_266_90 (pU_cons q_266_91 (pU_cons q_266_92 (pU_cons q_266_93 (pU_cons q_266_94 (pU_cons q_266_95 (pU_cons q_266_96 (pU_cons q_266_97 (pU_cons q_266_98 (pU_cons q_266_99 (pU_nil))))))))))
theorem qb_266_10 : ∀ u ∈ [u_266_100, u_266_101, u_266_102, u_266_103, u_266_104, u_266_105, u_266_106, u_266_107, u_266_108, u_266_109], pQ_266 u := pU_cons q_266_100 (pU_cons q_266_101 (pU_cons q_266_102 (pU_cons q_266_103 (pU_cons q_266_104 (pU_cons q_266_105 (pU_cons q_266_106 (pU_cons q_266_107 (pU_cons q_266_108 (pU_cons q_266_109 (pU_nil))))))))))
theorem qb_266_11 : ∀ u ∈ [u_266_110, u_266_111, u_266_112, u_266_113, u_266_114, u_266_115, u_266_116, u_266_117, u_266_118, u_266_119], pQ_266 u := pU_cons q_266_110 (pU_cons q_266_111 (pU_cons q_266_112 (pU_cons q_266_113 (pU_cons q_266_114 (pU_cons q_266_115 (pU_cons q_266_116 (pU_cons q_266_117 (pU_cons q_266_118 (pU_cons q_266_119 (pU_nil))))))))))
theorem qb_266_12 : ∀ u ∈ [u_266_120, u_266_121, u_266_122, u_266_123, u_266_124, u_266_125, u_266_126, u_266_127, u_266_128, u_266_129], pQ_266 u := pU_cons q_266_120 (pU_cons q_266_121 (pU_cons q_266_122 (pU_cons q_266_123 (pU_cons q_266_124 (pU_cons q_266_125 (pU_cons q_266_126 (pU_cons q_266_127 (pU_cons q_266_128 (pU_cons q_266_129 (pU_nil))))))))))
theorem qb_266_13 : ∀ u ∈ [u_266_130, u_266_131, u_266_132, u_266_133, u_266_134, u_266_135, u_266_136, u_266_137, u_266_138, u_266_139], pQ_266 u := pU_cons q_266_130 (pU_cons q_266_131 (pU_cons q_266_132 (pU_cons q_266_133 (pU_cons q_266_134 (pU_cons q_266_135 (pU_cons q_266_136 (pU_cons q_266_137 (pU_cons q_266_138 (pU_cons q_266_139 (pU_nil))))))))))
theorem qb_266_14 : ∀ u ∈ [u_266_140, u_266_141, u_266_142, u_266_143, u_266_144, u_266_145, u_266_146, u_266_147, u_266_148, u_266_149], pQ_266 u := pU_cons q_266_140 (pU_cons q_266_141 (pU_cons q_266_142 (pU_cons q_266_143 (pU_cons q_266_144 (pU_cons q_266_145 (pU_cons q_266_146 (pU_cons q_266_147 (pU_cons q_266_148 (pU_cons q_266_149 (pU_nil))))))))))
theorem qb_266_15 : ∀ u ∈ [u_266_150, u_266_151, u_266_152, u_266_153, u_266_154, u_266_155, u_266_156, u_266_157, u_266_158, u_266_159], pQ_266 u := pU_cons q_266_150 (pU_cons q_266_151 (pU_cons q_266_152 (pU_cons q_266_153 (pU_cons q_266_154 (pU_cons q_266_155 (pU_cons q_266_156 (pU_cons q_266_157 (pU_cons q_266_158 (pU_cons q_266_159 (pU_nil))))))))))
theorem qb_266_16 : ∀ u ∈ [u_266_160, u_266_161, u_266_162, u_266_163], pQ_266 u := pU_cons q_266_160 (pU_cons q_266_161 (pU_cons q_266_162 (pU_cons q_266_163 (pU_nil))))
theorem ok_266 : sInOk pPT i_266 := sInst3 (M := pm_94) (cus := us_266) pOk pg_94 (by decide +kernel) ⟨_, _, _, _, (pS_nil), (pV_cons (List.mem_of_getElem? (i := 0) rfl) (pV_nil)), e_266⟩ (show ∀ u ∈ us_266, pQ_266 u from (pU_app qb_266_0 (pU_app qb_266_1 (pU_app qb_266_2 (pU_app qb_266_3 (pU_app qb_266_4 (pU_app qb_266_5 (pU_app qb_266_6 (pU_app qb_266_7 (pU_app qb_266_8 (pU_app qb_266_9 (pU_app qb_266_10 (pU_app qb_266_11 (pU_app qb_266_12 (pU_app qb_266_13 (pU_app qb_266_14 (pU_app qb_266_15 qb_266_16)))))))))))))))))
def pQ_267 (u : sCu) : Prop := ∃ (SM : List sIn) (H : gHt) (cu : List sCu) (n : Nat), (∀ I ∈ SM, sInOk pPT I) ∧ (∀ v ∈ cu, v ∈ us_267) ∧ sWhU pPT SM H i_267 (mR pm_91) cu n u = true
theorem q_267_0 : pQ_267 u_267_0 := ⟨_, _, _, _, (pS_cons ok_190 (pS_nil)), (pV_nil), f_267_0⟩
theorem q_267_1 : pQ_267 u_267_1 := ⟨_, _, _, _, (pS_cons ok_114 (pS_cons ok_208 (pS_cons ok_266 (pS_nil)))), (pV_cons (List.mem_of_getElem? (i := 0) rfl) (pV_cons (List.mem_of_getElem? (i := 1) rfl) (pV_nil))), f_267_1⟩
theorem qb_267_0 : ∀ u ∈ [u_267_0, u_267_1], pQ_267 u := pU_cons q_267_0 (pU_cons q_267_1 (pU_nil))
theorem ok_267 : sInOk pPT i_267 := sInst3 (M := pm_91) (cus := us_267) pOk pg_91 (by decide +kernel) ⟨_, _, _, _, (pS_cons ok_266 (pS_nil)), (pV_cons (List.mem_of_getElem? (i := 0) rfl) (pV_cons (List.mem_of_getElem? (i := 1) rfl) (pV_nil))), e_267⟩ (show ∀ u ∈ us_267, pQ_267 u from qb_267_0)
def pQ_268 (u : sCu) : Prop := ∃ (SM : List sIn) (H : gHt) (cu : List sCu) (n : Nat), (∀ I ∈ SM, sInOk pPT I) ∧ (∀ v ∈ cu, v ∈ us_268) ∧ sWhU pPT SM H i_268 (mR pm_94) cu n u = true
theorem q_268_0 : pQ_268 u_268_0 := ⟨_, _, _, _, (pS_cons ok_179 (pS_cons ok_187 (pS_cons ok_188 (pS_cons ok_265 (pS_nil))))), (pV_cons (List.mem_of_getElem? (i := 1) rfl) (pV_nil)), f_268_0⟩
theorem q_268_1 : pQ_268 u_268_1 := ⟨_, _, _, _, (pS_nil), (pV_cons (List.mem_of_getElem? (i := 2) rfl) (pV_nil)), f_268_1⟩
theorem q_268_2 : pQ_268 u_268_2 := ⟨_, _, _, _, (pS_nil), (pV_nil), f_268_2⟩
theorem qb_268_0 : ∀ u ∈ [u_268_0, u_268_1, u_268_2], pQ_268 u := pU_cons q_268_0 (pU_cons q_268_1 (pU_cons q_268_2 (pU_nil)))
theorem ok_268 : sInOk pPT i_268 := sInst3 (M := pm_94) (cus := us_268) pOk pg_94 (by decide +kernel) ⟨_, _, _, _, (pS_nil), (pV_cons (List.mem_of_getElem? (i := 0) rfl) (pV_nil)), e_268⟩ (show ∀ u ∈ us_268, pQ_268 u from qb_268_0)
def pQ_269 (u : sCu) : Prop := ∃ (SM : List sIn) (H : gHt) (cu : List sCu) (n : Nat), (∀ I ∈ SM, sInOk pPT I) ∧ (∀ v ∈ cu, v ∈ us_269) ∧ sWhU pPT SM H i_269 (mR pm_91) cu n u = true
theorem q_269_0 : pQ_269 u_269_0 := ⟨_, _, _, _, (pS_cons ok_190 (pS_nil)), (pV_nil), f_269_0⟩
theorem qb_269_0 : ∀ u ∈ [u_269_0], pQ_269 u := pU_cons q_269_0 (pU_nil)
theorem ok_269 : sInOk pPT i_269 := sInst3 (M := pm_91) (cus := us_269) pOk pg_91 (by decide +kernel) ⟨_, _, _, _, (pS_cons ok_268 (pS_nil)), (pV_cons (List.mem_of_getElem? (i := 0) rfl) (pV_nil)), e_269⟩ (show ∀ u ∈ us_269, pQ_269 u from qb_269_0)
def pQ_270 (u : sCu) : Prop := ∃ (SM : List sIn) (H : gHt) (cu : List sCu) (n : Nat), (∀ I ∈ SM, sInOk pPT I) ∧ (∀ v ∈ cu, v ∈ us_270) ∧ sWhU pPT SM H i_270 (mR pm_92) cu n u = true
theorem q_270_0 : pQ_270 u_270_0 := ⟨_, _, _, _, (pS_cons ok_267 (pS_nil)), (pV_cons (List.mem_of_getElem? (i := 2) rfl) (pV_cons (List.mem_of_getElem? (i := 3) rfl) (pV_nil))), f_270_0⟩
theorem q_270_1 : pQ_270 u_270_1 := ⟨_, _, _, _, (pS_cons ok_269 (pS_nil)), (pV_cons (List.mem_of_getElem? (i := 2) rfl) (pV_nil)), f_270_1⟩
theorem q_270_2 : pQ_270 u_270_2 := ⟨_, _, _, _, (pS_cons ok_192 (pS_nil)), (pV_nil), f_270_2⟩
theorem q_270_3 : pQ_270 u_270_3 := ⟨_, _, _, _, (pS_cons ok_114 (pS_cons ok_212 (pS_cons ok_267 (pS_nil)))), (pV_cons (List.mem_of_getElem? (i := 2) rfl) (pV_cons (List.mem_of_getElem? (i := 3) rfl) (pV_nil))), f_270_3⟩
theorem qb_270_0 : ∀ u ∈ [u_270_0, u_270_1, u_270_2, u_270_3], pQ_270 u := pU_cons q_270_0 (pU_cons q_270_1 (pU_cons q_270_2 (pU_cons q_270_3 (pU_nil))))
theorem ok_270 : sInOk pPT i_270 := sInst3 (M := pm_92) (cus := us_270) pOk pg_92 (by decide +kernel) ⟨_, _, _, _, (pS_cons ok_160 (pS_nil)), (pV_cons (List.mem_of_getElem? (i := 0) rfl) (pV_cons (List.mem_of_getElem? (i := 1) rfl) (pV_nil))), e_270⟩ (show ∀ u ∈ us_270, pQ_270 u from qb_270_0)
def pQ_271 (u : sCu) : Prop := ∃ (SM : List sIn) (H : gHt) (cu : List sCu) (n : Nat), (∀ I ∈ SM, sInOk pPT I) ∧ (∀ v ∈ cu, v ∈ us_271) ∧ sWhU pPT SM H i_271 (mR pm_93) cu n u = true
theorem q_271_0 : pQ_271 u_271_0 := ⟨_, _, _, _, (pS_cons ok_157 (pS_nil)), (pV_nil), f_271_0⟩
theorem q_271_1 : pQ_271 u_271_1 := ⟨_, _, _, _, (pS_cons ok_159 (pS_nil)), (pV_nil), f_271_1⟩
theorem q_271_2 : pQ_271 u_271_2 := ⟨_, _, _, _, (pS_cons ok_114 (pS_nil)), (pV_cons (List.mem_of_getElem? (i := 3) rfl) (pV_nil)), f_271_2⟩
theorem q_271_3 : pQ_271 u_271_3 := ⟨_, _, _, _, (pS_cons ok_157 (pS_cons ok_159 (pS_cons ok_270 (pS_nil)))), (pV_nil), f_271_3⟩
theorem qb_271_0 : ∀ u ∈ [u_271_0, u_271_1, u_271_2, u_271_3], pQ_271 u := pU_cons q_271_0 (pU_cons q_271_1 (pU_cons q_271_2 (pU_cons q_271_3 (pU_nil))))
theorem ok_271 : sInOk pPT i_271 := sInst3 (M := pm_93) (cus := us_271) pOk pg_93 (by decide +kernel) ⟨_, _, _, _, (pS_cons ok_120 (pS_cons ok_121 (pS_cons ok_122 (pS_cons ok_123 (pS_cons ok_124 (pS_cons ok_131 (pS_cons ok_140 (pS_cons ok_146 (pS_cons ok_152 (pS_cons ok_153 (pS_cons ok_154 (pS_cons ok_155 (pS_cons ok_156 (pS_nil)))))))))))))), (pV_cons (List.mem_of_getElem? (i := 0) rfl) (pV_cons (List.mem_of_getElem? (i := 1) rfl) (pV_cons (List.mem_of_getElem? (i := 2) rfl) (pV_nil)))), e_271⟩ (show ∀ u ∈ us_271, pQ_271 u from qb_271_0)
theorem ok_272 : sInOk pPT i_272 := sInst3 (M := pm_111) (cus := []) pOk pg_111 (by decide +kernel) ⟨_, _, _, _, (pS_nil), pV_nil, e_272⟩ pU_nil
def pQ_273 (u : sCu) : Prop := ∃ (SM : List sIn) (H : gHt) (cu : List sCu) (n : Nat), (∀ I ∈ SM, sInOk pPT I) ∧ (∀ v ∈ cu, v ∈ us_273) ∧ sWhU pPT SM H i_273 (mR pm_111) cu n u = true
theorem q_273_0 : pQ_273 u_273_0 := ⟨_, _, _, _, (pS_nil), (pV_cons (List.mem_of_getElem? (i := 0) rfl) (pV_nil)), f_273_0⟩
theorem qb_273_0 : ∀ u ∈ [u_273_0], pQ_273 u := pU_cons q_273_0 (pU_nil)
theorem ok_273 : sInOk pPT i_273 := sInst3 (M := pm_111) (cus := us_273) pOk pg_111 (by decide +kernel) ⟨_, _, _, _, (pS_nil), (pV_cons (List.mem_of_getElem? (i := 0) rfl) (pV_nil)), e_273⟩ (show ∀ u ∈ us_273, pQ_273 u from qb_273_0)
def pQ_274 (u : sCu) : Prop := ∃ (SM : List sIn) (H : gHt) (cu : List sCu) (n : Nat), (∀ I ∈ SM, sInOk pPT I) ∧ (∀ v ∈ cu, v ∈ us_274) ∧ sWhU pPT SM H i_274 (mR pm_111) cu n u = true
theorem q_274_0 : pQ_274 u_274_0 := ⟨_, _, _, _, (pS_nil), (pV_cons (List.mem_of_getElem? (i := 0) rfl) (pV_nil)), f_274_0⟩
theorem qb_274_0 : ∀ u ∈ [u_274_0], pQ_274 u := pU_cons q_274_0 (pU_nil)
theorem ok_274 : sInOk pPT i_274 := sInst3 (M := pm_111) (cus := us_274) pOk pg_111 (by decide +kernel) ⟨_, _, _, _, (pS_nil), (pV_cons (List.mem_of_getElem? (i := 0) rfl) (pV_nil)), e_274⟩ (show ∀ u ∈ us_274, pQ_274 u from qb_274_0)
def pQ_275 (u : sCu) : Prop := ∃ (SM : List sIn) (H : gHt) (cu : List sCu) (n : Nat), (∀ I ∈ SM, sInOk pPT I) ∧ (∀ v ∈ cu, v ∈ us_275) ∧ sWhU pPT SM H i_275 (mR pm_111) cu n u = true
theorem q_275_0 : pQ_275 u_275_0 := ⟨_, _, _, _, (pS_nil), (pV_cons (List.mem_of_getElem? (i := 0) rfl) (pV_nil)), f_275_0⟩
theorem qb_275_0 : ∀ u ∈ [u_275_0], pQ_275 u := pU_cons q_275_0 (pU_nil)
theorem ok_275 : sInOk pPT i_275 := sInst3 (M := pm_111) (cus := us_275) pOk pg_111 (by decide +kernel) ⟨_, _, _, _, (pS_nil), (pV_cons (List.mem_of_getElem? (i := 0) rfl) (pV_nil)), e_275⟩ (show ∀ u ∈ us_275, pQ_275 u from qb_275_0)
def pQ_276 (u : sCu) : Prop := ∃ (SM : List sIn) (H : gHt) (cu : List sCu) (n : Nat), (∀ I ∈ SM, sInOk pPT I) ∧ (∀ v ∈ cu, v ∈ us_276) ∧ sWhU pPT SM H i_276 (mR pm_111) cu n u = true
theorem q_276_0 : pQ_276 u_276_0 := ⟨_, _, _, _, (pS_nil), (pV_cons (List.mem_of_getElem? (i := 0) rfl) (pV_nil)), f_276_0⟩
theorem qb_276_0 : ∀ u ∈ [u_276_0], pQ_276 u := pU_cons q_276_0 (pU_nil)
theorem ok_276 : sInOk pPT i_276 := sInst3 (M := pm_111) (cus := us_276) pOk pg_111 (by decide +kernel) ⟨_, _, _, _, (pS_nil), (pV_cons (List.mem_of_getElem? (i := 0) rfl) (pV_nil)), e_276⟩ (show ∀ u ∈ us_276, pQ_276 u from qb_276_0)
def pQ_277 (u : sCu) : Prop := ∃ (SM : List sIn) (H : gHt) (cu : List sCu) (n : Nat), (∀ I ∈ SM, sInOk pPT I) ∧ (∀ v ∈ cu, v ∈ us_277) ∧ sWhU pPT SM H i_277 (mR pm_111) cu n u = true
theorem q_277_0 : pQ_277 u_277_0 := ⟨_, _, _, _, (pS_nil), (pV_cons (List.mem_of_getElem? (i := 0) rfl) (pV_nil)), f_277_0⟩
theorem qb_277_0 : ∀ u ∈ [u_277_0], pQ_277 u := pU_cons q_277_0 (pU_nil)
theorem ok_277 : sInOk pPT i_277 := sInst3 (M := pm_111) (cus := us_277) pOk pg_111 (by decide +kernel) ⟨_, _, _, _, (pS_nil), (pV_cons (List.mem_of_getElem? (i := 0) rfl) (pV_nil)), e_277⟩ (show ∀ u ∈ us_277, pQ_277 u from qb_277_0)
def pQ_278 (u : sCu) : Prop := ∃ (SM : List sIn) (H : gHt) (cu : List sCu) (n : Nat), (∀ I ∈ SM, sInOk pPT I) ∧ (∀ v ∈ cu, v ∈ us_278) ∧ sWhU pPT SM H i_278 (mR pm_111) cu n u = true
theorem q_278_0 : pQ_278 u_278_0 := ⟨_, _, _, _, (pS_nil), (pV_cons (List.mem_of_getElem? (i := 0) rfl) (pV_nil)), f_278_0⟩
theorem qb_278_0 : ∀ u ∈ [u_278_0], pQ_278 u := pU_cons q_278_0 (pU_nil)
theorem ok_278 : sInOk pPT i_278 := sInst3 (M := pm_111) (cus := us_278) pOk pg_111 (by decide +kernel) ⟨_, _, _, _, (pS_nil), (pV_cons (List.mem_of_getElem? (i := 0) rfl) (pV_nil)), e_278⟩ (show ∀ u ∈ us_278, pQ_278 u from qb_278_0)
def pQ_279 (u : sCu) : Prop := ∃ (SM : List sIn) (H : gHt) (cu : List sCu) (n : Nat), (∀ I ∈ SM, sInOk pPT I) ∧ (∀ v ∈ cu, v ∈ us_279) ∧ sWhU pPT SM H i_279 (mR pm_111) cu n u = true
theorem q_279_0 : pQ_279 u_279_0 := ⟨_, _, _, _, (pS_nil), (pV_cons (List.mem_of_getElem? (i := 0) rfl) (pV_nil)), f_279_0⟩
theorem qb_279_0 : ∀ u ∈ [u_279_0], pQ_279 u := pU_cons q_279_0 (pU_nil)
theorem ok_279 : sInOk pPT i_279 := sInst3 (M := pm_111) (cus := us_279) pOk pg_111 (by decide +kernel) ⟨_, _, _, _, (pS_nil), (pV_cons (List.mem_of_getElem? (i := 0) rfl) (pV_nil)), e_279⟩ (show ∀ u ∈ us_279, pQ_279 u from qb_279_0)
def pQ_280 (u : sCu) : Prop := ∃ (SM : List sIn) (H : gHt) (cu : List sCu) (n : Nat), (∀ I ∈ SM, sInOk pPT I) ∧ (∀ v ∈ cu, v ∈ us_280) ∧ sWhU pPT SM H i_280 (mR pm_111) cu n u = true
theorem q_280_0 : pQ_280 u_280_0 := ⟨_, _, _, _, (pS_nil), (pV_cons (List.mem_of_getElem? (i := 0) rfl) (pV_nil)), f_280_0⟩
theorem qb_280_0 : ∀ u ∈ [u_280_0], pQ_280 u := pU_cons q_280_0 (pU_nil)
theorem ok_280 : sInOk pPT i_280 := sInst3 (M := pm_111) (cus := us_280) pOk pg_111 (by decide +kernel) ⟨_, _, _, _, (pS_nil), (pV_cons (List.mem_of_getElem? (i := 0) rfl) (pV_nil)), e_280⟩ (show ∀ u ∈ us_280, pQ_280 u from qb_280_0)
def pQ_281 (u : sCu) : Prop := ∃ (SM : List sIn) (H : gHt) (cu : List sCu) (n : Nat), (∀ I ∈ SM, sInOk pPT I) ∧ (∀ v ∈ cu, v ∈ us_281) ∧ sWhU pPT SM H i_281 (mR pm_111) cu n u = true
theorem q_281_0 : pQ_281 u_281_0 := ⟨_, _, _, _, (pS_nil), (pV_cons (List.mem_of_getElem? (i := 0) rfl) (pV_nil)), f_281_0⟩
theorem qb_281_0 : ∀ u ∈ [u_281_0], pQ_281 u := pU_cons q_281_0 (pU_nil)
theorem ok_281 : sInOk pPT i_281 := sInst3 (M := pm_111) (cus := us_281) pOk pg_111 (by decide +kernel) ⟨_, _, _, _, (pS_nil), (pV_cons (List.mem_of_getElem? (i := 0) rfl) (pV_nil)), e_281⟩ (show ∀ u ∈ us_281, pQ_281 u from qb_281_0)
def pQ_282 (u : sCu) : Prop := ∃ (SM : List sIn) (H : gHt) (cu : List sCu) (n : Nat), (∀ I ∈ SM, sInOk pPT I) ∧ (∀ v ∈ cu, v ∈ us_282) ∧ sWhU pPT SM H i_282 (mR pm_111) cu n u = true
theorem q_282_0 : pQ_282 u_282_0 := ⟨_, _, _, _, (pS_nil), (pV_cons (List.mem_of_getElem? (i := 0) rfl) (pV_nil)), f_282_0⟩
theorem qb_282_0 : ∀ u ∈ [u_282_0], pQ_282 u := pU_cons q_282_0 (pU_nil)
theorem ok_282 : sInOk pPT i_282 := sInst3 (M := pm_111) (cus := us_282) pOk pg_111 (by decide +kernel) ⟨_, _, _, _, (pS_nil), (pV_cons (List.mem_of_getElem? (i := 0) rfl) (pV_nil)), e_282⟩ (show ∀ u ∈ us_282, pQ_282 u from qb_282_0)
def pQ_283 (u : sCu) : Prop := ∃ (SM : List sIn) (H : gHt) (cu : List sCu) (n : Nat), (∀ I ∈ SM, sInOk pPT I) ∧ (∀ v ∈ cu, v ∈ us_283) ∧ sWhU pPT SM H i_283 (mR pm_111) cu n u = true
theorem q_283_0 : pQ_283 u_283_0 := ⟨_, _, _, _, (pS_nil), (pV_cons (List.mem_of_getElem? (i := 0) rfl) (pV_nil)), f_283_0⟩
theorem qb_283_0 : ∀ u ∈ [u_283_0], pQ_283 u := pU_cons q_283_0 (pU_nil)
theorem ok_283 : sInOk pPT i_283 := sInst3 (M := pm_111) (cus := us_283) pOk pg_111 (by decide +kernel) ⟨_, _, _, _, (pS_nil), (pV_cons (List.mem_of_getElem? (i := 0) rfl) (pV_nil)), e_283⟩ (show ∀ u ∈ us_283, pQ_283 u from qb_283_0)
theorem ok_284 : sInOk pPT i_284 := sInst3 (M := pm_112) (cus := []) pOk pg_112 (by decide +kernel) ⟨_, _, _, _, (pS_cons ok_272 (pS_cons ok_273 (pS_cons ok_274 (pS_cons ok_275 (pS_cons ok_276 (pS_cons ok_277 (pS_cons ok_278 (pS_cons ok_279 (pS_cons ok_280 (pS_cons ok_281 (pS_cons ok_282 (pS_cons ok_283 (pS_nil))))))))))))), pV_nil, e_284⟩ pU_nil
def pQ_285 (u : sCu) : Prop := ∃ (SM : List sIn) (H : gHt) (cu : List sCu) (n : Nat), (∀ I ∈ SM, sInOk pPT I) ∧ (∀ v ∈ cu, v ∈ us_285) ∧ sWhU pPT SM H i_285 (mR pm_104) cu n u = true
theorem q_285_0 : pQ_285 u_285_0 := ⟨_, _, _, _, (pS_nil), (pV_cons (List.mem_of_getElem? (i := 4) rfl) (pV_cons (List.mem_of_getElem? (i := 0) rfl) (pV_cons (List.mem_of_getElem? (i := 1) rfl) (pV_nil)))), f_285_0⟩
theorem q_285_1 : pQ_285 u_285_1 := ⟨_, _, _, _, (pS_nil), (pV_cons (List.mem_of_getElem? (i := 5) rfl) (pV_cons (List.mem_of_getElem? (i := 1) rfl) (pV_nil))), f_285_1⟩
theorem q_285_2 : pQ_285 u_285_2 := ⟨_, _, _, _, (pS_nil), (pV_cons (List.mem_of_getElem? (i := 5) rfl) (pV_cons (List.mem_of_getElem? (i := 2) rfl) (pV_cons (List.mem_of_getElem? (i := 3) rfl) (pV_nil)))), f_285_2⟩
theorem q_285_3 : pQ_285 u_285_3 := ⟨_, _, _, _, (pS_nil), (pV_cons (List.mem_of_getElem? (i := 5) rfl) (pV_cons (List.mem_of_getElem? (i := 3) rfl) (pV_nil))), f_285_3⟩
theorem q_285_4 : pQ_285 u_285_4 := ⟨_, _, _, _, (pS_cons ok_114 (pS_nil)), (pV_cons (List.mem_of_getElem? (i := 7) rfl) (pV_nil)), f_285_4⟩
theorem q_285_5 : pQ_285 u_285_5 := ⟨_, _, _, _, (pS_nil), (pV_cons (List.mem_of_getElem? (i := 8) rfl) (pV_nil)), f_285_5⟩
theorem q_285_6 : pQ_285 u_285_6 := ⟨_, _, _, _, (pS_nil), (pV_cons (List.mem_of_getElem? (i := 8) rfl) (pV_nil)), f_285_6⟩
theorem q_285_7 : pQ_285 u_285_7 := ⟨_, _, _, _, (pS_nil), (pV_nil), f_285_7⟩
theorem q_285_8 : pQ_285 u_285_8 := ⟨_, _, _, _, (pS_nil), (pV_nil), f_285_8⟩
theorem qb_285_0 : ∀ u ∈ [u_285_0, u_285_1, u_285_2, u_285_3, u_285_4, u_285_5, u_285_6, u_285_7, u_285_8], pQ_285 u := pU_cons q_285_0 (pU_cons q_285_1 (pU_cons q_285_2 (pU_cons q_285_3 (pU_cons q_285_4 (pU_cons q_285_5 (pU_cons q_285_6 (pU_cons q_285_7 (pU_cons q_285_8 (pU_nil)))))))))
theorem ok_285 : sInOk pPT i_285 := sInst3 (M := pm_104) (cus := us_285) pOk pg_104 (by decide +kernel) ⟨_, _, _, _, (pS_cons ok_125 (pS_cons ok_127 (pS_cons ok_128 (pS_cons ok_130 (pS_nil))))), (pV_cons (List.mem_of_getElem? (i := 0) rfl) (pV_cons (List.mem_of_getElem? (i := 1) rfl) (pV_cons (List.mem_of_getElem? (i := 2) rfl) (pV_cons (List.mem_of_getElem? (i := 3) rfl) (pV_nil))))), e_285⟩ (show ∀ u ∈ us_285, pQ_285 u from qb_285_0)
theorem ok_286 : sInOk pPT i_286 := sInst3 (M := pm_106) (cus := []) pOk pg_106 (by decide +kernel) ⟨_, _, _, _, (pS_cons ok_128 (pS_cons ok_132 (pS_cons ok_134 (pS_cons ok_136 (pS_cons ok_137 (pS_cons ok_139 (pS_nil))))))), pV_nil, e_286⟩ pU_nil
def pQ_287 (u : sCu) : Prop := ∃ (SM : List sIn) (H : gHt) (cu : List sCu) (n : Nat), (∀ I ∈ SM, sInOk pPT I) ∧ (∀ v ∈ cu, v ∈ us_287) ∧ sWhU pPT SM H i_287 (mR pm_105) cu n u = true
theorem q_287_0 : pQ_287 u_287_0 := ⟨_, _, _, _, (pS_nil), (pV_cons (List.mem_of_getElem? (i := 4) rfl) (pV_cons (List.mem_of_getElem? (i := 0) rfl) (pV_cons (List.mem_of_getElem? (i := 1) rfl) (pV_nil)))), f_287_0⟩
theorem q_287_1 : pQ_287 u_287_1 := ⟨_, _, _, _, (pS_nil), (pV_cons (List.mem_of_getElem? (i := 5) rfl) (pV_cons (List.mem_of_getElem? (i := 1) rfl) (pV_nil))), f_287_1⟩
theorem q_287_2 : pQ_287 u_287_2 := ⟨_, _, _, _, (pS_nil), (pV_cons (List.mem_of_getElem? (i := 5) rfl) (pV_cons (List.mem_of_getElem? (i := 2) rfl) (pV_cons (List.mem_of_getElem? (i := 3) rfl) (pV_nil)))), f_287_2⟩
theorem q_287_3 : pQ_287 u_287_3 := ⟨_, _, _, _, (pS_nil), (pV_cons (List.mem_of_getElem? (i := 5) rfl) (pV_cons (List.mem_of_getElem? (i := 3) rfl) (pV_nil))), f_287_3⟩
theorem q_287_4 : pQ_287 u_287_4 := ⟨_, _, _, _, (pS_cons ok_114 (pS_nil)), (pV_cons (List.mem_of_getElem? (i := 7) rfl) (pV_nil)), f_287_4⟩
theorem q_287_5 : pQ_287 u_287_5 := ⟨_, _, _, _, (pS_nil), (pV_cons (List.mem_of_getElem? (i := 8) rfl) (pV_nil)), f_287_5⟩
theorem q_287_6 : pQ_287 u_287_6 := ⟨_, _, _, _, (pS_nil), (pV_cons (List.mem_of_getElem? (i := 8) rfl) (pV_nil)), f_287_6⟩
theorem q_287_7 : pQ_287 u_287_7 := ⟨_, _, _, _, (pS_cons ok_143 (pS_nil)), (pV_nil), f_287_7⟩
theorem q_287_8 : pQ_287 u_287_8 := ⟨_, _, _, _, (pS_cons ok_145 (pS_nil)), (pV_nil), f_287_8⟩
theorem qb_287_0 : ∀ u ∈ [u_287_0, u_287_1, u_287_2, u_287_3, u_287_4, u_287_5, u_287_6, u_287_7, u_287_8], pQ_287 u := pU_cons q_287_0 (pU_cons q_287_1 (pU_cons q_287_2 (pU_cons q_287_3 (pU_cons q_287_4 (pU_cons q_287_5 (pU_cons q_287_6 (pU_cons q_287_7 (pU_cons q_287_8 (pU_nil)))))))))
theorem ok_287 : sInOk pPT i_287 := sInst3 (M := pm_105) (cus := us_287) pOk pg_105 (by decide +kernel) ⟨_, _, _, _, (pS_cons ok_127 (pS_cons ok_128 (pS_cons ok_130 (pS_cons ok_141 (pS_nil))))), (pV_cons (List.mem_of_getElem? (i := 0) rfl) (pV_cons (List.mem_of_getElem? (i := 1) rfl) (pV_cons (List.mem_of_getElem? (i := 2) rfl) (pV_cons (List.mem_of_getElem? (i := 3) rfl) (pV_nil))))), e_287⟩ (show ∀ u ∈ us_287, pQ_287 u from qb_287_0)
theorem ok_288 : sInOk pPT i_288 := sInst3 (M := pm_103) (cus := []) pOk pg_103 (by decide +kernel) ⟨_, _, _, _, (pS_cons ok_136 (pS_cons ok_139 (pS_cons ok_147 (pS_cons ok_149 (pS_cons ok_151 (pS_nil)))))), pV_nil, e_288⟩ pU_nil
theorem ok_289 : sInOk pPT i_289 := sInst3 (M := pm_103) (cus := []) pOk pg_103 (by decide +kernel) ⟨_, _, _, _, (pS_cons ok_136 (pS_cons ok_139 (pS_cons ok_147 (pS_cons ok_149 (pS_cons ok_151 (pS_nil)))))), pV_nil, e_289⟩ pU_nil
theorem ok_290 : sInOk pPT i_290 := sInst3 (M := pm_103) (cus := []) pOk pg_103 (by decide +kernel) ⟨_, _, _, _, (pS_cons ok_136 (pS_cons ok_139 (pS_cons ok_147 (pS_cons ok_149 (pS_cons ok_151 (pS_nil)))))), pV_nil, e_290⟩ pU_nil
theorem ok_291 : sInOk pPT i_291 := sInst3 (M := pm_103) (cus := []) pOk pg_103 (by decide +kernel) ⟨_, _, _, _, (pS_cons ok_136 (pS_cons ok_139 (pS_cons ok_147 (pS_cons ok_149 (pS_cons ok_151 (pS_nil)))))), pV_nil, e_291⟩ pU_nil
theorem ok_292 : sInOk pPT i_292 := sInst3 (M := pm_103) (cus := []) pOk pg_103 (by decide +kernel) ⟨_, _, _, _, (pS_cons ok_136 (pS_cons ok_139 (pS_cons ok_147 (pS_cons ok_149 (pS_cons ok_151 (pS_nil)))))), pV_nil, e_292⟩ pU_nil
theorem ok_293 : sInOk pPT i_293 := sInst3 (M := pm_92) (cus := []) pOk pg_92 (by decide +kernel) ⟨_, _, _, _, (pS_nil), pV_nil, e_293⟩ pU_nil
def pQ_294 (u : sCu) : Prop := ∃ (SM : List sIn) (H : gHt) (cu : List sCu) (n : Nat), (∀ I ∈ SM, sInOk pPT I) ∧ (∀ v ∈ cu, v ∈ us_294) ∧ sWhU pPT SM H i_294 (mR pm_93) cu n u = true
theorem q_294_0 : pQ_294 u_294_0 := ⟨_, _, _, _, (pS_cons ok_157 (pS_nil)), (pV_nil), f_294_0⟩
theorem q_294_1 : pQ_294 u_294_1 := ⟨_, _, _, _, (pS_cons ok_159 (pS_nil)), (pV_nil), f_294_1⟩
theorem q_294_2 : pQ_294 u_294_2 := ⟨_, _, _, _, (pS_nil), (pV_cons (List.mem_of_getElem? (i := 3) rfl) (pV_nil)), f_294_2⟩
theorem q_294_3 : pQ_294 u_294_3 := ⟨_, _, _, _, (pS_cons ok_157 (pS_cons ok_293 (pS_nil))), (pV_nil), f_294_3⟩
theorem qb_294_0 : ∀ u ∈ [u_294_0, u_294_1, u_294_2, u_294_3], pQ_294 u := pU_cons q_294_0 (pU_cons q_294_1 (pU_cons q_294_2 (pU_cons q_294_3 (pU_nil))))
theorem ok_294 : sInOk pPT i_294 := sInst3 (M := pm_93) (cus := us_294) pOk pg_93 (by decide +kernel) ⟨_, _, _, _, (pS_cons ok_120 (pS_cons ok_121 (pS_cons ok_122 (pS_cons ok_123 (pS_cons ok_124 (pS_cons ok_285 (pS_cons ok_286 (pS_cons ok_287 (pS_cons ok_288 (pS_cons ok_289 (pS_cons ok_290 (pS_cons ok_291 (pS_cons ok_292 (pS_nil)))))))))))))), (pV_cons (List.mem_of_getElem? (i := 0) rfl) (pV_cons (List.mem_of_getElem? (i := 1) rfl) (pV_cons (List.mem_of_getElem? (i := 2) rfl) (pV_nil)))), e_294⟩ (show ∀ u ∈ us_294, pQ_294 u from qb_294_0)
def pQ_295 (u : sCu) : Prop := ∃ (SM : List sIn) (H : gHt) (cu : List sCu) (n : Nat), (∀ I ∈ SM, sInOk pPT I) ∧ (∀ v ∈ cu, v ∈ us_295) ∧ sWhU pPT SM H i_295 (mR pm_85) cu n u = true
theorem q_295_0 : pQ_295 u_295_0 := ⟨_, _, _, _, (pS_nil), (pV_nil), f_295_0⟩
theorem q_295_1 : pQ_295 u_295_1 := ⟨_, _, _, _, (pS_nil), (pV_cons (List.mem_of_getElem? (i := 3) rfl) (pV_nil)), f_295_1⟩
theorem q_295_2 : pQ_295 u_295_2 := ⟨_, _, _, _, (pS_nil), (pV_nil), f_295_2⟩
theorem q_295_3 : pQ_295 u_295_3 := ⟨_, _, _, _, (pS_nil), (pV_cons (List.mem_of_getElem? (i := 4) rfl) (pV_nil)), f_295_3⟩
theorem q_295_4 : pQ_295 u_295_4 := ⟨_, _, _, _, (pS_nil), (pV_cons (List.mem_of_getElem? (i := 5) rfl) (pV_nil)), f_295_4⟩
theorem q_295_5 : pQ_295 u_295_5 := ⟨_, _, _, _, (pS_nil), (pV_cons (List.mem_of_getElem? (i := 6) rfl) (pV_nil)), f_295_5⟩
theorem q_295_6 : pQ_295 u_295_6 := ⟨_, _, _, _, (pS_nil), (pV_cons (List.mem_of_getElem? (i := 7) rfl) (pV_nil)), f_295_6⟩
theorem q_295_7 : pQ_295 u_295_7 := ⟨_, _, _, _, (pS_nil), (pV_cons (List.mem_of_getElem? (i := 8) rfl) (pV_nil)), f_295_7⟩
theorem q_295_8 : pQ_295 u_295_8 := ⟨_, _, _, _, (pS_nil), (pV_cons (List.mem_of_getElem? (i := 9) rfl) (pV_nil)), f_295_8⟩
theorem q_295_9 : pQ_295 u_295_9 := ⟨_, _, _, _, (pS_nil), (pV_cons (List.mem_of_getElem? (i := 10) rfl) (pV_nil)), f_295_9⟩
theorem q_295_10 : pQ_295 u_295_10 := ⟨_, _, _, _, (pS_cons ok_114 (pS_nil)), (pV_cons (List.mem_of_getElem? (i := 11) rfl) (pV_nil)), f_295_10⟩
theorem q_295_11 : pQ_295 u_295_11 := ⟨_, _, _, _, (pS_cons ok_271 (pS_nil)), (pV_cons (List.mem_of_getElem? (i := 12) rfl) (pV_cons (List.mem_of_getElem? (i := 13) rfl) (pV_cons (List.mem_of_getElem? (i := 11) rfl) (pV_cons (List.mem_of_getElem? (i := 14) rfl) (pV_cons (List.mem_of_getElem? (i := 15) rfl) (pV_nil)))))), f_295_11⟩
theorem q_295_12 : pQ_295 u_295_12 := ⟨_, _, _, _, (pS_cons ok_284 (pS_nil)), (pV_nil), f_295_12⟩
theorem q_295_13 : pQ_295 u_295_13 := ⟨_, _, _, _, (pS_nil), (pV_cons (List.mem_of_getElem? (i := 16) rfl) (pV_nil)), f_295_13⟩
theorem q_295_14 : pQ_295 u_295_14 := ⟨_, _, _, _, (pS_nil), (pV_cons (List.mem_of_getElem? (i := 17) rfl) (pV_nil)), f_295_14⟩
theorem q_295_15 : pQ_295 u_295_15 := ⟨_, _, _, _, (pS_cons ok_294 (pS_nil)), (pV_cons (List.mem_of_getElem? (i := 18) rfl) (pV_cons (List.mem_of_getElem? (i := 14) rfl) (pV_cons (List.mem_of_getElem? (i := 15) rfl) (pV_nil)))), f_295_15⟩
theorem q_295_16 : pQ_295 u_295_16 := ⟨_, _, _, _, (pS_nil), (pV_nil), f_295_16⟩
theorem q_295_17 : pQ_295 u_295_17 := ⟨_, _, _, _, (pS_nil), (pV_nil), f_295_17⟩
theorem q_295_18 : pQ_295 u_295_18 := ⟨_, _, _, _, (pS_cons ok_284 (pS_nil)), (pV_nil), f_295_18⟩
theorem qb_295_0 : ∀ u ∈ [u_295_0, u_295_1, u_295_2, u_295_3, u_295_4, u_295_5, u_295_6, u_295_7, u_295_8, u_295_9], pQ_295 u := pU_cons q_295_0 (pU_cons q_295_1 (pU_cons q_295_2 (pU_cons q_295_3 (pU_cons q_295_4 (pU_cons q_295_5 (pU_cons q_295_6 (pU_cons q_295_7 (pU_cons q_295_8 (pU_cons q_295_9 (pU_nil))))))))))
theorem qb_295_1 : ∀ u ∈ [u_295_10, u_295_11, u_295_12, u_295_13, u_295_14, u_295_15, u_295_16, u_295_17, u_295_18], pQ_295 u := pU_cons q_295_10 (pU_cons q_295_11 (pU_cons q_295_12 (pU_cons q_295_13 (pU_cons q_295_14 (pU_cons q_295_15 (pU_cons q_295_16 (pU_cons q_295_17 (pU_cons q_295_18 (pU_nil)))))))))
theorem ok_295 : sInOk pPT i_295 := sInst3 (M := pm_85) (cus := us_295) pOk pg_85 (by decide +kernel) ⟨_, _, _, _, (pS_nil), (pV_cons (List.mem_of_getElem? (i := 0) rfl) (pV_cons (List.mem_of_getElem? (i := 1) rfl) (pV_cons (List.mem_of_getElem? (i := 2) rfl) (pV_nil)))), e_295⟩ (show ∀ u ∈ us_295, pQ_295 u from (pU_app qb_295_0 qb_295_1))
def pQ_296 (u : sCu) : Prop := ∃ (SM : List sIn) (H : gHt) (cu : List sCu) (n : Nat), (∀ I ∈ SM, sInOk pPT I) ∧ (∀ v ∈ cu, v ∈ us_296) ∧ sWhU pPT SM H i_296 (mR pm_85) cu n u = true
theorem q_296_0 : pQ_296 u_296_0 := ⟨_, _, _, _, (pS_nil), (pV_nil), f_296_0⟩
theorem q_296_1 : pQ_296 u_296_1 := ⟨_, _, _, _, (pS_nil), (pV_cons (List.mem_of_getElem? (i := 3) rfl) (pV_nil)), f_296_1⟩
theorem q_296_2 : pQ_296 u_296_2 := ⟨_, _, _, _, (pS_nil), (pV_nil), f_296_2⟩
theorem q_296_3 : pQ_296 u_296_3 := ⟨_, _, _, _, (pS_nil), (pV_cons (List.mem_of_getElem? (i := 4) rfl) (pV_nil)), f_296_3⟩
theorem q_296_4 : pQ_296 u_296_4 := ⟨_, _, _, _, (pS_nil), (pV_cons (List.mem_of_getElem? (i := 5) rfl) (pV_nil)), f_296_4⟩
theorem q_296_5 : pQ_296 u_296_5 := ⟨_, _, _, _, (pS_nil), (pV_cons (List.mem_of_getElem? (i := 6) rfl) (pV_nil)), f_296_5⟩
theorem q_296_6 : pQ_296 u_296_6 := ⟨_, _, _, _, (pS_nil), (pV_cons (List.mem_of_getElem? (i := 7) rfl) (pV_nil)), f_296_6⟩
theorem q_296_7 : pQ_296 u_296_7 := ⟨_, _, _, _, (pS_nil), (pV_cons (List.mem_of_getElem? (i := 8) rfl) (pV_nil)), f_296_7⟩
theorem q_296_8 : pQ_296 u_296_8 := ⟨_, _, _, _, (pS_nil), (pV_cons (List.mem_of_getElem? (i := 9) rfl) (pV_nil)), f_296_8⟩
theorem q_296_9 : pQ_296 u_296_9 := ⟨_, _, _, _, (pS_nil), (pV_cons (List.mem_of_getElem? (i := 10) rfl) (pV_nil)), f_296_9⟩
theorem q_296_10 : pQ_296 u_296_10 := ⟨_, _, _, _, (pS_cons ok_114 (pS_nil)), (pV_cons (List.mem_of_getElem? (i := 11) rfl) (pV_nil)), f_296_10⟩
theorem q_296_11 : pQ_296 u_296_11 := ⟨_, _, _, _, (pS_cons ok_271 (pS_nil)), (pV_cons (List.mem_of_getElem? (i := 12) rfl) (pV_cons (List.mem_of_getElem? (i := 13) rfl) (pV_cons (List.mem_of_getElem? (i := 11) rfl) (pV_cons (List.mem_of_getElem? (i := 14) rfl) (pV_cons (List.mem_of_getElem? (i := 15) rfl) (pV_nil)))))), f_296_11⟩
theorem q_296_12 : pQ_296 u_296_12 := ⟨_, _, _, _, (pS_cons ok_284 (pS_nil)), (pV_nil), f_296_12⟩
theorem q_296_13 : pQ_296 u_296_13 := ⟨_, _, _, _, (pS_nil), (pV_cons (List.mem_of_getElem? (i := 16) rfl) (pV_nil)), f_296_13⟩
theorem q_296_14 : pQ_296 u_296_14 := ⟨_, _, _, _, (pS_nil), (pV_cons (List.mem_of_getElem? (i := 17) rfl) (pV_nil)), f_296_14⟩
theorem q_296_15 : pQ_296 u_296_15 := ⟨_, _, _, _, (pS_cons ok_294 (pS_nil)), (pV_cons (List.mem_of_getElem? (i := 18) rfl) (pV_cons (List.mem_of_getElem? (i := 14) rfl) (pV_cons (List.mem_of_getElem? (i := 15) rfl) (pV_nil)))), f_296_15⟩
theorem q_296_16 : pQ_296 u_296_16 := ⟨_, _, _, _, (pS_nil), (pV_nil), f_296_16⟩
theorem q_296_17 : pQ_296 u_296_17 := ⟨_, _, _, _, (pS_nil), (pV_nil), f_296_17⟩
theorem q_296_18 : pQ_296 u_296_18 := ⟨_, _, _, _, (pS_cons ok_284 (pS_nil)), (pV_nil), f_296_18⟩
theorem qb_296_0 : ∀ u ∈ [u_296_0, u_296_1, u_296_2, u_296_3, u_296_4, u_296_5, u_296_6, u_296_7, u_296_8, u_296_9], pQ_296 u := pU_cons q_296_0 (pU_cons q_296_1 (pU_cons q_296_2 (pU_cons q_296_3 (pU_cons q_296_4 (pU_cons q_296_5 (pU_cons q_296_6 (pU_cons q_296_7 (pU_cons q_296_8 (pU_cons q_296_9 (pU_nil))))))))))
theorem qb_296_1 : ∀ u ∈ [u_296_10, u_296_11, u_296_12, u_296_13, u_296_14, u_296_15, u_296_16, u_296_17, u_296_18], pQ_296 u := pU_cons q_296_10 (pU_cons q_296_11 (pU_cons q_296_12 (pU_cons q_296_13 (pU_cons q_296_14 (pU_cons q_296_15 (pU_cons q_296_16 (pU_cons q_296_17 (pU_cons q_296_18 (pU_nil)))))))))
theorem ok_296 : sInOk pPT i_296 := sInst3 (M := pm_85) (cus := us_296) pOk pg_85 (by decide +kernel) ⟨_, _, _, _, (pS_nil), (pV_cons (List.mem_of_getElem? (i := 0) rfl) (pV_cons (List.mem_of_getElem? (i := 1) rfl) (pV_cons (List.mem_of_getElem? (i := 2) rfl) (pV_nil)))), e_296⟩ (show ∀ u ∈ us_296, pQ_296 u from (pU_app qb_296_0 qb_296_1))
def pQ_297 (u : sCu) : Prop := ∃ (SM : List sIn) (H : gHt) (cu : List sCu) (n : Nat), (∀ I ∈ SM, sInOk pPT I) ∧ (∀ v ∈ cu, v ∈ us_297) ∧ sWhU pPT SM H i_297 (mR pm_141) cu n u = true
theorem q_297_0 : pQ_297 u_297_0 := ⟨_, _, _, _, (pS_nil), (pV_cons (List.mem_of_getElem? (i := 1) rfl) (pV_cons (List.mem_of_getElem? (i := 2) rfl) (pV_nil))), f_297_0⟩
theorem q_297_1 : pQ_297 u_297_1 := ⟨_, _, _, _, (pS_nil), (pV_cons (List.mem_of_getElem? (i := 0) rfl) (pV_nil)), f_297_1⟩
theorem q_297_2 : pQ_297 u_297_2 := ⟨_, _, _, _, (pS_nil), (pV_cons (List.mem_of_getElem? (i := 1) rfl) (pV_nil)), f_297_2⟩
theorem qb_297_0 : ∀ u ∈ [u_297_0, u_297_1, u_297_2], pQ_297 u := pU_cons q_297_0 (pU_cons q_297_1 (pU_cons q_297_2 (pU_nil)))
theorem ok_297 : sInOk pPT i_297 := sInst3 (M := pm_141) (cus := us_297) pOk pg_141 (by decide +kernel) ⟨_, _, _, _, (pS_nil), (pV_cons (List.mem_of_getElem? (i := 0) rfl) (pV_nil)), e_297⟩ (show ∀ u ∈ us_297, pQ_297 u from qb_297_0)
def pQ_298 (u : sCu) : Prop := ∃ (SM : List sIn) (H : gHt) (cu : List sCu) (n : Nat), (∀ I ∈ SM, sInOk pPT I) ∧ (∀ v ∈ cu, v ∈ us_298) ∧ sWhU pPT SM H i_298 (mR pm_140) cu n u = true
theorem q_298_0 : pQ_298 u_298_0 := ⟨_, _, _, _, (pS_cons ok_297 (pS_nil)), (pV_cons (List.mem_of_getElem? (i := 1) rfl) (pV_nil)), f_298_0⟩
theorem q_298_1 : pQ_298 u_298_1 := ⟨_, _, _, _, (pS_nil), (pV_cons (List.mem_of_getElem? (i := 0) rfl) (pV_nil)), f_298_1⟩
theorem qb_298_0 : ∀ u ∈ [u_298_0, u_298_1], pQ_298 u := pU_cons q_298_0 (pU_cons q_298_1 (pU_nil))
theorem ok_298 : sInOk pPT i_298 := sInst3 (M := pm_140) (cus := us_298) pOk pg_140 (by decide +kernel) ⟨_, _, _, _, (pS_nil), (pV_cons (List.mem_of_getElem? (i := 0) rfl) (pV_nil)), e_298⟩ (show ∀ u ∈ us_298, pQ_298 u from qb_298_0)
def pQ_299 (u : sCu) : Prop := ∃ (SM : List sIn) (H : gHt) (cu : List sCu) (n : Nat), (∀ I ∈ SM, sInOk pPT I) ∧ (∀ v ∈ cu, v ∈ us_299) ∧ sWhU pPT SM H i_299 (mR pm_159) cu n u = true
theorem q_299_0 : pQ_299 u_299_0 := ⟨_, _, _, _, (pS_nil), (pV_cons (List.mem_of_getElem? (i := 1) rfl) (pV_nil)), f_299_0⟩
theorem q_299_1 : pQ_299 u_299_1 := ⟨_, _, _, _, (pS_nil), (pV_cons (List.mem_of_getElem? (i := 0) rfl) (pV_nil)), f_299_1⟩
theorem qb_299_0 : ∀ u ∈ [u_299_0, u_299_1], pQ_299 u := pU_cons q_299_0 (pU_cons q_299_1 (pU_nil))
theorem ok_299 : sInOk pPT i_299 := sInst3 (M := pm_159) (cus := us_299) pOk pg_159 (by decide +kernel) ⟨_, _, _, _, (pS_nil), (pV_cons (List.mem_of_getElem? (i := 0) rfl) (pV_nil)), e_299⟩ (show ∀ u ∈ us_299, pQ_299 u from qb_299_0)
theorem ok_300 : sInOk pPT i_300 := sInst3 (M := pm_142) (cus := []) pOk pg_142 (by decide +kernel) ⟨_, _, _, _, (pS_cons ok_298 (pS_cons ok_299 (pS_nil))), pV_nil, e_300⟩ pU_nil
def pQ_301 (u : sCu) : Prop := ∃ (SM : List sIn) (H : gHt) (cu : List sCu) (n : Nat), (∀ I ∈ SM, sInOk pPT I) ∧ (∀ v ∈ cu, v ∈ us_301) ∧ sWhU pPT SM H i_301 (mR pm_137) cu n u = true
theorem q_301_0 : pQ_301 u_301_0 := ⟨_, _, _, _, (pS_nil), (pV_cons (List.mem_of_getElem? (i := 1) rfl) (pV_nil)), f_301_0⟩
theorem q_301_1 : pQ_301 u_301_1 := ⟨_, _, _, _, (pS_nil), (pV_cons (List.mem_of_getElem? (i := 0) rfl) (pV_nil)), f_301_1⟩
theorem qb_301_0 : ∀ u ∈ [u_301_0, u_301_1], pQ_301 u := pU_cons q_301_0 (pU_cons q_301_1 (pU_nil))
theorem ok_301 : sInOk pPT i_301 := sInst3 (M := pm_137) (cus := us_301) pOk pg_137 (by decide +kernel) ⟨_, _, _, _, (pS_nil), (pV_cons (List.mem_of_getElem? (i := 0) rfl) (pV_nil)), e_301⟩ (show ∀ u ∈ us_301, pQ_301 u from qb_301_0)
def pQ_302 (u : sCu) : Prop := ∃ (SM : List sIn) (H : gHt) (cu : List sCu) (n : Nat), (∀ I ∈ SM, sInOk pPT I) ∧ (∀ v ∈ cu, v ∈ us_302) ∧ sWhU pPT SM H i_302 (mR pm_131) cu n u = true
theorem q_302_0 : pQ_302 u_302_0 := ⟨_, _, _, _, (pS_cons ok_301 (pS_nil)), (pV_cons (List.mem_of_getElem? (i := 0) rfl) (pV_nil)), f_302_0⟩
theorem qb_302_0 : ∀ u ∈ [u_302_0], pQ_302 u := pU_cons q_302_0 (pU_nil)
theorem ok_302 : sInOk pPT i_302 := sInst3 (M := pm_131) (cus := us_302) pOk pg_131 (by decide +kernel) ⟨_, _, _, _, (pS_nil), (pV_cons (List.mem_of_getElem? (i := 0) rfl) (pV_nil)), e_302⟩ (show ∀ u ∈ us_302, pQ_302 u from qb_302_0)
theorem ok_303 : sInOk pPT i_303 := sInst3 (M := pm_236) (cus := []) pOk pg_236 (by decide +kernel) ⟨_, _, _, _, (pS_cons ok_298 (pS_cons ok_300 (pS_cons ok_302 (pS_nil)))), pV_nil, e_303⟩ pU_nil
theorem ok_304 : sInOk pPT i_304 := sInst3 (M := pm_4) (cus := []) pOk pg_4 (by decide +kernel) ⟨_, _, _, _, (pS_cons ok_303 (pS_nil)), pV_nil, e_304⟩ pU_nil
def pQ_305 (u : sCu) : Prop := ∃ (SM : List sIn) (H : gHt) (cu : List sCu) (n : Nat), (∀ I ∈ SM, sInOk pPT I) ∧ (∀ v ∈ cu, v ∈ us_305) ∧ sWhU pPT SM H i_305 (mR pm_115) cu n u = true
theorem q_305_0 : pQ_305 u_305_0 := ⟨_, _, _, _, (pS_nil), (pV_cons (List.mem_of_getElem? (i := 1) rfl) (pV_cons (List.mem_of_getElem? (i := 0) rfl) (pV_nil))), f_305_0⟩
theorem q_305_1 : pQ_305 u_305_1 := ⟨_, _, _, _, (pS_nil), (pV_cons (List.mem_of_getElem? (i := 2) rfl) (pV_nil)), f_305_1⟩
theorem q_305_2 : pQ_305 u_305_2 := ⟨_, _, _, _, (pS_nil), (pV_cons (List.mem_of_getElem? (i := 1) rfl) (pV_nil)), f_305_2⟩
theorem qb_305_0 : ∀ u ∈ [u_305_0, u_305_1, u_305_2], pQ_305 u := pU_cons q_305_0 (pU_cons q_305_1 (pU_cons q_305_2 (pU_nil)))
theorem ok_305 : sInOk pPT i_305 := sInst3 (M := pm_115) (cus := us_305) pOk pg_115 (by decide +kernel) ⟨_, _, _, _, (pS_nil), (pV_cons (List.mem_of_getElem? (i := 0) rfl) (pV_nil)), e_305⟩ (show ∀ u ∈ us_305, pQ_305 u from qb_305_0)
def pQ_306 (u : sCu) : Prop := ∃ (SM : List sIn) (H : gHt) (cu : List sCu) (n : Nat), (∀ I ∈ SM, sInOk pPT I) ∧ (∀ v ∈ cu, v ∈ us_306) ∧ sWhU pPT SM H i_306 (mR pm_122) cu n u = true
theorem q_306_0 : pQ_306 u_306_0 := ⟨_, _, _, _, (pS_nil), (pV_cons (List.mem_of_getElem? (i := 2) rfl) (pV_cons (List.mem_of_getElem? (i := 3) rfl) (pV_cons (List.mem_of_getElem? (i := 1) rfl) (pV_nil)))), f_306_0⟩
theorem q_306_1 : pQ_306 u_306_1 := ⟨_, _, _, _, (pS_nil), (pV_cons (List.mem_of_getElem? (i := 2) rfl) (pV_nil)), f_306_1⟩
theorem q_306_2 : pQ_306 u_306_2 := ⟨_, _, _, _, (pS_nil), (pV_cons (List.mem_of_getElem? (i := 0) rfl) (pV_nil)), f_306_2⟩
theorem q_306_3 : pQ_306 u_306_3 := ⟨_, _, _, _, (pS_nil), (pV_cons (List.mem_of_getElem? (i := 2) rfl) (pV_nil)), f_306_3⟩
theorem qb_306_0 : ∀ u ∈ [u_306_0, u_306_1, u_306_2, u_306_3], pQ_306 u := pU_cons q_306_0 (pU_cons q_306_1 (pU_cons q_306_2 (pU_cons q_306_3 (pU_nil))))
theorem ok_306 : sInOk pPT i_306 := sInst3 (M := pm_122) (cus := us_306) pOk pg_122 (by decide +kernel) ⟨_, _, _, _, (pS_nil), (pV_cons (List.mem_of_getElem? (i := 0) rfl) (pV_nil)), e_306⟩ (show ∀ u ∈ us_306, pQ_306 u from qb_306_0)
def pQ_307 (u : sCu) : Prop := ∃ (SM : List sIn) (H : gHt) (cu : List sCu) (n : Nat), (∀ I ∈ SM, sInOk pPT I) ∧ (∀ v ∈ cu, v ∈ us_307) ∧ sWhU pPT SM H i_307 (mR pm_117) cu n u = true
theorem q_307_0 : pQ_307 u_307_0 := ⟨_, _, _, _, (pS_nil), (pV_cons (List.mem_of_getElem? (i := 1) rfl) (pV_cons (List.mem_of_getElem? (i := 2) rfl) (pV_nil))), f_307_0⟩
theorem q_307_1 : pQ_307 u_307_1 := ⟨_, _, _, _, (pS_nil), (pV_cons (List.mem_of_getElem? (i := 2) rfl) (pV_nil)), f_307_1⟩
theorem q_307_2 : pQ_307 u_307_2 := ⟨_, _, _, _, (pS_nil), (pV_cons (List.mem_of_getElem? (i := 3) rfl) (pV_nil)), f_307_2⟩
theorem q_307_3 : pQ_307 u_307_3 := ⟨_, _, _, _, (pS_nil), (pV_cons (List.mem_of_getElem? (i := 4) rfl) (pV_nil)), f_307_3⟩
theorem q_307_4 : pQ_307 u_307_4 := ⟨_, _, _, _, (pS_nil), (pV_cons (List.mem_of_getElem? (i := 5) rfl) (pV_nil)), f_307_4⟩
theorem q_307_5 : pQ_307 u_307_5 := ⟨_, _, _, _, (pS_cons ok_306 (pS_nil)), (pV_nil), f_307_5⟩
theorem qb_307_0 : ∀ u ∈ [u_307_0, u_307_1, u_307_2, u_307_3, u_307_4, u_307_5], pQ_307 u := pU_cons q_307_0 (pU_cons q_307_1 (pU_cons q_307_2 (pU_cons q_307_3 (pU_cons q_307_4 (pU_cons q_307_5 (pU_nil))))))
theorem ok_307 : sInOk pPT i_307 := sInst3 (M := pm_117) (cus := us_307) pOk pg_117 (by decide +kernel) ⟨_, _, _, _, (pS_nil), (pV_cons (List.mem_of_getElem? (i := 0) rfl) (pV_nil)), e_307⟩ (show ∀ u ∈ us_307, pQ_307 u from qb_307_0)
def pQ_308 (u : sCu) : Prop := ∃ (SM : List sIn) (H : gHt) (cu : List sCu) (n : Nat), (∀ I ∈ SM, sInOk pPT I) ∧ (∀ v ∈ cu, v ∈ us_308) ∧ sWhU pPT SM H i_308 (mR pm_55) cu n u = true
theorem q_308_0 : pQ_308 u_308_0 := ⟨_, _, _, _, (pS_nil), (pV_nil), f_308_0⟩
theorem qb_308_0 : ∀ u ∈ [u_308_0], pQ_308 u := pU_cons q_308_0 (pU_nil)
theorem ok_308 : sInOk pPT i_308 := sInst3 (M := pm_55) (cus := us_308) pOk pg_55 (by decide +kernel) ⟨_, _, _, _, (pS_cons ok_307 (pS_nil)), (pV_cons (List.mem_of_getElem? (i := 0) rfl) (pV_nil)), e_308⟩ (show ∀ u ∈ us_308, pQ_308 u from qb_308_0)
def pQ_309 (u : sCu) : Prop := ∃ (SM : List sIn) (H : gHt) (cu : List sCu) (n : Nat), (∀ I ∈ SM, sInOk pPT I) ∧ (∀ v ∈ cu, v ∈ us_309) ∧ sWhU pPT SM H i_309 (mR pm_116) cu n u = true
theorem q_309_0 : pQ_309 u_309_0 := ⟨_, _, _, _, (pS_nil), (pV_cons (List.mem_of_getElem? (i := 1) rfl) (pV_cons (List.mem_of_getElem? (i := 0) rfl) (pV_nil))), f_309_0⟩
theorem q_309_1 : pQ_309 u_309_1 := ⟨_, _, _, _, (pS_nil), (pV_cons (List.mem_of_getElem? (i := 2) rfl) (pV_nil)), f_309_1⟩
theorem q_309_2 : pQ_309 u_309_2 := ⟨_, _, _, _, (pS_nil), (pV_cons (List.mem_of_getElem? (i := 5) rfl) (pV_cons (List.mem_of_getElem? (i := 3) rfl) (pV_cons (List.mem_of_getElem? (i := 4) rfl) (pV_nil)))), f_309_2⟩
theorem q_309_3 : pQ_309 u_309_3 := ⟨_, _, _, _, (pS_nil), (pV_cons (List.mem_of_getElem? (i := 2) rfl) (pV_nil)), f_309_3⟩
theorem q_309_4 : pQ_309 u_309_4 := ⟨_, _, _, _, (pS_nil), (pV_cons (List.mem_of_getElem? (i := 3) rfl) (pV_nil)), f_309_4⟩
theorem q_309_5 : pQ_309 u_309_5 := ⟨_, _, _, _, (pS_cons ok_308 (pS_nil)), (pV_cons (List.mem_of_getElem? (i := 6) rfl) (pV_cons (List.mem_of_getElem? (i := 7) rfl) (pV_nil))), f_309_5⟩
theorem q_309_6 : pQ_309 u_309_6 := ⟨_, _, _, _, (pS_nil), (pV_cons (List.mem_of_getElem? (i := 1) rfl) (pV_nil)), f_309_6⟩
theorem q_309_7 : pQ_309 u_309_7 := ⟨_, _, _, _, (pS_nil), (pV_cons (List.mem_of_getElem? (i := 5) rfl) (pV_nil)), f_309_7⟩
theorem qb_309_0 : ∀ u ∈ [u_309_0, u_309_1, u_309_2, u_309_3, u_309_4, u_309_5, u_309_6, u_309_7], pQ_309 u := pU_cons q_309_0 (pU_cons q_309_1 (pU_cons q_309_2 (pU_cons q_309_3 (pU_cons q_309_4 (pU_cons q_309_5 (pU_cons q_309_6 (pU_cons q_309_7 (pU_nil))))))))
theorem ok_309 : sInOk pPT i_309 := sInst3 (M := pm_116) (cus := us_309) pOk pg_116 (by decide +kernel) ⟨_, _, _, _, (pS_cons ok_305 (pS_nil)), (pV_cons (List.mem_of_getElem? (i := 0) rfl) (pV_nil)), e_309⟩ (show ∀ u ∈ us_309, pQ_309 u from qb_309_0)
def pQ_310 (u : sCu) : Prop := ∃ (SM : List sIn) (H : gHt) (cu : List sCu) (n : Nat), (∀ I ∈ SM, sInOk pPT I) ∧ (∀ v ∈ cu, v ∈ us_310) ∧ sWhU pPT SM H i_310 (mR pm_113) cu n u = true
theorem q_310_0 : pQ_310 u_310_0 := ⟨_, _, _, _, (pS_cons ok_309 (pS_nil)), (pV_cons (List.mem_of_getElem? (i := 1) rfl) (pV_nil)), f_310_0⟩
theorem q_310_1 : pQ_310 u_310_1 := ⟨_, _, _, _, (pS_nil), (pV_cons (List.mem_of_getElem? (i := 0) rfl) (pV_cons (List.mem_of_getElem? (i := 2) rfl) (pV_nil))), f_310_1⟩
theorem q_310_2 : pQ_310 u_310_2 := ⟨_, _, _, _, (pS_nil), (pV_cons (List.mem_of_getElem? (i := 3) rfl) (pV_nil)), f_310_2⟩
theorem q_310_3 : pQ_310 u_310_3 := ⟨_, _, _, _, (pS_nil), (pV_cons (List.mem_of_getElem? (i := 1) rfl) (pV_nil)), f_310_3⟩
theorem qb_310_0 : ∀ u ∈ [u_310_0, u_310_1, u_310_2, u_310_3], pQ_310 u := pU_cons q_310_0 (pU_cons q_310_1 (pU_cons q_310_2 (pU_cons q_310_3 (pU_nil))))
theorem ok_310 : sInOk pPT i_310 := sInst3 (M := pm_113) (cus := us_310) pOk pg_113 (by decide +kernel) ⟨_, _, _, _, (pS_nil), (pV_cons (List.mem_of_getElem? (i := 0) rfl) (pV_nil)), e_310⟩ (show ∀ u ∈ us_310, pQ_310 u from qb_310_0)
def pQ_311 (u : sCu) : Prop := ∃ (SM : List sIn) (H : gHt) (cu : List sCu) (n : Nat), (∀ I ∈ SM, sInOk pPT I) ∧ (∀ v ∈ cu, v ∈ us_311) ∧ sWhU pPT SM H i_311 (mR pm_76) cu n u = true
theorem q_311_0 : pQ_311 u_311_0 := ⟨_, _, _, _, (pS_nil), (pV_cons (List.mem_of_getElem? (i := 1) rfl) (pV_nil)), f_311_0⟩
theorem q_311_1 : pQ_311 u_311_1 := ⟨_, _, _, _, (pS_nil), (pV_cons (List.mem_of_getElem? (i := 0) rfl) (pV_nil)), f_311_1⟩
theorem qb_311_0 : ∀ u ∈ [u_311_0, u_311_1], pQ_311 u := pU_cons q_311_0 (pU_cons q_311_1 (pU_nil))
theorem ok_311 : sInOk pPT i_311 := sInst3 (M := pm_76) (cus := us_311) pOk pg_76 (by decide +kernel) ⟨_, _, _, _, (pS_nil), (pV_cons (List.mem_of_getElem? (i := 0) rfl) (pV_nil)), e_311⟩ (show ∀ u ∈ us_311, pQ_311 u from qb_311_0)
def pQ_312 (u : sCu) : Prop := ∃ (SM : List sIn) (H : gHt) (cu : List sCu) (n : Nat), (∀ I ∈ SM, sInOk pPT I) ∧ (∀ v ∈ cu, v ∈ us_312) ∧ sWhU pPT SM H i_312 (mR pm_77) cu n u = true
theorem q_312_0 : pQ_312 u_312_0 := ⟨_, _, _, _, (pS_nil), (pV_cons (List.mem_of_getElem? (i := 1) rfl) (pV_cons (List.mem_of_getElem? (i := 2) rfl) (pV_nil))), f_312_0⟩
theorem q_312_1 : pQ_312 u_312_1 := ⟨_, _, _, _, (pS_nil), (pV_cons (List.mem_of_getElem? (i := 3) rfl) (pV_nil)), f_312_1⟩
theorem q_312_2 : pQ_312 u_312_2 := ⟨_, _, _, _, (pS_nil), (pV_cons (List.mem_of_getElem? (i := 3) rfl) (pV_nil)), f_312_2⟩
theorem q_312_3 : pQ_312 u_312_3 := ⟨_, _, _, _, (pS_nil), (pV_cons (List.mem_of_getElem? (i := 0) rfl) (pV_nil)), f_312_3⟩
theorem qb_312_0 : ∀ u ∈ [u_312_0, u_312_1, u_312_2, u_312_3], pQ_312 u := pU_cons q_312_0 (pU_cons q_312_1 (pU_cons q_312_2 (pU_cons q_312_3 (pU_nil))))
theorem ok_312 : sInOk pPT i_312 := sInst3 (M := pm_77) (cus := us_312) pOk pg_77 (by decide +kernel) ⟨_, _, _, _, (pS_nil), (pV_cons (List.mem_of_getElem? (i := 0) rfl) (pV_nil)), e_312⟩ (show ∀ u ∈ us_312, pQ_312 u from qb_312_0)
def pQ_313 (u : sCu) : Prop := ∃ (SM : List sIn) (H : gHt) (cu : List sCu) (n : Nat), (∀ I ∈ SM, sInOk pPT I) ∧ (∀ v ∈ cu, v ∈ us_313) ∧ sWhU pPT SM H i_313 (mR pm_38) cu n u = true
theorem q_313_0 : pQ_313 u_313_0 := ⟨_, _, _, _, (pS_nil), (pV_cons (List.mem_of_getElem? (i := 1) rfl) (pV_nil)), f_313_0⟩
theorem q_313_1 : pQ_313 u_313_1 := ⟨_, _, _, _, (pS_nil), (pV_cons (List.mem_of_getElem? (i := 0) rfl) (pV_cons (List.mem_of_getElem? (i := 2) rfl) (pV_nil))), f_313_1⟩
theorem q_313_2 : pQ_313 u_313_2 := ⟨_, _, _, _, (pS_nil), (pV_cons (List.mem_of_getElem? (i := 1) rfl) (pV_nil)), f_313_2⟩
theorem qb_313_0 : ∀ u ∈ [u_313_0, u_313_1, u_313_2], pQ_313 u := pU_cons q_313_0 (pU_cons q_313_1 (pU_cons q_313_2 (pU_nil)))
theorem ok_313 : sInOk pPT i_313 := sInst3 (M := pm_38) (cus := us_313) pOk pg_38 (by decide +kernel) ⟨_, _, _, _, (pS_nil), (pV_cons (List.mem_of_getElem? (i := 0) rfl) (pV_nil)), e_313⟩ (show ∀ u ∈ us_313, pQ_313 u from qb_313_0)
theorem ok_314 : sInOk pPT i_314 := sInst3 (M := pm_37) (cus := []) pOk pg_37 (by decide +kernel) ⟨_, _, _, _, (pS_cons ok_310 (pS_cons ok_311 (pS_cons ok_312 (pS_cons ok_313 (pS_nil))))), pV_nil, e_314⟩ pU_nil
def pQ_315 (u : sCu) : Prop := ∃ (SM : List sIn) (H : gHt) (cu : List sCu) (n : Nat), (∀ I ∈ SM, sInOk pPT I) ∧ (∀ v ∈ cu, v ∈ us_315) ∧ sWhU pPT SM H i_315 (mR pm_135) cu n u = true
theorem q_315_0 : pQ_315 u_315_0 := ⟨_, _, _, _, (pS_nil), (pV_cons (List.mem_of_getElem? (i := 1) rfl) (pV_nil)), f_315_0⟩
theorem q_315_1 : pQ_315 u_315_1 := ⟨_, _, _, _, (pS_nil), (pV_cons (List.mem_of_getElem? (i := 0) rfl) (pV_nil)), f_315_1⟩
theorem qb_315_0 : ∀ u ∈ [u_315_0, u_315_1], pQ_315 u := pU_cons q_315_0 (pU_cons q_315_1 (pU_nil))
theorem ok_315 : sInOk pPT i_315 := sInst3 (M := pm_135) (cus := us_315) pOk pg_135 (by decide +kernel) ⟨_, _, _, _, (pS_nil), (pV_cons (List.mem_of_getElem? (i := 0) rfl) (pV_nil)), e_315⟩ (show ∀ u ∈ us_315, pQ_315 u from qb_315_0)
theorem ok_316 : sInOk pPT i_316 := sInst3 (M := pm_232) (cus := []) pOk pg_232 (by decide +kernel) ⟨_, _, _, _, (pS_cons ok_315 (pS_nil)), pV_nil, e_316⟩ pU_nil
theorem ok_317 : sInOk pPT i_317 := sInst3 (M := pm_1) (cus := []) pOk pg_1 (by decide +kernel) ⟨_, _, _, _, (pS_cons ok_316 (pS_nil)), pV_nil, e_317⟩ pU_nil
def pQ_318 (u : sCu) : Prop := ∃ (SM : List sIn) (H : gHt) (cu : List sCu) (n : Nat), (∀ I ∈ SM, sInOk pPT I) ∧ (∀ v ∈ cu, v ∈ us_318) ∧ sWhU pPT SM H i_318 (mR pm_54) cu n u = true
theorem q_318_0 : pQ_318 u_318_0 := ⟨_, _, _, _, (pS_nil), (pV_cons (List.mem_of_getElem? (i := 1) rfl) (pV_nil)), f_318_0⟩
theorem q_318_1 : pQ_318 u_318_1 := ⟨_, _, _, _, (pS_nil), (pV_cons (List.mem_of_getElem? (i := 0) rfl) (pV_nil)), f_318_1⟩
theorem qb_318_0 : ∀ u ∈ [u_318_0, u_318_1], pQ_318 u := pU_cons q_318_0 (pU_cons q_318_1 (pU_nil))
theorem ok_318 : sInOk pPT i_318 := sInst3 (M := pm_54) (cus := us_318) pOk pg_54 (by decide +kernel) ⟨_, _, _, _, (pS_nil), (pV_cons (List.mem_of_getElem? (i := 0) rfl) (pV_nil)), e_318⟩ (show ∀ u ∈ us_318, pQ_318 u from qb_318_0)
def pQ_319 (u : sCu) : Prop := ∃ (SM : List sIn) (H : gHt) (cu : List sCu) (n : Nat), (∀ I ∈ SM, sInOk pPT I) ∧ (∀ v ∈ cu, v ∈ us_319) ∧ sWhU pPT SM H i_319 (mR pm_28) cu n u = true
theorem q_319_0 : pQ_319 u_319_0 := ⟨_, _, _, _, (pS_nil), (pV_nil), f_319_0⟩
theorem qb_319_0 : ∀ u ∈ [u_319_0], pQ_319 u := pU_cons q_319_0 (pU_nil)
theorem ok_319 : sInOk pPT i_319 := sInst3 (M := pm_28) (cus := us_319) pOk pg_28 (by decide +kernel) ⟨_, _, _, _, (pS_cons ok_310 (pS_cons ok_318 (pS_nil))), (pV_cons (List.mem_of_getElem? (i := 0) rfl) (pV_nil)), e_319⟩ (show ∀ u ∈ us_319, pQ_319 u from qb_319_0)
def pQ_320 (u : sCu) : Prop := ∃ (SM : List sIn) (H : gHt) (cu : List sCu) (n : Nat), (∀ I ∈ SM, sInOk pPT I) ∧ (∀ v ∈ cu, v ∈ us_320) ∧ sWhU pPT SM H i_320 (mR pm_150) cu n u = true
theorem q_320_0 : pQ_320 u_320_0 := ⟨_, _, _, _, (pS_cons ok_107 (pS_nil)), (pV_cons (List.mem_of_getElem? (i := 2) rfl) (pV_nil)), f_320_0⟩
theorem q_320_1 : pQ_320 u_320_1 := ⟨_, _, _, _, (pS_nil), (pV_nil), f_320_1⟩
theorem q_320_2 : pQ_320 u_320_2 := ⟨_, _, _, _, (pS_nil), (pV_cons (List.mem_of_getElem? (i := 0) rfl) (pV_nil)), f_320_2⟩
theorem qb_320_0 : ∀ u ∈ [u_320_0, u_320_1, u_320_2], pQ_320 u := pU_cons q_320_0 (pU_cons q_320_1 (pU_cons q_320_2 (pU_nil)))
theorem ok_320 : sInOk pPT i_320 := sInst3 (M := pm_150) (cus := us_320) pOk pg_150 (by decide +kernel) ⟨_, _, _, _, (pS_nil), (pV_cons (List.mem_of_getElem? (i := 0) rfl) (pV_cons (List.mem_of_getElem? (i := 1) rfl) (pV_nil))), e_320⟩ (show ∀ u ∈ us_320, pQ_320 u from qb_320_0)
theorem ok_321 : sInOk pPT i_321 := sInst3 (M := pm_250) (cus := []) pOk pg_250 (by decide +kernel) ⟨_, _, _, _, (pS_cons ok_320 (pS_nil)), pV_nil, e_321⟩ pU_nil
theorem ok_322 : sInOk pPT i_322 := sInst3 (M := pm_11) (cus := []) pOk pg_11 (by decide +kernel) ⟨_, _, _, _, (pS_cons ok_321 (pS_nil)), pV_nil, e_322⟩ pU_nil
def pQ_323 (u : sCu) : Prop := ∃ (SM : List sIn) (H : gHt) (cu : List sCu) (n : Nat), (∀ I ∈ SM, sInOk pPT I) ∧ (∀ v ∈ cu, v ∈ us_323) ∧ sWhU pPT SM H i_323 (mR pm_118) cu n u = true
theorem q_323_0 : pQ_323 u_323_0 := ⟨_, _, _, _, (pS_cons ok_307 (pS_nil)), (pV_cons (List.mem_of_getElem? (i := 1) rfl) (pV_cons (List.mem_of_getElem? (i := 2) rfl) (pV_cons (List.mem_of_getElem? (i := 3) rfl) (pV_nil)))), f_323_0⟩
theorem q_323_1 : pQ_323 u_323_1 := ⟨_, _, _, _, (pS_nil), (pV_nil), f_323_1⟩
theorem q_323_2 : pQ_323 u_323_2 := ⟨_, _, _, _, (pS_nil), (pV_cons (List.mem_of_getElem? (i := 3) rfl) (pV_nil)), f_323_2⟩
theorem q_323_3 : pQ_323 u_323_3 := ⟨_, _, _, _, (pS_nil), (pV_cons (List.mem_of_getElem? (i := 0) rfl) (pV_nil)), f_323_3⟩
theorem qb_323_0 : ∀ u ∈ [u_323_0, u_323_1, u_323_2, u_323_3], pQ_323 u := pU_cons q_323_0 (pU_cons q_323_1 (pU_cons q_323_2 (pU_cons q_323_3 (pU_nil))))
theorem ok_323 : sInOk pPT i_323 := sInst3 (M := pm_118) (cus := us_323) pOk pg_118 (by decide +kernel) ⟨_, _, _, _, (pS_nil), (pV_cons (List.mem_of_getElem? (i := 0) rfl) (pV_nil)), e_323⟩ (show ∀ u ∈ us_323, pQ_323 u from qb_323_0)
def pQ_324 (u : sCu) : Prop := ∃ (SM : List sIn) (H : gHt) (cu : List sCu) (n : Nat), (∀ I ∈ SM, sInOk pPT I) ∧ (∀ v ∈ cu, v ∈ us_324) ∧ sWhU pPT SM H i_324 (mR pm_78) cu n u = true
theorem q_324_0 : pQ_324 u_324_0 := ⟨_, _, _, _, (pS_nil), (pV_nil), f_324_0⟩
theorem qb_324_0 : ∀ u ∈ [u_324_0], pQ_324 u := pU_cons q_324_0 (pU_nil)
theorem ok_324 : sInOk pPT i_324 := sInst3 (M := pm_78) (cus := us_324) pOk pg_78 (by decide +kernel) ⟨_, _, _, _, (pS_cons ok_310 (pS_cons ok_323 (pS_nil))), (pV_cons (List.mem_of_getElem? (i := 0) rfl) (pV_nil)), e_324⟩ (show ∀ u ∈ us_324, pQ_324 u from qb_324_0)
theorem ok_325 : sInOk pPT i_325 := sInst3 (M := pm_139) (cus := []) pOk pg_139 (by decide +kernel) ⟨_, _, _, _, (pS_cons ok_297 (pS_nil)), pV_nil, e_325⟩ pU_nil
theorem ok_326 : sInOk pPT i_326 := sInst3 (M := pm_262) (cus := []) pOk pg_262 (by decide +kernel) ⟨_, _, _, _, (pS_cons ok_297 (pS_cons ok_301 (pS_cons ok_325 (pS_nil)))), pV_nil, e_326⟩ pU_nil
theorem ok_327 : sInOk pPT i_327 := sInst3 (M := pm_17) (cus := []) pOk pg_17 (by decide +kernel) ⟨_, _, _, _, (pS_cons ok_326 (pS_nil)), pV_nil, e_327⟩ pU_nil
def pQ_328 (u : sCu) : Prop := ∃ (SM : List sIn) (H : gHt) (cu : List sCu) (n : Nat), (∀ I ∈ SM, sInOk pPT I) ∧ (∀ v ∈ cu, v ∈ us_328) ∧ sWhU pPT SM H i_328 (mR pm_107) cu n u = true
theorem q_328_0 : pQ_328 u_328_0 := ⟨_, _, _, _, (pS_nil), (pV_nil), f_328_0⟩
theorem q_328_1 : pQ_328 u_328_1 := ⟨_, _, _, _, (pS_nil), (pV_cons (List.mem_of_getElem? (i := 2) rfl) (pV_nil)), f_328_1⟩
theorem q_328_2 : pQ_328 u_328_2 := ⟨_, _, _, _, (pS_nil), (pV_cons (List.mem_of_getElem? (i := 1) rfl) (pV_nil)), f_328_2⟩
theorem qb_328_0 : ∀ u ∈ [u_328_0, u_328_1, u_328_2], pQ_328 u := pU_cons q_328_0 (pU_cons q_328_1 (pU_cons q_328_2 (pU_nil)))
theorem ok_328 : sInOk pPT i_328 := sInst3 (M := pm_107) (cus := us_328) pOk pg_107 (by decide +kernel) ⟨_, _, _, _, (pS_cons ok_310 (pS_nil)), (pV_cons (List.mem_of_getElem? (i := 0) rfl) (pV_cons (List.mem_of_getElem? (i := 1) rfl) (pV_nil))), e_328⟩ (show ∀ u ∈ us_328, pQ_328 u from qb_328_0)
def pQ_329 (u : sCu) : Prop := ∃ (SM : List sIn) (H : gHt) (cu : List sCu) (n : Nat), (∀ I ∈ SM, sInOk pPT I) ∧ (∀ v ∈ cu, v ∈ us_329) ∧ sWhU pPT SM H i_329 (mR pm_130) cu n u = true
theorem q_329_0 : pQ_329 u_329_0 := ⟨_, _, _, _, (pS_nil), (pV_cons (List.mem_of_getElem? (i := 1) rfl) (pV_cons (List.mem_of_getElem? (i := 0) rfl) (pV_nil))), f_329_0⟩
theorem q_329_1 : pQ_329 u_329_1 := ⟨_, _, _, _, (pS_nil), (pV_nil), f_329_1⟩
theorem qb_329_0 : ∀ u ∈ [u_329_0, u_329_1], pQ_329 u := pU_cons q_329_0 (pU_cons q_329_1 (pU_nil))
theorem ok_329 : sInOk pPT i_329 := sInst3 (M := pm_130) (cus := us_329) pOk pg_130 (by decide +kernel) ⟨_, _, _, _, (pS_nil), (pV_cons (List.mem_of_getElem? (i := 0) rfl) (pV_nil)), e_329⟩ (show ∀ u ∈ us_329, pQ_329 u from qb_329_0)
theorem ok_330 : sInOk pPT i_330 := sInst3 (M := pm_249) (cus := []) pOk pg_249 (by decide +kernel) ⟨_, _, _, _, (pS_cons ok_329 (pS_nil)), pV_nil, e_330⟩ pU_nil
theorem ok_331 : sInOk pPT i_331 := sInst3 (M := pm_10) (cus := []) pOk pg_10 (by decide +kernel) ⟨_, _, _, _, (pS_cons ok_330 (pS_nil)), pV_nil, e_331⟩ pU_nil
def pQ_332 (u : sCu) : Prop := ∃ (SM : List sIn) (H : gHt) (cu : List sCu) (n : Nat), (∀ I ∈ SM, sInOk pPT I) ∧ (∀ v ∈ cu, v ∈ us_332) ∧ sWhU pPT SM H i_332 (mR pm_114) cu n u = true
theorem q_332_0 : pQ_332 u_332_0 := ⟨_, _, _, _, (pS_nil), (pV_cons (List.mem_of_getElem? (i := 1) rfl) (pV_cons (List.mem_of_getElem? (i := 0) rfl) (pV_nil))), f_332_0⟩
theorem q_332_1 : pQ_332 u_332_1 := ⟨_, _, _, _, (pS_nil), (pV_nil), f_332_1⟩
theorem qb_332_0 : ∀ u ∈ [u_332_0, u_332_1], pQ_332 u := pU_cons q_332_0 (pU_cons q_332_1 (pU_nil))
theorem ok_332 : sInOk pPT i_332 := sInst3 (M := pm_114) (cus := us_332) pOk pg_114 (by decide +kernel) ⟨_, _, _, _, (pS_nil), (pV_cons (List.mem_of_getElem? (i := 0) rfl) (pV_nil)), e_332⟩ (show ∀ u ∈ us_332, pQ_332 u from qb_332_0)
def pQ_333 (u : sCu) : Prop := ∃ (SM : List sIn) (H : gHt) (cu : List sCu) (n : Nat), (∀ I ∈ SM, sInOk pPT I) ∧ (∀ v ∈ cu, v ∈ us_333) ∧ sWhU pPT SM H i_333 (mR pm_74) cu n u = true
theorem q_333_0 : pQ_333 u_333_0 := ⟨_, _, _, _, (pS_nil), (pV_nil), f_333_0⟩
theorem qb_333_0 : ∀ u ∈ [u_333_0], pQ_333 u := pU_cons q_333_0 (pU_nil)
theorem ok_333 : sInOk pPT i_333 := sInst3 (M := pm_74) (cus := us_333) pOk pg_74 (by decide +kernel) ⟨_, _, _, _, (pS_cons ok_310 (pS_cons ok_332 (pS_nil))), (pV_cons (List.mem_of_getElem? (i := 0) rfl) (pV_nil)), e_333⟩ (show ∀ u ∈ us_333, pQ_333 u from qb_333_0)
def pQ_334 (u : sCu) : Prop := ∃ (SM : List sIn) (H : gHt) (cu : List sCu) (n : Nat), (∀ I ∈ SM, sInOk pPT I) ∧ (∀ v ∈ cu, v ∈ us_334) ∧ sWhU pPT SM H i_334 (mR pm_146) cu n u = true
theorem q_334_0 : pQ_334 u_334_0 := ⟨_, _, _, _, (pS_nil), (pV_cons (List.mem_of_getElem? (i := 0) rfl) (pV_nil)), f_334_0⟩
theorem qb_334_0 : ∀ u ∈ [u_334_0], pQ_334 u := pU_cons q_334_0 (pU_nil)
theorem ok_334 : sInOk pPT i_334 := sInst3 (M := pm_146) (cus := us_334) pOk pg_146 (by decide +kernel) ⟨_, _, _, _, (pS_nil), (pV_cons (List.mem_of_getElem? (i := 0) rfl) (pV_nil)), e_334⟩ (show ∀ u ∈ us_334, pQ_334 u from qb_334_0)
theorem ok_335 : sInOk pPT i_335 := sInst3 (M := pm_234) (cus := []) pOk pg_234 (by decide +kernel) ⟨_, _, _, _, (pS_cons ok_329 (pS_cons ok_334 (pS_nil))), pV_nil, e_335⟩ pU_nil
theorem ok_336 : sInOk pPT i_336 := sInst3 (M := pm_3) (cus := []) pOk pg_3 (by decide +kernel) ⟨_, _, _, _, (pS_cons ok_335 (pS_nil)), pV_nil, e_336⟩ pU_nil
def pQ_337 (u : sCu) : Prop := ∃ (SM : List sIn) (H : gHt) (cu : List sCu) (n : Nat), (∀ I ∈ SM, sInOk pPT I) ∧ (∀ v ∈ cu, v ∈ us_337) ∧ sWhU pPT SM H i_337 (mR pm_36) cu n u = true
theorem q_337_0 : pQ_337 u_337_0 := ⟨_, _, _, _, (pS_nil), (pV_nil), f_337_0⟩
theorem qb_337_0 : ∀ u ∈ [u_337_0], pQ_337 u := pU_cons q_337_0 (pU_nil)
theorem ok_337 : sInOk pPT i_337 := sInst3 (M := pm_36) (cus := us_337) pOk pg_36 (by decide +kernel) ⟨_, _, _, _, (pS_cons ok_310 (pS_cons ok_332 (pS_nil))), (pV_cons (List.mem_of_getElem? (i := 0) rfl) (pV_nil)), e_337⟩ (show ∀ u ∈ us_337, pQ_337 u from qb_337_0)
def pQ_338 (u : sCu) : Prop := ∃ (SM : List sIn) (H : gHt) (cu : List sCu) (n : Nat), (∀ I ∈ SM, sInOk pPT I) ∧ (∀ v ∈ cu, v ∈ us_338) ∧ sWhU pPT SM H i_338 (mR pm_248) cu n u = true
theorem q_338_0 : pQ_338 u_338_0 := ⟨_, _, _, _, (pS_nil), (pV_cons (List.mem_of_getElem? (i := 1) rfl) (pV_nil)), f_338_0⟩
theorem q_338_1 : pQ_338 u_338_1 := ⟨_, _, _, _, (pS_cons ok_299 (pS_cons ok_315 (pS_nil))), (pV_cons (List.mem_of_getElem? (i := 2) rfl) (pV_nil)), f_338_1⟩
theorem q_338_2 : pQ_338 u_338_2 := ⟨_, _, _, _, (pS_nil), (pV_cons (List.mem_of_getElem? (i := 1) rfl) (pV_nil)), f_338_2⟩
theorem qb_338_0 : ∀ u ∈ [u_338_0, u_338_1, u_338_2], pQ_338 u := pU_cons q_338_0 (pU_cons q_338_1 (pU_cons q_338_2 (pU_nil)))
theorem ok_338 : sInOk pPT i_338 := sInst3 (M := pm_248) (cus := us_338) pOk pg_248 (by decide +kernel) ⟨_, _, _, _, (pS_nil), (pV_cons (List.mem_of_getElem? (i := 0) rfl) (pV_nil)), e_338⟩ (show ∀ u ∈ us_338, pQ_338 u from qb_338_0)
theorem ok_339 : sInOk pPT i_339 := sInst3 (M := pm_9) (cus := []) pOk pg_9 (by decide +kernel) ⟨_, _, _, _, (pS_cons ok_338 (pS_nil)), pV_nil, e_339⟩ pU_nil
def pQ_340 (u : sCu) : Prop := ∃ (SM : List sIn) (H : gHt) (cu : List sCu) (n : Nat), (∀ I ∈ SM, sInOk pPT I) ∧ (∀ v ∈ cu, v ∈ us_340) ∧ sWhU pPT SM H i_340 (mR pm_73) cu n u = true
theorem q_340_0 : pQ_340 u_340_0 := ⟨_, _, _, _, (pS_nil), (pV_nil), f_340_0⟩
theorem q_340_1 : pQ_340 u_340_1 := ⟨_, _, _, _, (pS_nil), (pV_cons (List.mem_of_getElem? (i := 2) rfl) (pV_cons (List.mem_of_getElem? (i := 3) rfl) (pV_nil))), f_340_1⟩
theorem q_340_2 : pQ_340 u_340_2 := ⟨_, _, _, _, (pS_nil), (pV_cons (List.mem_of_getElem? (i := 4) rfl) (pV_nil)), f_340_2⟩
theorem q_340_3 : pQ_340 u_340_3 := ⟨_, _, _, _, (pS_cons ok_318 (pS_nil)), (pV_cons (List.mem_of_getElem? (i := 5) rfl) (pV_nil)), f_340_3⟩
theorem q_340_4 : pQ_340 u_340_4 := ⟨_, _, _, _, (pS_nil), (pV_cons (List.mem_of_getElem? (i := 2) rfl) (pV_nil)), f_340_4⟩
theorem q_340_5 : pQ_340 u_340_5 := ⟨_, _, _, _, (pS_nil), (pV_cons (List.mem_of_getElem? (i := 1) rfl) (pV_nil)), f_340_5⟩
theorem qb_340_0 : ∀ u ∈ [u_340_0, u_340_1, u_340_2, u_340_3, u_340_4, u_340_5], pQ_340 u := pU_cons q_340_0 (pU_cons q_340_1 (pU_cons q_340_2 (pU_cons q_340_3 (pU_cons q_340_4 (pU_cons q_340_5 (pU_nil))))))
theorem ok_340 : sInOk pPT i_340 := sInst3 (M := pm_73) (cus := us_340) pOk pg_73 (by decide +kernel) ⟨_, _, _, _, (pS_cons ok_310 (pS_nil)), (pV_cons (List.mem_of_getElem? (i := 0) rfl) (pV_cons (List.mem_of_getElem? (i := 1) rfl) (pV_nil))), e_340⟩ (show ∀ u ∈ us_340, pQ_340 u from qb_340_0)
theorem ok_341 : sInOk pPT i_341 := sInst3 (M := pm_231) (cus := []) pOk pg_231 (by decide +kernel) ⟨_, _, _, _, (pS_cons ok_111 (pS_nil)), pV_nil, e_341⟩ pU_nil
theorem ok_342 : sInOk pPT i_342 := sInst3 (M := pm_266) (cus := []) pOk pg_266 (by decide +kernel) ⟨_, _, _, _, (pS_cons ok_341 (pS_nil)), pV_nil, e_342⟩ pU_nil
theorem ok_343 : sInOk pPT i_343 := sInst3 (M := pm_20) (cus := []) pOk pg_20 (by decide +kernel) ⟨_, _, _, _, (pS_cons ok_342 (pS_nil)), pV_nil, e_343⟩ pU_nil
theorem ok_344 : sInOk pPT i_344 := sInst3 (M := pm_87) (cus := []) pOk pg_87 (by decide +kernel) ⟨_, _, _, _, (pS_nil), pV_nil, e_344⟩ pU_nil
def pQ_345 (u : sCu) : Prop := ∃ (SM : List sIn) (H : gHt) (cu : List sCu) (n : Nat), (∀ I ∈ SM, sInOk pPT I) ∧ (∀ v ∈ cu, v ∈ us_345) ∧ sWhU pPT SM H i_345 (mR pm_72) cu n u = true
theorem q_345_0 : pQ_345 u_345_0 := ⟨_, _, _, _, (pS_cons ok_344 (pS_nil)), (pV_nil), f_345_0⟩
theorem q_345_1 : pQ_345 u_345_1 := ⟨_, _, _, _, (pS_nil), (pV_cons (List.mem_of_getElem? (i := 0) rfl) (pV_cons (List.mem_of_getElem? (i := 1) rfl) (pV_nil))), f_345_1⟩
theorem qb_345_0 : ∀ u ∈ [u_345_0, u_345_1], pQ_345 u := pU_cons q_345_0 (pU_cons q_345_1 (pU_nil))
theorem ok_345 : sInOk pPT i_345 := sInst3 (M := pm_72) (cus := us_345) pOk pg_72 (by decide +kernel) ⟨_, _, _, _, (pS_nil), (pV_cons (List.mem_of_getElem? (i := 0) rfl) (pV_cons (List.mem_of_getElem? (i := 1) rfl) (pV_nil))), e_345⟩ (show ∀ u ∈ us_345, pQ_345 u from qb_345_0)
theorem ok_346 : sInOk pPT i_346 := sInst3 (M := pm_119) (cus := []) pOk pg_119 (by decide +kernel) ⟨_, _, _, _, (pS_cons ok_345 (pS_nil)), pV_nil, e_346⟩ pU_nil
theorem ok_347 : sInOk pPT i_347 := sInst3 (M := pm_231) (cus := []) pOk pg_231 (by decide +kernel) ⟨_, _, _, _, (pS_cons ok_111 (pS_nil)), pV_nil, e_347⟩ pU_nil
theorem ok_348 : sInOk pPT i_348 := sInst3 (M := pm_253) (cus := []) pOk pg_253 (by decide +kernel) ⟨_, _, _, _, (pS_cons ok_347 (pS_nil)), pV_nil, e_348⟩ pU_nil
theorem ok_349 : sInOk pPT i_349 := sInst3 (M := pm_14) (cus := []) pOk pg_14 (by decide +kernel) ⟨_, _, _, _, (pS_cons ok_348 (pS_nil)), pV_nil, e_349⟩ pU_nil
theorem ok_350 : sInOk pPT i_350 := sInst3 (M := pm_83) (cus := []) pOk pg_83 (by decide +kernel) ⟨_, _, _, _, (pS_cons ok_345 (pS_nil)), pV_nil, e_350⟩ pU_nil
theorem ok_351 : sInOk pPT i_351 := sInst3 (M := pm_231) (cus := []) pOk pg_231 (by decide +kernel) ⟨_, _, _, _, (pS_cons ok_111 (pS_nil)), pV_nil, e_351⟩ pU_nil
theorem ok_352 : sInOk pPT i_352 := sInst3 (M := pm_233) (cus := []) pOk pg_233 (by decide +kernel) ⟨_, _, _, _, (pS_cons ok_351 (pS_nil)), pV_nil, e_352⟩ pU_nil
theorem ok_353 : sInOk pPT i_353 := sInst3 (M := pm_2) (cus := []) pOk pg_2 (by decide +kernel) ⟨_, _, _, _, (pS_cons ok_352 (pS_nil)), pV_nil, e_353⟩ pU_nil
theorem ok_354 : sInOk pPT i_354 := sInst3 (M := pm_33) (cus := []) pOk pg_33 (by decide +kernel) ⟨_, _, _, _, (pS_cons ok_345 (pS_nil)), pV_nil, e_354⟩ pU_nil
theorem ok_355 : sInOk pPT i_355 := sInst3 (M := pm_231) (cus := []) pOk pg_231 (by decide +kernel) ⟨_, _, _, _, (pS_cons ok_111 (pS_nil)), pV_nil, e_355⟩ pU_nil
theorem ok_356 : sInOk pPT i_356 := sInst3 (M := pm_237) (cus := []) pOk pg_237 (by decide +kernel) ⟨_, _, _, _, (pS_cons ok_355 (pS_nil)), pV_nil, e_356⟩ pU_nil
theorem ok_357 : sInOk pPT i_357 := sInst3 (M := pm_5) (cus := []) pOk pg_5 (by decide +kernel) ⟨_, _, _, _, (pS_cons ok_356 (pS_nil)), pV_nil, e_357⟩ pU_nil
theorem ok_358 : sInOk pPT i_358 := sInst3 (M := pm_39) (cus := []) pOk pg_39 (by decide +kernel) ⟨_, _, _, _, (pS_cons ok_345 (pS_nil)), pV_nil, e_358⟩ pU_nil
theorem ok_359 : sInOk pPT i_359 := sInst3 (M := pm_258) (cus := []) pOk pg_258 (by decide +kernel) ⟨_, _, _, _, (pS_cons ok_111 (pS_nil)), pV_nil, e_359⟩ pU_nil
theorem ok_360 : sInOk pPT i_360 := sInst3 (M := pm_16) (cus := []) pOk pg_16 (by decide +kernel) ⟨_, _, _, _, (pS_cons ok_359 (pS_nil)), pV_nil, e_360⟩ pU_nil
def pQ_361 (u : sCu) : Prop := ∃ (SM : List sIn) (H : gHt) (cu : List sCu) (n : Nat), (∀ I ∈ SM, sInOk pPT I) ∧ (∀ v ∈ cu, v ∈ us_361) ∧ sWhU pPT SM H i_361 (mR pm_88) cu n u = true
theorem q_361_0 : pQ_361 u_361_0 := ⟨_, _, _, _, (pS_nil), (pV_nil), f_361_0⟩
theorem q_361_1 : pQ_361 u_361_1 := ⟨_, _, _, _, (pS_nil), (pV_nil), f_361_1⟩
theorem qb_361_0 : ∀ u ∈ [u_361_0, u_361_1], pQ_361 u := pU_cons q_361_0 (pU_cons q_361_1 (pU_nil))
theorem ok_361 : sInOk pPT i_361 := sInst3 (M := pm_88) (cus := us_361) pOk pg_88 (by decide +kernel) ⟨_, _, _, _, (pS_cons ok_345 (pS_nil)), (pV_cons (List.mem_of_getElem? (i := 0) rfl) (pV_cons (List.mem_of_getElem? (i := 1) rfl) (pV_nil))), e_361⟩ (show ∀ u ∈ us_361, pQ_361 u from qb_361_0)
theorem ok_362 : sInOk pPT i_362 := sInst3 (M := pm_267) (cus := []) pOk pg_267 (by decide +kernel) ⟨_, _, _, _, (pS_cons ok_111 (pS_nil)), pV_nil, e_362⟩ pU_nil
theorem ok_363 : sInOk pPT i_363 := sInst3 (M := pm_121) (cus := []) pOk pg_121 (by decide +kernel) ⟨_, _, _, _, (pS_nil), pV_nil, e_363⟩ pU_nil
theorem ok_364 : sInOk pPT i_364 := sInst3 (M := pm_120) (cus := []) pOk pg_120 (by decide +kernel) ⟨_, _, _, _, (pS_cons ok_363 (pS_nil)), pV_nil, e_364⟩ pU_nil
def pQ_365 (u : sCu) : Prop := ∃ (SM : List sIn) (H : gHt) (cu : List sCu) (n : Nat), (∀ I ∈ SM, sInOk pPT I) ∧ (∀ v ∈ cu, v ∈ us_365) ∧ sWhU pPT SM H i_365 (mR pm_214) cu n u = true
theorem q_365_0 : pQ_365 u_365_0 := ⟨_, _, _, _, (pS_nil), (pV_cons (List.mem_of_getElem? (i := 1) rfl) (pV_cons (List.mem_of_getElem? (i := 2) rfl) (pV_nil))), f_365_0⟩
theorem q_365_1 : pQ_365 u_365_1 := ⟨_, _, _, _, (pS_nil), (pV_cons (List.mem_of_getElem? (i := 2) rfl) (pV_nil)), f_365_1⟩
theorem q_365_2 : pQ_365 u_365_2 := ⟨_, _, _, _, (pS_nil), (pV_cons (List.mem_of_getElem? (i := 3) rfl) (pV_nil)), f_365_2⟩
theorem q_365_3 : pQ_365 u_365_3 := ⟨_, _, _, _, (pS_nil), (pV_cons (List.mem_of_getElem? (i := 0) rfl) (pV_nil)), f_365_3⟩
theorem qb_365_0 : ∀ u ∈ [u_365_0, u_365_1, u_365_2, u_365_3], pQ_365 u := pU_cons q_365_0 (pU_cons q_365_1 (pU_cons q_365_2 (pU_cons q_365_3 (pU_nil))))
theorem ok_365 : sInOk pPT i_365 := sInst3 (M := pm_214) (cus := us_365) pOk pg_214 (by decide +kernel) ⟨_, _, _, _, (pS_nil), (pV_cons (List.mem_of_getElem? (i := 0) rfl) (pV_nil)), e_365⟩ (show ∀ u ∈ us_365, pQ_365 u from qb_365_0)
def pQ_366 (u : sCu) : Prop := ∃ (SM : List sIn) (H : gHt) (cu : List sCu) (n : Nat), (∀ I ∈ SM, sInOk pPT I) ∧ (∀ v ∈ cu, v ∈ us_366) ∧ sWhU pPT SM H i_366 (mR pm_145) cu n u = true
theorem q_366_0 : pQ_366 u_366_0 := ⟨_, _, _, _, (pS_nil), (pV_cons (List.mem_of_getElem? (i := 1) rfl) (pV_cons (List.mem_of_getElem? (i := 0) rfl) (pV_nil))), f_366_0⟩
theorem q_366_1 : pQ_366 u_366_1 := ⟨_, _, _, _, (pS_nil), (pV_cons (List.mem_of_getElem? (i := 2) rfl) (pV_cons (List.mem_of_getElem? (i := 3) rfl) (pV_nil))), f_366_1⟩
theorem q_366_2 : pQ_366 u_366_2 := ⟨_, _, _, _, (pS_nil), (pV_cons (List.mem_of_getElem? (i := 1) rfl) (pV_nil)), f_366_2⟩
theorem q_366_3 : pQ_366 u_366_3 := ⟨_, _, _, _, (pS_nil), (pV_cons (List.mem_of_getElem? (i := 2) rfl) (pV_nil)), f_366_3⟩
theorem qb_366_0 : ∀ u ∈ [u_366_0, u_366_1, u_366_2, u_366_3], pQ_366 u := pU_cons q_366_0 (pU_cons q_366_1 (pU_cons q_366_2 (pU_cons q_366_3 (pU_nil))))
theorem ok_366 : sInOk pPT i_366 := sInst3 (M := pm_145) (cus := us_366) pOk pg_145 (by decide +kernel) ⟨_, _, _, _, (pS_nil), (pV_cons (List.mem_of_getElem? (i := 0) rfl) (pV_nil)), e_366⟩ (show ∀ u ∈ us_366, pQ_366 u from qb_366_0)
def pQ_367 (u : sCu) : Prop := ∃ (SM : List sIn) (H : gHt) (cu : List sCu) (n : Nat), (∀ I ∈ SM, sInOk pPT I) ∧ (∀ v ∈ cu, v ∈ us_367) ∧ sWhU pPT SM H i_367 (mR pm_133) cu n u = true
theorem q_367_0 : pQ_367 u_367_0 := ⟨_, _, _, _, (pS_nil), (pV_cons (List.mem_of_getElem? (i := 1) rfl) (pV_cons (List.mem_of_getElem? (i := 2) rfl) (pV_nil))), f_367_0⟩
theorem q_367_1 : pQ_367 u_367_1 := ⟨_, _, _, _, (pS_nil), (pV_cons (List.mem_of_getElem? (i := 0) rfl) (pV_nil)), f_367_1⟩
theorem q_367_2 : pQ_367 u_367_2 := ⟨_, _, _, _, (pS_nil), (pV_cons (List.mem_of_getElem? (i := 1) rfl) (pV_nil)), f_367_2⟩
theorem qb_367_0 : ∀ u ∈ [u_367_0, u_367_1, u_367_2], pQ_367 u := pU_cons q_367_0 (pU_cons q_367_1 (pU_cons q_367_2 (pU_nil)))
theorem ok_367 : sInOk pPT i_367 := sInst3 (M := pm_133) (cus := us_367) pOk pg_133 (by decide +kernel) ⟨_, _, _, _, (pS_nil), (pV_cons (List.mem_of_getElem? (i := 0) rfl) (pV_nil)), e_367⟩ (show ∀ u ∈ us_367, pQ_367 u from qb_367_0)
def pQ_368 (u : sCu) : Prop := ∃ (SM : List sIn) (H : gHt) (cu : List sCu) (n : Nat), (∀ I ∈ SM, sInOk pPT I) ∧ (∀ v ∈ cu, v ∈ us_368) ∧ sWhU pPT SM H i_368 (mR pm_192) cu n u = true
theorem q_368_0 : pQ_368 u_368_0 := ⟨_, _, _, _, (pS_nil), (pV_cons (List.mem_of_getElem? (i := 1) rfl) (pV_cons (List.mem_of_getElem? (i := 4) rfl) (pV_cons (List.mem_of_getElem? (i := 5) rfl) (pV_cons (List.mem_of_getElem? (i := 6) rfl) (pV_cons (List.mem_of_getElem? (i := 7) rfl) (pV_cons (List.mem_of_getElem? (i := 8) rfl) (pV_cons (List.mem_of_getElem? (i := 9) rfl) (pV_cons (List.mem_of_getElem? (i := 10) rfl) (pV_cons (List.mem_of_getElem? (i := 3) rfl) (pV_cons (List.mem_of_getElem? (i := 2) rfl) (pV_nil))))))))))), f_368_0⟩
theorem q_368_1 : pQ_368 u_368_1 := ⟨_, _, _, _, (pS_nil), (pV_cons (List.mem_of_getElem? (i := 0) rfl) (pV_nil)), f_368_1⟩
theorem q_368_2 : pQ_368 u_368_2 := ⟨_, _, _, _, (pS_nil), (pV_cons (List.mem_of_getElem? (i := 1) rfl) (pV_nil)), f_368_2⟩
theorem q_368_3 : pQ_368 u_368_3 := ⟨_, _, _, _, (pS_nil), (pV_cons (List.mem_of_getElem? (i := 1) rfl) (pV_nil)), f_368_3⟩
theorem q_368_4 : pQ_368 u_368_4 := ⟨_, _, _, _, (pS_nil), (pV_cons (List.mem_of_getElem? (i := 1) rfl) (pV_nil)), f_368_4⟩
theorem q_368_5 : pQ_368 u_368_5 := ⟨_, _, _, _, (pS_nil), (pV_cons (List.mem_of_getElem? (i := 1) rfl) (pV_nil)), f_368_5⟩
theorem q_368_6 : pQ_368 u_368_6 := ⟨_, _, _, _, (pS_nil), (pV_cons (List.mem_of_getElem? (i := 1) rfl) (pV_nil)), f_368_6⟩
theorem q_368_7 : pQ_368 u_368_7 := ⟨_, _, _, _, (pS_nil), (pV_cons (List.mem_of_getElem? (i := 8) rfl) (pV_nil)), f_368_7⟩
theorem q_368_8 : pQ_368 u_368_8 := ⟨_, _, _, _, (pS_nil), (pV_cons (List.mem_of_getElem? (i := 1) rfl) (pV_nil)), f_368_8⟩
theorem q_368_9 : pQ_368 u_368_9 := ⟨_, _, _, _, (pS_nil), (pV_cons (List.mem_of_getElem? (i := 10) rfl) (pV_nil)), f_368_9⟩
theorem q_368_10 : pQ_368 u_368_10 := ⟨_, _, _, _, (pS_nil), (pV_cons (List.mem_of_getElem? (i := 1) rfl) (pV_nil)), f_368_10⟩
theorem qb_368_0 : ∀ u ∈ [u_368_0, u_368_1, u_368_2, u_368_3, u_368_4, u_368_5, u_368_6, u_368_7, u_368_8, u_368_9], pQ_368 u := pU_cons q_368_0 (pU_cons q_368_1 (pU_cons q_368_2 (pU_cons q_368_3 (pU_cons q_368_4 (pU_cons q_368_5 (pU_cons q_368_6 (pU_cons q_368_7 (pU_cons q_368_8 (pU_cons q_368_9 (pU_nil))))))))))
theorem qb_368_1 : ∀ u ∈ [u_368_10], pQ_368 u := pU_cons q_368_10 (pU_nil)
theorem ok_368 : sInOk pPT i_368 := sInst3 (M := pm_192) (cus := us_368) pOk pg_192 (by decide +kernel) ⟨_, _, _, _, (pS_nil), (pV_cons (List.mem_of_getElem? (i := 0) rfl) (pV_nil)), e_368⟩ (show ∀ u ∈ us_368, pQ_368 u from (pU_app qb_368_0 qb_368_1))
def pQ_369 (u : sCu) : Prop := ∃ (SM : List sIn) (H : gHt) (cu : List sCu) (n : Nat), (∀ I ∈ SM, sInOk pPT I) ∧ (∀ v ∈ cu, v ∈ us_369) ∧ sWhU pPT SM H i_369 (mR pm_151) cu n u = true
theorem q_369_0 : pQ_369 u_369_0 := ⟨_, _, _, _, (pS_nil), (pV_cons (List.mem_of_getElem? (i := 1) rfl) (pV_nil)), f_369_0⟩
theorem q_369_1 : pQ_369 u_369_1 := ⟨_, _, _, _, (pS_nil), (pV_cons (List.mem_of_getElem? (i := 2) rfl) (pV_nil)), f_369_1⟩
theorem q_369_2 : pQ_369 u_369_2 := ⟨_, _, _, _, (pS_nil), (pV_cons (List.mem_of_getElem? (i := 3) rfl) (pV_cons (List.mem_of_getElem? (i := 4) rfl) (pV_nil))), f_369_2⟩
theorem q_369_3 : pQ_369 u_369_3 := ⟨_, _, _, _, (pS_nil), (pV_cons (List.mem_of_getElem? (i := 4) rfl) (pV_nil)), f_369_3⟩
theorem q_369_4 : pQ_369 u_369_4 := ⟨_, _, _, _, (pS_nil), (pV_cons (List.mem_of_getElem? (i := 5) rfl) (pV_nil)), f_369_4⟩
theorem q_369_5 : pQ_369 u_369_5 := ⟨_, _, _, _, (pS_nil), (pV_cons (List.mem_of_getElem? (i := 6) rfl) (pV_nil)), f_369_5⟩
theorem q_369_6 : pQ_369 u_369_6 := ⟨_, _, _, _, (pS_cons ok_368 (pS_nil)), (pV_nil), f_369_6⟩
theorem qb_369_0 : ∀ u ∈ [u_369_0, u_369_1, u_369_2, u_369_3, u_369_4, u_369_5, u_369_6], pQ_369 u := pU_cons q_369_0 (pU_cons q_369_1 (pU_cons q_369_2 (pU_cons q_369_3 (pU_cons q_369_4 (pU_cons q_369_5 (pU_cons q_369_6 (pU_nil)))))))
theorem ok_369 : sInOk pPT i_369 := sInst3 (M := pm_151) (cus := us_369) pOk pg_151 (by decide +kernel) ⟨_, _, _, _, (pS_nil), (pV_cons (List.mem_of_getElem? (i := 0) rfl) (pV_cons (List.mem_of_getElem? (i := 1) rfl) (pV_nil))), e_369⟩ (show ∀ u ∈ us_369, pQ_369 u from qb_369_0)
def pQ_370 (u : sCu) : Prop := ∃ (SM : List sIn) (H : gHt) (cu : List sCu) (n : Nat), (∀ I ∈ SM, sInOk pPT I) ∧ (∀ v ∈ cu, v ∈ us_370) ∧ sWhU pPT SM H i_370 (mR pm_148) cu n u = true
theorem q_370_0 : pQ_370 u_370_0 := ⟨_, _, _, _, (pS_nil), (pV_cons (List.mem_of_getElem? (i := 1) rfl) (pV_nil)), f_370_0⟩
theorem q_370_1 : pQ_370 u_370_1 := ⟨_, _, _, _, (pS_nil), (pV_cons (List.mem_of_getElem? (i := 2) rfl) (pV_cons (List.mem_of_getElem? (i := 3) rfl) (pV_nil))), f_370_1⟩
theorem q_370_2 : pQ_370 u_370_2 := ⟨_, _, _, _, (pS_nil), (pV_cons (List.mem_of_getElem? (i := 3) rfl) (pV_nil)), f_370_2⟩
theorem q_370_3 : pQ_370 u_370_3 := ⟨_, _, _, _, (pS_nil), (pV_cons (List.mem_of_getElem? (i := 4) rfl) (pV_nil)), f_370_3⟩
theorem q_370_4 : pQ_370 u_370_4 := ⟨_, _, _, _, (pS_cons ok_369 (pS_nil)), (pV_nil), f_370_4⟩
theorem qb_370_0 : ∀ u ∈ [u_370_0, u_370_1, u_370_2, u_370_3, u_370_4], pQ_370 u := pU_cons q_370_0 (pU_cons q_370_1 (pU_cons q_370_2 (pU_cons q_370_3 (pU_cons q_370_4 (pU_nil)))))
theorem ok_370 : sInOk pPT i_370 := sInst3 (M := pm_148) (cus := us_370) pOk pg_148 (by decide +kernel) ⟨_, _, _, _, (pS_nil), (pV_cons (List.mem_of_getElem? (i := 0) rfl) (pV_cons (List.mem_of_getElem? (i := 1) rfl) (pV_nil))), e_370⟩ (show ∀ u ∈ us_370, pQ_370 u from qb_370_0)
def pQ_371 (u : sCu) : Prop := ∃ (SM : List sIn) (H : gHt) (cu : List sCu) (n : Nat), (∀ I ∈ SM, sInOk pPT I) ∧ (∀ v ∈ cu, v ∈ us_371) ∧ sWhU pPT SM H i_371 (mR pm_147) cu n u = true
theorem q_371_0 : pQ_371 u_371_0 := ⟨_, _, _, _, (pS_cons ok_370 (pS_nil)), (pV_cons (List.mem_of_getElem? (i := 1) rfl) (pV_nil)), f_371_0⟩
theorem q_371_1 : pQ_371 u_371_1 := ⟨_, _, _, _, (pS_nil), (pV_cons (List.mem_of_getElem? (i := 0) rfl) (pV_nil)), f_371_1⟩
theorem qb_371_0 : ∀ u ∈ [u_371_0, u_371_1], pQ_371 u := pU_cons q_371_0 (pU_cons q_371_1 (pU_nil))
theorem ok_371 : sInOk pPT i_371 := sInst3 (M := pm_147) (cus := us_371) pOk pg_147 (by decide +kernel) ⟨_, _, _, _, (pS_nil), (pV_cons (List.mem_of_getElem? (i := 0) rfl) (pV_nil)), e_371⟩ (show ∀ u ∈ us_371, pQ_371 u from qb_371_0)
def pQ_372 (u : sCu) : Prop := ∃ (SM : List sIn) (H : gHt) (cu : List sCu) (n : Nat), (∀ I ∈ SM, sInOk pPT I) ∧ (∀ v ∈ cu, v ∈ us_372) ∧ sWhU pPT SM H i_372 (mR pm_143) cu n u = true
theorem q_372_0 : pQ_372 u_372_0 := ⟨_, _, _, _, (pS_cons ok_367 (pS_cons ok_371 (pS_nil))), (pV_cons (List.mem_of_getElem? (i := 1) rfl) (pV_nil)), f_372_0⟩
theorem q_372_1 : pQ_372 u_372_1 := ⟨_, _, _, _, (pS_nil), (pV_cons (List.mem_of_getElem? (i := 0) rfl) (pV_nil)), f_372_1⟩
theorem qb_372_0 : ∀ u ∈ [u_372_0, u_372_1], pQ_372 u := pU_cons q_372_0 (pU_cons q_372_1 (pU_nil))
theorem ok_372 : sInOk pPT i_372 := sInst3 (M := pm_143) (cus := us_372) pOk pg_143 (by decide +kernel) ⟨_, _, _, _, (pS_cons ok_366 (pS_nil)), (pV_cons (List.mem_of_getElem? (i := 0) rfl) (pV_nil)), e_372⟩ (show ∀ u ∈ us_372, pQ_372 u from qb_372_0)
def pQ_373 (u : sCu) : Prop := ∃ (SM : List sIn) (H : gHt) (cu : List sCu) (n : Nat), (∀ I ∈ SM, sInOk pPT I) ∧ (∀ v ∈ cu, v ∈ us_373) ∧ sWhU pPT SM H i_373 (mR pm_229) cu n u = true
theorem q_373_0 : pQ_373 u_373_0 := ⟨_, _, _, _, (pS_cons ok_372 (pS_nil)), (pV_cons (List.mem_of_getElem? (i := 1) rfl) (pV_nil)), f_373_0⟩
theorem q_373_1 : pQ_373 u_373_1 := ⟨_, _, _, _, (pS_nil), (pV_cons (List.mem_of_getElem? (i := 0) rfl) (pV_nil)), f_373_1⟩
theorem qb_373_0 : ∀ u ∈ [u_373_0, u_373_1], pQ_373 u := pU_cons q_373_0 (pU_cons q_373_1 (pU_nil))
theorem ok_373 : sInOk pPT i_373 := sInst3 (M := pm_229) (cus := us_373) pOk pg_229 (by decide +kernel) ⟨_, _, _, _, (pS_cons ok_365 (pS_nil)), (pV_cons (List.mem_of_getElem? (i := 0) rfl) (pV_nil)), e_373⟩ (show ∀ u ∈ us_373, pQ_373 u from qb_373_0)
theorem ok_374 : sInOk pPT i_374 := sInst3 (M := pm_265) (cus := []) pOk pg_265 (by decide +kernel) ⟨_, _, _, _, (pS_cons ok_373 (pS_nil)), pV_nil, e_374⟩ pU_nil
theorem ok_375 : sInOk pPT i_375 := sInst3 (M := pm_19) (cus := []) pOk pg_19 (by decide +kernel) ⟨_, _, _, _, (pS_cons ok_374 (pS_nil)), pV_nil, e_375⟩ pU_nil
def pQ_376 (u : sCu) : Prop := ∃ (SM : List sIn) (H : gHt) (cu : List sCu) (n : Nat), (∀ I ∈ SM, sInOk pPT I) ∧ (∀ v ∈ cu, v ∈ us_376) ∧ sWhU pPT SM H i_376 (mR pm_32) cu n u = true
theorem q_376_0 : pQ_376 u_376_0 := ⟨_, _, _, _, (pS_nil), (pV_cons (List.mem_of_getElem? (i := 0) rfl) (pV_nil)), f_376_0⟩
theorem qb_376_0 : ∀ u ∈ [u_376_0], pQ_376 u := pU_cons q_376_0 (pU_nil)
theorem ok_376 : sInOk pPT i_376 := sInst3 (M := pm_32) (cus := us_376) pOk pg_32 (by decide +kernel) ⟨_, _, _, _, (pS_nil), (pV_cons (List.mem_of_getElem? (i := 0) rfl) (pV_nil)), e_376⟩ (show ∀ u ∈ us_376, pQ_376 u from qb_376_0)
def pQ_377 (u : sCu) : Prop := ∃ (SM : List sIn) (H : gHt) (cu : List sCu) (n : Nat), (∀ I ∈ SM, sInOk pPT I) ∧ (∀ v ∈ cu, v ∈ us_377) ∧ sWhU pPT SM H i_377 (mR pm_109) cu n u = true
theorem q_377_0 : pQ_377 u_377_0 := ⟨_, _, _, _, (pS_nil), (pV_nil), f_377_0⟩
theorem q_377_1 : pQ_377 u_377_1 := ⟨_, _, _, _, (pS_nil), (pV_cons (List.mem_of_getElem? (i := 4) rfl) (pV_cons (List.mem_of_getElem? (i := 2) rfl) (pV_cons (List.mem_of_getElem? (i := 3) rfl) (pV_nil)))), f_377_1⟩
theorem q_377_2 : pQ_377 u_377_2 := ⟨_, _, _, _, (pS_nil), (pV_cons (List.mem_of_getElem? (i := 3) rfl) (pV_nil)), f_377_2⟩
theorem q_377_3 : pQ_377 u_377_3 := ⟨_, _, _, _, (pS_nil), (pV_cons (List.mem_of_getElem? (i := 1) rfl) (pV_nil)), f_377_3⟩
theorem q_377_4 : pQ_377 u_377_4 := ⟨_, _, _, _, (pS_cons ok_376 (pS_nil)), (pV_cons (List.mem_of_getElem? (i := 6) rfl) (pV_cons (List.mem_of_getElem? (i := 5) rfl) (pV_nil))), f_377_4⟩
theorem q_377_5 : pQ_377 u_377_5 := ⟨_, _, _, _, (pS_cons ok_309 (pS_nil)), (pV_cons (List.mem_of_getElem? (i := 6) rfl) (pV_nil)), f_377_5⟩
theorem q_377_6 : pQ_377 u_377_6 := ⟨_, _, _, _, (pS_nil), (pV_cons (List.mem_of_getElem? (i := 4) rfl) (pV_nil)), f_377_6⟩
theorem qb_377_0 : ∀ u ∈ [u_377_0, u_377_1, u_377_2, u_377_3, u_377_4, u_377_5, u_377_6], pQ_377 u := pU_cons q_377_0 (pU_cons q_377_1 (pU_cons q_377_2 (pU_cons q_377_3 (pU_cons q_377_4 (pU_cons q_377_5 (pU_cons q_377_6 (pU_nil)))))))
theorem ok_377 : sInOk pPT i_377 := sInst3 (M := pm_109) (cus := us_377) pOk pg_109 (by decide +kernel) ⟨_, _, _, _, (pS_cons ok_305 (pS_nil)), (pV_cons (List.mem_of_getElem? (i := 0) rfl) (pV_cons (List.mem_of_getElem? (i := 1) rfl) (pV_nil))), e_377⟩ (show ∀ u ∈ us_377, pQ_377 u from qb_377_0)
def pQ_378 (u : sCu) : Prop := ∃ (SM : List sIn) (H : gHt) (cu : List sCu) (n : Nat), (∀ I ∈ SM, sInOk pPT I) ∧ (∀ v ∈ cu, v ∈ us_378) ∧ sWhU pPT SM H i_378 (mR pm_144) cu n u = true
theorem q_378_0 : pQ_378 u_378_0 := ⟨_, _, _, _, (pS_cons ok_372 (pS_nil)), (pV_cons (List.mem_of_getElem? (i := 0) rfl) (pV_nil)), f_378_0⟩
theorem qb_378_0 : ∀ u ∈ [u_378_0], pQ_378 u := pU_cons q_378_0 (pU_nil)
theorem ok_378 : sInOk pPT i_378 := sInst3 (M := pm_144) (cus := us_378) pOk pg_144 (by decide +kernel) ⟨_, _, _, _, (pS_nil), (pV_cons (List.mem_of_getElem? (i := 0) rfl) (pV_nil)), e_378⟩ (show ∀ u ∈ us_378, pQ_378 u from qb_378_0)
def pQ_379 (u : sCu) : Prop := ∃ (SM : List sIn) (H : gHt) (cu : List sCu) (n : Nat), (∀ I ∈ SM, sInOk pPT I) ∧ (∀ v ∈ cu, v ∈ us_379) ∧ sWhU pPT SM H i_379 (mR pm_141) cu n u = true
theorem q_379_0 : pQ_379 u_379_0 := ⟨_, _, _, _, (pS_nil), (pV_cons (List.mem_of_getElem? (i := 1) rfl) (pV_cons (List.mem_of_getElem? (i := 2) rfl) (pV_nil))), f_379_0⟩
theorem q_379_1 : pQ_379 u_379_1 := ⟨_, _, _, _, (pS_nil), (pV_cons (List.mem_of_getElem? (i := 0) rfl) (pV_nil)), f_379_1⟩
theorem q_379_2 : pQ_379 u_379_2 := ⟨_, _, _, _, (pS_nil), (pV_cons (List.mem_of_getElem? (i := 1) rfl) (pV_nil)), f_379_2⟩
theorem qb_379_0 : ∀ u ∈ [u_379_0, u_379_1, u_379_2], pQ_379 u := pU_cons q_379_0 (pU_cons q_379_1 (pU_cons q_379_2 (pU_nil)))
theorem ok_379 : sInOk pPT i_379 := sInst3 (M := pm_141) (cus := us_379) pOk pg_141 (by decide +kernel) ⟨_, _, _, _, (pS_nil), (pV_cons (List.mem_of_getElem? (i := 0) rfl) (pV_nil)), e_379⟩ (show ∀ u ∈ us_379, pQ_379 u from qb_379_0)
def pQ_380 (u : sCu) : Prop := ∃ (SM : List sIn) (H : gHt) (cu : List sCu) (n : Nat), (∀ I ∈ SM, sInOk pPT I) ∧ (∀ v ∈ cu, v ∈ us_380) ∧ sWhU pPT SM H i_380 (mR pm_140) cu n u = true
theorem q_380_0 : pQ_380 u_380_0 := ⟨_, _, _, _, (pS_cons ok_379 (pS_nil)), (pV_cons (List.mem_of_getElem? (i := 1) rfl) (pV_nil)), f_380_0⟩
theorem q_380_1 : pQ_380 u_380_1 := ⟨_, _, _, _, (pS_nil), (pV_cons (List.mem_of_getElem? (i := 0) rfl) (pV_nil)), f_380_1⟩
theorem qb_380_0 : ∀ u ∈ [u_380_0, u_380_1], pQ_380 u := pU_cons q_380_0 (pU_cons q_380_1 (pU_nil))
theorem ok_380 : sInOk pPT i_380 := sInst3 (M := pm_140) (cus := us_380) pOk pg_140 (by decide +kernel) ⟨_, _, _, _, (pS_nil), (pV_cons (List.mem_of_getElem? (i := 0) rfl) (pV_nil)), e_380⟩ (show ∀ u ∈ us_380, pQ_380 u from qb_380_0)
theorem ok_381 : sInOk pPT i_381 := sInst3 (M := pm_142) (cus := []) pOk pg_142 (by decide +kernel) ⟨_, _, _, _, (pS_cons ok_299 (pS_cons ok_380 (pS_nil))), pV_nil, e_381⟩ pU_nil
theorem ok_382 : sInOk pPT i_382 := sInst3 (M := pm_221) (cus := []) pOk pg_221 (by decide +kernel) ⟨_, _, _, _, (pS_cons ok_300 (pS_cons ok_378 (pS_cons ok_381 (pS_nil)))), pV_nil, e_382⟩ pU_nil
theorem ok_383 : sInOk pPT i_383 := sInst3 (M := pm_251) (cus := []) pOk pg_251 (by decide +kernel) ⟨_, _, _, _, (pS_cons ok_382 (pS_nil)), pV_nil, e_383⟩ pU_nil
theorem ok_384 : sInOk pPT i_384 := sInst3 (M := pm_12) (cus := []) pOk pg_12 (by decide +kernel) ⟨_, _, _, _, (pS_cons ok_383 (pS_nil)), pV_nil, e_384⟩ pU_nil
theorem ok_385 : sInOk pPT i_385 := sInst3 (M := pm_81) (cus := []) pOk pg_81 (by decide +kernel) ⟨_, _, _, _, (pS_cons ok_310 (pS_cons ok_312 (pS_nil))), pV_nil, e_385⟩ pU_nil
theorem ok_386 : sInOk pPT i_386 := sInst3 (M := pm_80) (cus := []) pOk pg_80 (by decide +kernel) ⟨_, _, _, _, (pS_cons ok_385 (pS_nil)), pV_nil, e_386⟩ pU_nil
def pQ_387 (u : sCu) : Prop := ∃ (SM : List sIn) (H : gHt) (cu : List sCu) (n : Nat), (∀ I ∈ SM, sInOk pPT I) ∧ (∀ v ∈ cu, v ∈ us_387) ∧ sWhU pPT SM H i_387 (mR pm_238) cu n u = true
theorem q_387_0 : pQ_387 u_387_0 := ⟨_, _, _, _, (pS_cons ok_382 (pS_nil)), (pV_cons (List.mem_of_getElem? (i := 1) rfl) (pV_cons (List.mem_of_getElem? (i := 2) rfl) (pV_nil))), f_387_0⟩
theorem q_387_1 : pQ_387 u_387_1 := ⟨_, _, _, _, (pS_nil), (pV_cons (List.mem_of_getElem? (i := 2) rfl) (pV_nil)), f_387_1⟩
theorem q_387_2 : pQ_387 u_387_2 := ⟨_, _, _, _, (pS_nil), (pV_cons (List.mem_of_getElem? (i := 0) rfl) (pV_nil)), f_387_2⟩
theorem qb_387_0 : ∀ u ∈ [u_387_0, u_387_1, u_387_2], pQ_387 u := pU_cons q_387_0 (pU_cons q_387_1 (pU_cons q_387_2 (pU_nil)))
theorem ok_387 : sInOk pPT i_387 := sInst3 (M := pm_238) (cus := us_387) pOk pg_238 (by decide +kernel) ⟨_, _, _, _, (pS_nil), (pV_cons (List.mem_of_getElem? (i := 0) rfl) (pV_nil)), e_387⟩ (show ∀ u ∈ us_387, pQ_387 u from qb_387_0)
def pQ_388 (u : sCu) : Prop := ∃ (SM : List sIn) (H : gHt) (cu : List sCu) (n : Nat), (∀ I ∈ SM, sInOk pPT I) ∧ (∀ v ∈ cu, v ∈ us_388) ∧ sWhU pPT SM H i_388 (mR pm_41) cu n u = true
theorem q_388_0 : pQ_388 u_388_0 := ⟨_, _, _, _, (pS_cons ok_385 (pS_nil)), (pV_cons (List.mem_of_getElem? (i := 1) rfl) (pV_cons (List.mem_of_getElem? (i := 2) rfl) (pV_nil))), f_388_0⟩
theorem q_388_1 : pQ_388 u_388_1 := ⟨_, _, _, _, (pS_nil), (pV_cons (List.mem_of_getElem? (i := 2) rfl) (pV_nil)), f_388_1⟩
theorem q_388_2 : pQ_388 u_388_2 := ⟨_, _, _, _, (pS_nil), (pV_cons (List.mem_of_getElem? (i := 0) rfl) (pV_nil)), f_388_2⟩
theorem qb_388_0 : ∀ u ∈ [u_388_0, u_388_1, u_388_2], pQ_388 u := pU_cons q_388_0 (pU_cons q_388_1 (pU_cons q_388_2 (pU_nil)))
theorem ok_388 : sInOk pPT i_388 := sInst3 (M := pm_41) (cus := us_388) pOk pg_41 (by decide +kernel) ⟨_, _, _, _, (pS_nil), (pV_cons (List.mem_of_getElem? (i := 0) rfl) (pV_nil)), e_388⟩ (show ∀ u ∈ us_388, pQ_388 u from qb_388_0)
theorem ok_389 : sInOk pPT i_389 := sInst3 (M := pm_245) (cus := []) pOk pg_245 (by decide +kernel) ⟨_, _, _, _, (pS_cons ok_315 (pS_nil)), pV_nil, e_389⟩ pU_nil
theorem ok_390 : sInOk pPT i_390 := sInst3 (M := pm_8) (cus := []) pOk pg_8 (by decide +kernel) ⟨_, _, _, _, (pS_cons ok_389 (pS_nil)), pV_nil, e_390⟩ pU_nil
theorem ok_391 : sInOk pPT i_391 := sInst3 (M := pm_53) (cus := []) pOk pg_53 (by decide +kernel) ⟨_, _, _, _, (pS_cons ok_310 (pS_cons ok_318 (pS_nil))), pV_nil, e_391⟩ pU_nil
def pQ_392 (u : sCu) : Prop := ∃ (SM : List sIn) (H : gHt) (cu : List sCu) (n : Nat), (∀ I ∈ SM, sInOk pPT I) ∧ (∀ v ∈ cu, v ∈ us_392) ∧ sWhU pPT SM H i_392 (mR pm_137) cu n u = true
theorem q_392_0 : pQ_392 u_392_0 := ⟨_, _, _, _, (pS_nil), (pV_cons (List.mem_of_getElem? (i := 1) rfl) (pV_nil)), f_392_0⟩
theorem q_392_1 : pQ_392 u_392_1 := ⟨_, _, _, _, (pS_nil), (pV_cons (List.mem_of_getElem? (i := 0) rfl) (pV_nil)), f_392_1⟩
theorem qb_392_0 : ∀ u ∈ [u_392_0, u_392_1], pQ_392 u := pU_cons q_392_0 (pU_cons q_392_1 (pU_nil))
theorem ok_392 : sInOk pPT i_392 := sInst3 (M := pm_137) (cus := us_392) pOk pg_137 (by decide +kernel) ⟨_, _, _, _, (pS_nil), (pV_cons (List.mem_of_getElem? (i := 0) rfl) (pV_nil)), e_392⟩ (show ∀ u ∈ us_392, pQ_392 u from qb_392_0)
def pQ_393 (u : sCu) : Prop := ∃ (SM : List sIn) (H : gHt) (cu : List sCu) (n : Nat), (∀ I ∈ SM, sInOk pPT I) ∧ (∀ v ∈ cu, v ∈ us_393) ∧ sWhU pPT SM H i_393 (mR pm_131) cu n u = true
theorem q_393_0 : pQ_393 u_393_0 := ⟨_, _, _, _, (pS_cons ok_392 (pS_nil)), (pV_cons (List.mem_of_getElem? (i := 0) rfl) (pV_nil)), f_393_0⟩
theorem qb_393_0 : ∀ u ∈ [u_393_0], pQ_393 u := pU_cons q_393_0 (pU_nil)
theorem ok_393 : sInOk pPT i_393 := sInst3 (M := pm_131) (cus := us_393) pOk pg_131 (by decide +kernel) ⟨_, _, _, _, (pS_nil), (pV_cons (List.mem_of_getElem? (i := 0) rfl) (pV_nil)), e_393⟩ (show ∀ u ∈ us_393, pQ_393 u from qb_393_0)
theorem ok_394 : sInOk pPT i_394 := sInst3 (M := pm_225) (cus := []) pOk pg_225 (by decide +kernel) ⟨_, _, _, _, (pS_cons ok_302 (pS_cons ok_378 (pS_cons ok_393 (pS_nil)))), pV_nil, e_394⟩ pU_nil
theorem ok_395 : sInOk pPT i_395 := sInst3 (M := pm_252) (cus := []) pOk pg_252 (by decide +kernel) ⟨_, _, _, _, (pS_cons ok_394 (pS_nil)), pV_nil, e_395⟩ pU_nil
theorem ok_396 : sInOk pPT i_396 := sInst3 (M := pm_13) (cus := []) pOk pg_13 (by decide +kernel) ⟨_, _, _, _, (pS_cons ok_395 (pS_nil)), pV_nil, e_396⟩ pU_nil
def pQ_397 (u : sCu) : Prop := ∃ (SM : List sIn) (H : gHt) (cu : List sCu) (n : Nat), (∀ I ∈ SM, sInOk pPT I) ∧ (∀ v ∈ cu, v ∈ us_397) ∧ sWhU pPT SM H i_397 (mR pm_82) cu n u = true
theorem q_397_0 : pQ_397 u_397_0 := ⟨_, _, _, _, (pS_nil), (pV_nil), f_397_0⟩
theorem qb_397_0 : ∀ u ∈ [u_397_0], pQ_397 u := pU_cons q_397_0 (pU_nil)
theorem ok_397 : sInOk pPT i_397 := sInst3 (M := pm_82) (cus := us_397) pOk pg_82 (by decide +kernel) ⟨_, _, _, _, (pS_cons ok_310 (pS_cons ok_313 (pS_nil))), (pV_cons (List.mem_of_getElem? (i := 0) rfl) (pV_nil)), e_397⟩ (show ∀ u ∈ us_397, pQ_397 u from qb_397_0)
theorem ok_398 : sInOk pPT i_398 := sInst3 (M := pm_217) (cus := []) pOk pg_217 (by decide +kernel) ⟨_, _, _, _, (pS_cons ok_302 (pS_cons ok_378 (pS_cons ok_393 (pS_nil)))), pV_nil, e_398⟩ pU_nil
theorem ok_399 : sInOk pPT i_399 := sInst3 (M := pm_271) (cus := []) pOk pg_271 (by decide +kernel) ⟨_, _, _, _, (pS_cons ok_398 (pS_nil)), pV_nil, e_399⟩ pU_nil
theorem ok_400 : sInOk pPT i_400 := sInst3 (M := pm_22) (cus := []) pOk pg_22 (by decide +kernel) ⟨_, _, _, _, (pS_cons ok_399 (pS_nil)), pV_nil, e_400⟩ pU_nil
theorem ok_401 : sInOk pPT i_401 := sInst3 (M := pm_126) (cus := []) pOk pg_126 (by decide +kernel) ⟨_, _, _, _, (pS_cons ok_310 (pS_cons ok_313 (pS_nil))), pV_nil, e_401⟩ pU_nil
def pQ_402 (u : sCu) : Prop := ∃ (SM : List sIn) (H : gHt) (cu : List sCu) (n : Nat), (∀ I ∈ SM, sInOk pPT I) ∧ (∀ v ∈ cu, v ∈ us_402) ∧ sWhU pPT SM H i_402 (mR pm_261) cu n u = true
theorem q_402_0 : pQ_402 u_402_0 := ⟨_, _, _, _, (pS_nil), (pV_cons (List.mem_of_getElem? (i := 1) rfl) (pV_cons (List.mem_of_getElem? (i := 2) rfl) (pV_cons (List.mem_of_getElem? (i := 3) rfl) (pV_nil)))), f_402_0⟩
theorem q_402_1 : pQ_402 u_402_1 := ⟨_, _, _, _, (pS_nil), (pV_cons (List.mem_of_getElem? (i := 4) rfl) (pV_cons (List.mem_of_getElem? (i := 5) rfl) (pV_nil))), f_402_1⟩
theorem q_402_2 : pQ_402 u_402_2 := ⟨_, _, _, _, (pS_nil), (pV_cons (List.mem_of_getElem? (i := 3) rfl) (pV_nil)), f_402_2⟩
theorem q_402_3 : pQ_402 u_402_3 := ⟨_, _, _, _, (pS_nil), (pV_cons (List.mem_of_getElem? (i := 0) rfl) (pV_nil)), f_402_3⟩
theorem q_402_4 : pQ_402 u_402_4 := ⟨_, _, _, _, (pS_nil), (pV_cons (List.mem_of_getElem? (i := 5) rfl) (pV_nil)), f_402_4⟩
theorem q_402_5 : pQ_402 u_402_5 := ⟨_, _, _, _, (pS_nil), (pV_cons (List.mem_of_getElem? (i := 1) rfl) (pV_nil)), f_402_5⟩
theorem qb_402_0 : ∀ u ∈ [u_402_0, u_402_1, u_402_2, u_402_3, u_402_4, u_402_5], pQ_402 u := pU_cons q_402_0 (pU_cons q_402_1 (pU_cons q_402_2 (pU_cons q_402_3 (pU_cons q_402_4 (pU_cons q_402_5 (pU_nil))))))
theorem ok_402 : sInOk pPT i_402 := sInst3 (M := pm_261) (cus := us_402) pOk pg_261 (by decide +kernel) ⟨_, _, _, _, (pS_nil), (pV_cons (List.mem_of_getElem? (i := 0) rfl) (pV_nil)), e_402⟩ (show ∀ u ∈ us_402, pQ_402 u from qb_402_0)
def pQ_403 (u : sCu) : Prop := ∃ (SM : List sIn) (H : gHt) (cu : List sCu) (n : Nat), (∀ I ∈ SM, sInOk pPT I) ∧ (∀ v ∈ cu, v ∈ us_403) ∧ sWhU pPT SM H i_403 (mR pm_239) cu n u = true
theorem q_403_0 : pQ_403 u_403_0 := ⟨_, _, _, _, (pS_cons ok_402 (pS_nil)), (pV_cons (List.mem_of_getElem? (i := 1) rfl) (pV_nil)), f_403_0⟩
theorem q_403_1 : pQ_403 u_403_1 := ⟨_, _, _, _, (pS_cons ok_402 (pS_nil)), (pV_cons (List.mem_of_getElem? (i := 2) rfl) (pV_nil)), f_403_1⟩
theorem q_403_2 : pQ_403 u_403_2 := ⟨_, _, _, _, (pS_nil), (pV_cons (List.mem_of_getElem? (i := 1) rfl) (pV_nil)), f_403_2⟩
theorem qb_403_0 : ∀ u ∈ [u_403_0, u_403_1, u_403_2], pQ_403 u := pU_cons q_403_0 (pU_cons q_403_1 (pU_cons q_403_2 (pU_nil)))
theorem ok_403 : sInOk pPT i_403 := sInst3 (M := pm_239) (cus := us_403) pOk pg_239 (by decide +kernel) ⟨_, _, _, _, (pS_nil), (pV_cons (List.mem_of_getElem? (i := 0) rfl) (pV_nil)), e_403⟩ (show ∀ u ∈ us_403, pQ_403 u from qb_403_0)
theorem ok_404 : sInOk pPT i_404 := sInst3 (M := pm_6) (cus := []) pOk pg_6 (by decide +kernel) ⟨_, _, _, _, (pS_cons ok_403 (pS_nil)), pV_nil, e_404⟩ pU_nil
def pQ_405 (u : sCu) : Prop := ∃ (SM : List sIn) (H : gHt) (cu : List sCu) (n : Nat), (∀ I ∈ SM, sInOk pPT I) ∧ (∀ v ∈ cu, v ∈ us_405) ∧ sWhU pPT SM H i_405 (mR pm_44) cu n u = true
theorem q_405_0 : pQ_405 u_405_0 := ⟨_, _, _, _, (pS_nil), (pV_cons (List.mem_of_getElem? (i := 1) rfl) (pV_cons (List.mem_of_getElem? (i := 2) rfl) (pV_nil))), f_405_0⟩
theorem q_405_1 : pQ_405 u_405_1 := ⟨_, _, _, _, (pS_nil), (pV_cons (List.mem_of_getElem? (i := 3) rfl) (pV_cons (List.mem_of_getElem? (i := 5) rfl) (pV_cons (List.mem_of_getElem? (i := 6) rfl) (pV_nil)))), f_405_1⟩
theorem q_405_2 : pQ_405 u_405_2 := ⟨_, _, _, _, (pS_nil), (pV_cons (List.mem_of_getElem? (i := 0) rfl) (pV_nil)), f_405_2⟩
theorem q_405_3 : pQ_405 u_405_3 := ⟨_, _, _, _, (pS_nil), (pV_cons (List.mem_of_getElem? (i := 4) rfl) (pV_nil)), f_405_3⟩
theorem q_405_4 : pQ_405 u_405_4 := ⟨_, _, _, _, (pS_nil), (pV_cons (List.mem_of_getElem? (i := 3) rfl) (pV_nil)), f_405_4⟩
theorem q_405_5 : pQ_405 u_405_5 := ⟨_, _, _, _, (pS_nil), (pV_cons (List.mem_of_getElem? (i := 6) rfl) (pV_nil)), f_405_5⟩
theorem q_405_6 : pQ_405 u_405_6 := ⟨_, _, _, _, (pS_nil), (pV_cons (List.mem_of_getElem? (i := 1) rfl) (pV_nil)), f_405_6⟩
theorem qb_405_0 : ∀ u ∈ [u_405_0, u_405_1, u_405_2, u_405_3, u_405_4, u_405_5, u_405_6], pQ_405 u := pU_cons q_405_0 (pU_cons q_405_1 (pU_cons q_405_2 (pU_cons q_405_3 (pU_cons q_405_4 (pU_cons q_405_5 (pU_cons q_405_6 (pU_nil)))))))
theorem ok_405 : sInOk pPT i_405 := sInst3 (M := pm_44) (cus := us_405) pOk pg_44 (by decide +kernel) ⟨_, _, _, _, (pS_nil), (pV_cons (List.mem_of_getElem? (i := 0) rfl) (pV_nil)), e_405⟩ (show ∀ u ∈ us_405, pQ_405 u from qb_405_0)
def pQ_406 (u : sCu) : Prop := ∃ (SM : List sIn) (H : gHt) (cu : List sCu) (n : Nat), (∀ I ∈ SM, sInOk pPT I) ∧ (∀ v ∈ cu, v ∈ us_406) ∧ sWhU pPT SM H i_406 (mR pm_44) cu n u = true
theorem q_406_0 : pQ_406 u_406_0 := ⟨_, _, _, _, (pS_nil), (pV_cons (List.mem_of_getElem? (i := 1) rfl) (pV_cons (List.mem_of_getElem? (i := 2) rfl) (pV_nil))), f_406_0⟩
theorem q_406_1 : pQ_406 u_406_1 := ⟨_, _, _, _, (pS_nil), (pV_cons (List.mem_of_getElem? (i := 3) rfl) (pV_cons (List.mem_of_getElem? (i := 5) rfl) (pV_cons (List.mem_of_getElem? (i := 6) rfl) (pV_nil)))), f_406_1⟩
theorem q_406_2 : pQ_406 u_406_2 := ⟨_, _, _, _, (pS_nil), (pV_cons (List.mem_of_getElem? (i := 0) rfl) (pV_nil)), f_406_2⟩
theorem q_406_3 : pQ_406 u_406_3 := ⟨_, _, _, _, (pS_nil), (pV_cons (List.mem_of_getElem? (i := 4) rfl) (pV_nil)), f_406_3⟩
theorem q_406_4 : pQ_406 u_406_4 := ⟨_, _, _, _, (pS_nil), (pV_cons (List.mem_of_getElem? (i := 3) rfl) (pV_nil)), f_406_4⟩
theorem q_406_5 : pQ_406 u_406_5 := ⟨_, _, _, _, (pS_nil), (pV_cons (List.mem_of_getElem? (i := 6) rfl) (pV_nil)), f_406_5⟩
theorem q_406_6 : pQ_406 u_406_6 := ⟨_, _, _, _, (pS_nil), (pV_cons (List.mem_of_getElem? (i := 1) rfl) (pV_nil)), f_406_6⟩
theorem qb_406_0 : ∀ u ∈ [u_406_0, u_406_1, u_406_2, u_406_3, u_406_4, u_406_5, u_406_6], pQ_406 u := pU_cons q_406_0 (pU_cons q_406_1 (pU_cons q_406_2 (pU_cons q_406_3 (pU_cons q_406_4 (pU_cons q_406_5 (pU_cons q_406_6 (pU_nil)))))))
theorem ok_406 : sInOk pPT i_406 := sInst3 (M := pm_44) (cus := us_406) pOk pg_44 (by decide +kernel) ⟨_, _, _, _, (pS_nil), (pV_cons (List.mem_of_getElem? (i := 0) rfl) (pV_nil)), e_406⟩ (show ∀ u ∈ us_406, pQ_406 u from qb_406_0)
def pQ_407 (u : sCu) : Prop := ∃ (SM : List sIn) (H : gHt) (cu : List sCu) (n : Nat), (∀ I ∈ SM, sInOk pPT I) ∧ (∀ v ∈ cu, v ∈ us_407) ∧ sWhU pPT SM H i_407 (mR pm_44) cu n u = true
theorem q_407_0 : pQ_407 u_407_0 := ⟨_, _, _, _, (pS_nil), (pV_cons (List.mem_of_getElem? (i := 1) rfl) (pV_cons (List.mem_of_getElem? (i := 2) rfl) (pV_nil))), f_407_0⟩
theorem q_407_1 : pQ_407 u_407_1 := ⟨_, _, _, _, (pS_nil), (pV_cons (List.mem_of_getElem? (i := 3) rfl) (pV_cons (List.mem_of_getElem? (i := 5) rfl) (pV_cons (List.mem_of_getElem? (i := 6) rfl) (pV_nil)))), f_407_1⟩
theorem q_407_2 : pQ_407 u_407_2 := ⟨_, _, _, _, (pS_nil), (pV_cons (List.mem_of_getElem? (i := 0) rfl) (pV_nil)), f_407_2⟩
theorem q_407_3 : pQ_407 u_407_3 := ⟨_, _, _, _, (pS_nil), (pV_cons (List.mem_of_getElem? (i := 4) rfl) (pV_nil)), f_407_3⟩
theorem q_407_4 : pQ_407 u_407_4 := ⟨_, _, _, _, (pS_nil), (pV_cons (List.mem_of_getElem? (i := 3) rfl) (pV_nil)), f_407_4⟩
theorem q_407_5 : pQ_407 u_407_5 := ⟨_, _, _, _, (pS_nil), (pV_cons (List.mem_of_getElem? (i := 6) rfl) (pV_nil)), f_407_5⟩
theorem q_407_6 : pQ_407 u_407_6 := ⟨_, _, _, _, (pS_nil), (pV_cons (List.mem_of_getElem? (i := 1) rfl) (pV_nil)), f_407_6⟩
theorem qb_407_0 : ∀ u ∈ [u_407_0, u_407_1, u_407_2, u_407_3, u_407_4, u_407_5, u_407_6], pQ_407 u := pU_cons q_407_0 (pU_cons q_407_1 (pU_cons q_407_2 (pU_cons q_407_3 (pU_cons q_407_4 (pU_cons q_407_5 (pU_cons q_407_6 (pU_nil)))))))
theorem ok_407 : sInOk pPT i_407 := sInst3 (M := pm_44) (cus := us_407) pOk pg_44 (by decide +kernel) ⟨_, _, _, _, (pS_nil), (pV_cons (List.mem_of_getElem? (i := 0) rfl) (pV_nil)), e_407⟩ (show ∀ u ∈ us_407, pQ_407 u from qb_407_0)
def pQ_408 (u : sCu) : Prop := ∃ (SM : List sIn) (H : gHt) (cu : List sCu) (n : Nat), (∀ I ∈ SM, sInOk pPT I) ∧ (∀ v ∈ cu, v ∈ us_408) ∧ sWhU pPT SM H i_408 (mR pm_43) cu n u = true
theorem q_408_0 : pQ_408 u_408_0 := ⟨_, _, _, _, (pS_nil), (pV_nil), f_408_0⟩
theorem q_408_1 : pQ_408 u_408_1 := ⟨_, _, _, _, (pS_cons ok_407 (pS_nil)), (pV_cons (List.mem_of_getElem? (i := 2) rfl) (pV_nil)), f_408_1⟩
theorem q_408_2 : pQ_408 u_408_2 := ⟨_, _, _, _, (pS_nil), (pV_cons (List.mem_of_getElem? (i := 1) rfl) (pV_nil)), f_408_2⟩
theorem qb_408_0 : ∀ u ∈ [u_408_0, u_408_1, u_408_2], pQ_408 u := pU_cons q_408_0 (pU_cons q_408_1 (pU_cons q_408_2 (pU_nil)))
theorem ok_408 : sInOk pPT i_408 := sInst3 (M := pm_43) (cus := us_408) pOk pg_43 (by decide +kernel) ⟨_, _, _, _, (pS_nil), (pV_cons (List.mem_of_getElem? (i := 0) rfl) (pV_cons (List.mem_of_getElem? (i := 1) rfl) (pV_nil))), e_408⟩ (show ∀ u ∈ us_408, pQ_408 u from qb_408_0)
def pQ_409 (u : sCu) : Prop := ∃ (SM : List sIn) (H : gHt) (cu : List sCu) (n : Nat), (∀ I ∈ SM, sInOk pPT I) ∧ (∀ v ∈ cu, v ∈ us_409) ∧ sWhU pPT SM H i_409 (mR pm_268) cu n u = true
theorem q_409_0 : pQ_409 u_409_0 := ⟨_, _, _, _, (pS_nil), (pV_nil), f_409_0⟩
theorem qb_409_0 : ∀ u ∈ [u_409_0], pQ_409 u := pU_cons q_409_0 (pU_nil)
theorem ok_409 : sInOk pPT i_409 := sInst3 (M := pm_268) (cus := us_409) pOk pg_268 (by decide +kernel) ⟨_, _, _, _, (pS_cons ok_315 (pS_nil)), (pV_cons (List.mem_of_getElem? (i := 0) rfl) (pV_nil)), e_409⟩ (show ∀ u ∈ us_409, pQ_409 u from qb_409_0)
def pQ_410 (u : sCu) : Prop := ∃ (SM : List sIn) (H : gHt) (cu : List sCu) (n : Nat), (∀ I ∈ SM, sInOk pPT I) ∧ (∀ v ∈ cu, v ∈ us_410) ∧ sWhU pPT SM H i_410 (mR pm_269) cu n u = true
theorem q_410_0 : pQ_410 u_410_0 := ⟨_, _, _, _, (pS_nil), (pV_cons (List.mem_of_getElem? (i := 1) rfl) (pV_nil)), f_410_0⟩
theorem q_410_1 : pQ_410 u_410_1 := ⟨_, _, _, _, (pS_cons ok_409 (pS_nil)), (pV_cons (List.mem_of_getElem? (i := 0) rfl) (pV_cons (List.mem_of_getElem? (i := 2) rfl) (pV_nil))), f_410_1⟩
theorem q_410_2 : pQ_410 u_410_2 := ⟨_, _, _, _, (pS_nil), (pV_cons (List.mem_of_getElem? (i := 1) rfl) (pV_nil)), f_410_2⟩
theorem qb_410_0 : ∀ u ∈ [u_410_0, u_410_1, u_410_2], pQ_410 u := pU_cons q_410_0 (pU_cons q_410_1 (pU_cons q_410_2 (pU_nil)))
theorem ok_410 : sInOk pPT i_410 := sInst3 (M := pm_269) (cus := us_410) pOk pg_269 (by decide +kernel) ⟨_, _, _, _, (pS_nil), (pV_cons (List.mem_of_getElem? (i := 0) rfl) (pV_nil)), e_410⟩ (show ∀ u ∈ us_410, pQ_410 u from qb_410_0)
def pQ_411 (u : sCu) : Prop := ∃ (SM : List sIn) (H : gHt) (cu : List sCu) (n : Nat), (∀ I ∈ SM, sInOk pPT I) ∧ (∀ v ∈ cu, v ∈ us_411) ∧ sWhU pPT SM H i_411 (mR pm_123) cu n u = true
theorem q_411_0 : pQ_411 u_411_0 := ⟨_, _, _, _, (pS_nil), (pV_cons (List.mem_of_getElem? (i := 1) rfl) (pV_nil)), f_411_0⟩
theorem q_411_1 : pQ_411 u_411_1 := ⟨_, _, _, _, (pS_cons ok_318 (pS_cons ok_376 (pS_nil))), (pV_cons (List.mem_of_getElem? (i := 0) rfl) (pV_cons (List.mem_of_getElem? (i := 2) rfl) (pV_cons (List.mem_of_getElem? (i := 3) rfl) (pV_nil)))), f_411_1⟩
theorem q_411_2 : pQ_411 u_411_2 := ⟨_, _, _, _, (pS_nil), (pV_cons (List.mem_of_getElem? (i := 3) rfl) (pV_nil)), f_411_2⟩
theorem q_411_3 : pQ_411 u_411_3 := ⟨_, _, _, _, (pS_nil), (pV_cons (List.mem_of_getElem? (i := 1) rfl) (pV_nil)), f_411_3⟩
theorem qb_411_0 : ∀ u ∈ [u_411_0, u_411_1, u_411_2, u_411_3], pQ_411 u := pU_cons q_411_0 (pU_cons q_411_1 (pU_cons q_411_2 (pU_cons q_411_3 (pU_nil))))
theorem ok_411 : sInOk pPT i_411 := sInst3 (M := pm_123) (cus := us_411) pOk pg_123 (by decide +kernel) ⟨_, _, _, _, (pS_cons ok_310 (pS_nil)), (pV_cons (List.mem_of_getElem? (i := 0) rfl) (pV_nil)), e_411⟩ (show ∀ u ∈ us_411, pQ_411 u from qb_411_0)
def pQ_412 (u : sCu) : Prop := ∃ (SM : List sIn) (H : gHt) (cu : List sCu) (n : Nat), (∀ I ∈ SM, sInOk pPT I) ∧ (∀ v ∈ cu, v ∈ us_412) ∧ sWhU pPT SM H i_412 (mR pm_240) cu n u = true
theorem q_412_0 : pQ_412 u_412_0 := ⟨_, _, _, _, (pS_nil), (pV_cons (List.mem_of_getElem? (i := 1) rfl) (pV_nil)), f_412_0⟩
theorem q_412_1 : pQ_412 u_412_1 := ⟨_, _, _, _, (pS_nil), (pV_cons (List.mem_of_getElem? (i := 0) rfl) (pV_cons (List.mem_of_getElem? (i := 1) rfl) (pV_nil))), f_412_1⟩
theorem qb_412_0 : ∀ u ∈ [u_412_0, u_412_1], pQ_412 u := pU_cons q_412_0 (pU_cons q_412_1 (pU_nil))
theorem ok_412 : sInOk pPT i_412 := sInst3 (M := pm_240) (cus := us_412) pOk pg_240 (by decide +kernel) ⟨_, _, _, _, (pS_nil), (pV_cons (List.mem_of_getElem? (i := 0) rfl) (pV_nil)), e_412⟩ (show ∀ u ∈ us_412, pQ_412 u from qb_412_0)
def pQ_413 (u : sCu) : Prop := ∃ (SM : List sIn) (H : gHt) (cu : List sCu) (n : Nat), (∀ I ∈ SM, sInOk pPT I) ∧ (∀ v ∈ cu, v ∈ us_413) ∧ sWhU pPT SM H i_413 (mR pm_47) cu n u = true
theorem q_413_0 : pQ_413 u_413_0 := ⟨_, _, _, _, (pS_nil), (pV_cons (List.mem_of_getElem? (i := 1) rfl) (pV_nil)), f_413_0⟩
theorem q_413_1 : pQ_413 u_413_1 := ⟨_, _, _, _, (pS_nil), (pV_cons (List.mem_of_getElem? (i := 0) rfl) (pV_cons (List.mem_of_getElem? (i := 1) rfl) (pV_nil))), f_413_1⟩
theorem qb_413_0 : ∀ u ∈ [u_413_0, u_413_1], pQ_413 u := pU_cons q_413_0 (pU_cons q_413_1 (pU_nil))
theorem ok_413 : sInOk pPT i_413 := sInst3 (M := pm_47) (cus := us_413) pOk pg_47 (by decide +kernel) ⟨_, _, _, _, (pS_cons ok_310 (pS_nil)), (pV_cons (List.mem_of_getElem? (i := 0) rfl) (pV_nil)), e_413⟩ (show ∀ u ∈ us_413, pQ_413 u from qb_413_0)
def pQ_414 (u : sCu) : Prop := ∃ (SM : List sIn) (H : gHt) (cu : List sCu) (n : Nat), (∀ I ∈ SM, sInOk pPT I) ∧ (∀ v ∈ cu, v ∈ us_414) ∧ sWhU pPT SM H i_414 (mR pm_108) cu n u = true
theorem q_414_0 : pQ_414 u_414_0 := ⟨_, _, _, _, (pS_nil), (pV_nil), f_414_0⟩
theorem q_414_1 : pQ_414 u_414_1 := ⟨_, _, _, _, (pS_nil), (pV_nil), f_414_1⟩
theorem q_414_2 : pQ_414 u_414_2 := ⟨_, _, _, _, (pS_nil), (pV_nil), f_414_2⟩
theorem qb_414_0 : ∀ u ∈ [u_414_0, u_414_1, u_414_2], pQ_414 u := pU_cons q_414_0 (pU_cons q_414_1 (pU_cons q_414_2 (pU_nil)))
theorem ok_414 : sInOk pPT i_414 := sInst3 (M := pm_108) (cus := us_414) pOk pg_108 (by decide +kernel) ⟨_, _, _, _, (pS_nil), (pV_cons (List.mem_of_getElem? (i := 0) rfl) (pV_cons (List.mem_of_getElem? (i := 1) rfl) (pV_cons (List.mem_of_getElem? (i := 2) rfl) (pV_nil)))), e_414⟩ (show ∀ u ∈ us_414, pQ_414 u from qb_414_0)
theorem ok_415 : sInOk pPT i_415 := sInst3 (M := pm_230) (cus := []) pOk pg_230 (by decide +kernel) ⟨_, _, _, _, (pS_cons ok_378 (pS_nil)), pV_nil, e_415⟩ pU_nil
def pQ_416 (u : sCu) : Prop := ∃ (SM : List sIn) (H : gHt) (cu : List sCu) (n : Nat), (∀ I ∈ SM, sInOk pPT I) ∧ (∀ v ∈ cu, v ∈ us_416) ∧ sWhU pPT SM H i_416 (mR pm_195) cu n u = true
theorem q_416_0 : pQ_416 u_416_0 := ⟨_, _, _, _, (pS_nil), (pV_cons (List.mem_of_getElem? (i := 1) rfl) (pV_nil)), f_416_0⟩
theorem q_416_1 : pQ_416 u_416_1 := ⟨_, _, _, _, (pS_nil), (pV_cons (List.mem_of_getElem? (i := 0) rfl) (pV_nil)), f_416_1⟩
theorem qb_416_0 : ∀ u ∈ [u_416_0, u_416_1], pQ_416 u := pU_cons q_416_0 (pU_cons q_416_1 (pU_nil))
theorem ok_416 : sInOk pPT i_416 := sInst3 (M := pm_195) (cus := us_416) pOk pg_195 (by decide +kernel) ⟨_, _, _, _, (pS_nil), (pV_cons (List.mem_of_getElem? (i := 0) rfl) (pV_nil)), e_416⟩ (show ∀ u ∈ us_416, pQ_416 u from qb_416_0)
theorem ok_417 : sInOk pPT i_417 := sInst3 (M := pm_212) (cus := []) pOk pg_212 (by decide +kernel) ⟨_, _, _, _, (pS_cons ok_372 (pS_cons ok_416 (pS_nil))), pV_nil, e_417⟩ pU_nil
def pQ_418 (u : sCu) : Prop := ∃ (SM : List sIn) (H : gHt) (cu : List sCu) (n : Nat), (∀ I ∈ SM, sInOk pPT I) ∧ (∀ v ∈ cu, v ∈ us_418) ∧ sWhU pPT SM H i_418 (mR pm_218) cu n u = true
theorem q_418_0 : pQ_418 u_418_0 := ⟨_, _, _, _, (pS_nil), (pV_cons (List.mem_of_getElem? (i := 1) rfl) (pV_nil)), f_418_0⟩
theorem q_418_1 : pQ_418 u_418_1 := ⟨_, _, _, _, (pS_cons ok_417 (pS_nil)), (pV_cons (List.mem_of_getElem? (i := 0) rfl) (pV_cons (List.mem_of_getElem? (i := 1) rfl) (pV_nil))), f_418_1⟩
theorem qb_418_0 : ∀ u ∈ [u_418_0, u_418_1], pQ_418 u := pU_cons q_418_0 (pU_cons q_418_1 (pU_nil))
theorem ok_418 : sInOk pPT i_418 := sInst3 (M := pm_218) (cus := us_418) pOk pg_218 (by decide +kernel) ⟨_, _, _, _, (pS_nil), (pV_cons (List.mem_of_getElem? (i := 0) rfl) (pV_nil)), e_418⟩ (show ∀ u ∈ us_418, pQ_418 u from qb_418_0)
def pQ_419 (u : sCu) : Prop := ∃ (SM : List sIn) (H : gHt) (cu : List sCu) (n : Nat), (∀ I ∈ SM, sInOk pPT I) ∧ (∀ v ∈ cu, v ∈ us_419) ∧ sWhU pPT SM H i_419 (mR pm_215) cu n u = true
theorem q_419_0 : pQ_419 u_419_0 := ⟨_, _, _, _, (pS_nil), (pV_cons (List.mem_of_getElem? (i := 1) rfl) (pV_nil)), f_419_0⟩
theorem q_419_1 : pQ_419 u_419_1 := ⟨_, _, _, _, (pS_cons ok_417 (pS_nil)), (pV_cons (List.mem_of_getElem? (i := 0) rfl) (pV_cons (List.mem_of_getElem? (i := 2) rfl) (pV_nil))), f_419_1⟩
theorem q_419_2 : pQ_419 u_419_2 := ⟨_, _, _, _, (pS_nil), (pV_cons (List.mem_of_getElem? (i := 1) rfl) (pV_nil)), f_419_2⟩
theorem qb_419_0 : ∀ u ∈ [u_419_0, u_419_1, u_419_2], pQ_419 u := pU_cons q_419_0 (pU_cons q_419_1 (pU_cons q_419_2 (pU_nil)))
theorem ok_419 : sInOk pPT i_419 := sInst3 (M := pm_215) (cus := us_419) pOk pg_215 (by decide +kernel) ⟨_, _, _, _, (pS_nil), (pV_cons (List.mem_of_getElem? (i := 0) rfl) (pV_nil)), e_419⟩ (show ∀ u ∈ us_419, pQ_419 u from qb_419_0)
def pQ_420 (u : sCu) : Prop := ∃ (SM : List sIn) (H : gHt) (cu : List sCu) (n : Nat), (∀ I ∈ SM, sInOk pPT I) ∧ (∀ v ∈ cu, v ∈ us_420) ∧ sWhU pPT SM H i_420 (mR pm_195) cu n u = true
theorem q_420_0 : pQ_420 u_420_0 := ⟨_, _, _, _, (pS_nil), (pV_cons (List.mem_of_getElem? (i := 1) rfl) (pV_nil)), f_420_0⟩
theorem q_420_1 : pQ_420 u_420_1 := ⟨_, _, _, _, (pS_nil), (pV_cons (List.mem_of_getElem? (i := 0) rfl) (pV_nil)), f_420_1⟩
theorem qb_420_0 : ∀ u ∈ [u_420_0, u_420_1], pQ_420 u := pU_cons q_420_0 (pU_cons q_420_1 (pU_nil))
theorem ok_420 : sInOk pPT i_420 := sInst3 (M := pm_195) (cus := us_420) pOk pg_195 (by decide +kernel) ⟨_, _, _, _, (pS_nil), (pV_cons (List.mem_of_getElem? (i := 0) rfl) (pV_nil)), e_420⟩ (show ∀ u ∈ us_420, pQ_420 u from qb_420_0)
theorem ok_421 : sInOk pPT i_421 := sInst3 (M := pm_270) (cus := []) pOk pg_270 (by decide +kernel) ⟨_, _, _, _, (pS_cons ok_415 (pS_cons ok_418 (pS_cons ok_419 (pS_cons ok_420 (pS_nil))))), pV_nil, e_421⟩ pU_nil
theorem ok_422 : sInOk pPT i_422 := sInst3 (M := pm_21) (cus := []) pOk pg_21 (by decide +kernel) ⟨_, _, _, _, (pS_cons ok_421 (pS_nil)), pV_nil, e_422⟩ pU_nil
def pQ_423 (u : sCu) : Prop := ∃ (SM : List sIn) (H : gHt) (cu : List sCu) (n : Nat), (∀ I ∈ SM, sInOk pPT I) ∧ (∀ v ∈ cu, v ∈ us_423) ∧ sWhU pPT SM H i_423 (mR pm_60) cu n u = true
theorem q_423_0 : pQ_423 u_423_0 := ⟨_, _, _, _, (pS_nil), (pV_cons (List.mem_of_getElem? (i := 1) rfl) (pV_nil)), f_423_0⟩
theorem q_423_1 : pQ_423 u_423_1 := ⟨_, _, _, _, (pS_nil), (pV_cons (List.mem_of_getElem? (i := 0) rfl) (pV_nil)), f_423_1⟩
theorem qb_423_0 : ∀ u ∈ [u_423_0, u_423_1], pQ_423 u := pU_cons q_423_0 (pU_cons q_423_1 (pU_nil))
theorem ok_423 : sInOk pPT i_423 := sInst3 (M := pm_60) (cus := us_423) pOk pg_60 (by decide +kernel) ⟨_, _, _, _, (pS_cons ok_310 (pS_nil)), (pV_cons (List.mem_of_getElem? (i := 0) rfl) (pV_nil)), e_423⟩ (show ∀ u ∈ us_423, pQ_423 u from qb_423_0)
def pQ_424 (u : sCu) : Prop := ∃ (SM : List sIn) (H : gHt) (cu : List sCu) (n : Nat), (∀ I ∈ SM, sInOk pPT I) ∧ (∀ v ∈ cu, v ∈ us_424) ∧ sWhU pPT SM H i_424 (mR pm_115) cu n u = true
theorem q_424_0 : pQ_424 u_424_0 := ⟨_, _, _, _, (pS_nil), (pV_cons (List.mem_of_getElem? (i := 1) rfl) (pV_cons (List.mem_of_getElem? (i := 0) rfl) (pV_nil))), f_424_0⟩
theorem q_424_1 : pQ_424 u_424_1 := ⟨_, _, _, _, (pS_nil), (pV_cons (List.mem_of_getElem? (i := 2) rfl) (pV_nil)), f_424_1⟩
theorem q_424_2 : pQ_424 u_424_2 := ⟨_, _, _, _, (pS_nil), (pV_cons (List.mem_of_getElem? (i := 1) rfl) (pV_nil)), f_424_2⟩
theorem qb_424_0 : ∀ u ∈ [u_424_0, u_424_1, u_424_2], pQ_424 u := pU_cons q_424_0 (pU_cons q_424_1 (pU_cons q_424_2 (pU_nil)))
theorem ok_424 : sInOk pPT i_424 := sInst3 (M := pm_115) (cus := us_424) pOk pg_115 (by decide +kernel) ⟨_, _, _, _, (pS_nil), (pV_cons (List.mem_of_getElem? (i := 0) rfl) (pV_nil)), e_424⟩ (show ∀ u ∈ us_424, pQ_424 u from qb_424_0)
def pQ_425 (u : sCu) : Prop := ∃ (SM : List sIn) (H : gHt) (cu : List sCu) (n : Nat), (∀ I ∈ SM, sInOk pPT I) ∧ (∀ v ∈ cu, v ∈ us_425) ∧ sWhU pPT SM H i_425 (mR pm_122) cu n u = true
theorem q_425_0 : pQ_425 u_425_0 := ⟨_, _, _, _, (pS_nil), (pV_cons (List.mem_of_getElem? (i := 2) rfl) (pV_cons (List.mem_of_getElem? (i := 3) rfl) (pV_cons (List.mem_of_getElem? (i := 1) rfl) (pV_nil)))), f_425_0⟩
theorem q_425_1 : pQ_425 u_425_1 := ⟨_, _, _, _, (pS_nil), (pV_cons (List.mem_of_getElem? (i := 2) rfl) (pV_nil)), f_425_1⟩
theorem q_425_2 : pQ_425 u_425_2 := ⟨_, _, _, _, (pS_nil), (pV_cons (List.mem_of_getElem? (i := 0) rfl) (pV_nil)), f_425_2⟩
theorem q_425_3 : pQ_425 u_425_3 := ⟨_, _, _, _, (pS_nil), (pV_cons (List.mem_of_getElem? (i := 2) rfl) (pV_nil)), f_425_3⟩
theorem qb_425_0 : ∀ u ∈ [u_425_0, u_425_1, u_425_2, u_425_3], pQ_425 u := pU_cons q_425_0 (pU_cons q_425_1 (pU_cons q_425_2 (pU_cons q_425_3 (pU_nil))))
theorem ok_425 : sInOk pPT i_425 := sInst3 (M := pm_122) (cus := us_425) pOk pg_122 (by decide +kernel) ⟨_, _, _, _, (pS_nil), (pV_cons (List.mem_of_getElem? (i := 0) rfl) (pV_nil)), e_425⟩ (show ∀ u ∈ us_425, pQ_425 u from qb_425_0)
def pQ_426 (u : sCu) : Prop := ∃ (SM : List sIn) (H : gHt) (cu : List sCu) (n : Nat), (∀ I ∈ SM, sInOk pPT I) ∧ (∀ v ∈ cu, v ∈ us_426) ∧ sWhU pPT SM H i_426 (mR pm_117) cu n u = true
theorem q_426_0 : pQ_426 u_426_0 := ⟨_, _, _, _, (pS_nil), (pV_cons (List.mem_of_getElem? (i := 1) rfl) (pV_cons (List.mem_of_getElem? (i := 2) rfl) (pV_nil))), f_426_0⟩
theorem q_426_1 : pQ_426 u_426_1 := ⟨_, _, _, _, (pS_nil), (pV_cons (List.mem_of_getElem? (i := 2) rfl) (pV_nil)), f_426_1⟩
theorem q_426_2 : pQ_426 u_426_2 := ⟨_, _, _, _, (pS_nil), (pV_cons (List.mem_of_getElem? (i := 3) rfl) (pV_nil)), f_426_2⟩
theorem q_426_3 : pQ_426 u_426_3 := ⟨_, _, _, _, (pS_nil), (pV_cons (List.mem_of_getElem? (i := 4) rfl) (pV_nil)), f_426_3⟩
theorem q_426_4 : pQ_426 u_426_4 := ⟨_, _, _, _, (pS_nil), (pV_cons (List.mem_of_getElem? (i := 5) rfl) (pV_nil)), f_426_4⟩
theorem q_426_5 : pQ_426 u_426_5 := ⟨_, _, _, _, (pS_cons ok_425 (pS_nil)), (pV_nil), f_426_5⟩
theorem qb_426_0 : ∀ u ∈ [u_426_0, u_426_1, u_426_2, u_426_3, u_426_4, u_426_5], pQ_426 u := pU_cons q_426_0 (pU_cons q_426_1 (pU_cons q_426_2 (pU_cons q_426_3 (pU_cons q_426_4 (pU_cons q_426_5 (pU_nil))))))
theorem ok_426 : sInOk pPT i_426 := sInst3 (M := pm_117) (cus := us_426) pOk pg_117 (by decide +kernel) ⟨_, _, _, _, (pS_nil), (pV_cons (List.mem_of_getElem? (i := 0) rfl) (pV_nil)), e_426⟩ (show ∀ u ∈ us_426, pQ_426 u from qb_426_0)
def pQ_427 (u : sCu) : Prop := ∃ (SM : List sIn) (H : gHt) (cu : List sCu) (n : Nat), (∀ I ∈ SM, sInOk pPT I) ∧ (∀ v ∈ cu, v ∈ us_427) ∧ sWhU pPT SM H i_427 (mR pm_55) cu n u = true
theorem q_427_0 : pQ_427 u_427_0 := ⟨_, _, _, _, (pS_nil), (pV_nil), f_427_0⟩
theorem qb_427_0 : ∀ u ∈ [u_427_0], pQ_427 u := pU_cons q_427_0 (pU_nil)
theorem ok_427 : sInOk pPT i_427 := sInst3 (M := pm_55) (cus := us_427) pOk pg_55 (by decide +kernel) ⟨_, _, _, _, (pS_cons ok_426 (pS_nil)), (pV_cons (List.mem_of_getElem? (i := 0) rfl) (pV_nil)), e_427⟩ (show ∀ u ∈ us_427, pQ_427 u from qb_427_0)
def pQ_428 (u : sCu) : Prop := ∃ (SM : List sIn) (H : gHt) (cu : List sCu) (n : Nat), (∀ I ∈ SM, sInOk pPT I) ∧ (∀ v ∈ cu, v ∈ us_428) ∧ sWhU pPT SM H i_428 (mR pm_116) cu n u = true
theorem q_428_0 : pQ_428 u_428_0 := ⟨_, _, _, _, (pS_nil), (pV_cons (List.mem_of_getElem? (i := 1) rfl) (pV_cons (List.mem_of_getElem? (i := 0) rfl) (pV_nil))), f_428_0⟩
theorem q_428_1 : pQ_428 u_428_1 := ⟨_, _, _, _, (pS_nil), (pV_cons (List.mem_of_getElem? (i := 2) rfl) (pV_nil)), f_428_1⟩
theorem q_428_2 : pQ_428 u_428_2 := ⟨_, _, _, _, (pS_nil), (pV_cons (List.mem_of_getElem? (i := 5) rfl) (pV_cons (List.mem_of_getElem? (i := 3) rfl) (pV_cons (List.mem_of_getElem? (i := 4) rfl) (pV_nil)))), f_428_2⟩
theorem q_428_3 : pQ_428 u_428_3 := ⟨_, _, _, _, (pS_nil), (pV_cons (List.mem_of_getElem? (i := 2) rfl) (pV_nil)), f_428_3⟩
theorem q_428_4 : pQ_428 u_428_4 := ⟨_, _, _, _, (pS_nil), (pV_cons (List.mem_of_getElem? (i := 3) rfl) (pV_nil)), f_428_4⟩
theorem q_428_5 : pQ_428 u_428_5 := ⟨_, _, _, _, (pS_cons ok_427 (pS_nil)), (pV_cons (List.mem_of_getElem? (i := 6) rfl) (pV_cons (List.mem_of_getElem? (i := 7) rfl) (pV_nil))), f_428_5⟩
theorem q_428_6 : pQ_428 u_428_6 := ⟨_, _, _, _, (pS_nil), (pV_cons (List.mem_of_getElem? (i := 1) rfl) (pV_nil)), f_428_6⟩
theorem q_428_7 : pQ_428 u_428_7 := ⟨_, _, _, _, (pS_nil), (pV_cons (List.mem_of_getElem? (i := 5) rfl) (pV_nil)), f_428_7⟩
theorem qb_428_0 : ∀ u ∈ [u_428_0, u_428_1, u_428_2, u_428_3, u_428_4, u_428_5, u_428_6, u_428_7], pQ_428 u := pU_cons q_428_0 (pU_cons q_428_1 (pU_cons q_428_2 (pU_cons q_428_3 (pU_cons q_428_4 (pU_cons q_428_5 (pU_cons q_428_6 (pU_cons q_428_7 (pU_nil))))))))
theorem ok_428 : sInOk pPT i_428 := sInst3 (M := pm_116) (cus := us_428) pOk pg_116 (by decide +kernel) ⟨_, _, _, _, (pS_cons ok_424 (pS_nil)), (pV_cons (List.mem_of_getElem? (i := 0) rfl) (pV_nil)), e_428⟩ (show ∀ u ∈ us_428, pQ_428 u from qb_428_0)
def pQ_429 (u : sCu) : Prop := ∃ (SM : List sIn) (H : gHt) (cu : List sCu) (n : Nat), (∀ I ∈ SM, sInOk pPT I) ∧ (∀ v ∈ cu, v ∈ us_429) ∧ sWhU pPT SM H i_429 (mR pm_113) cu n u = true
theorem q_429_0 : pQ_429 u_429_0 := ⟨_, _, _, _, (pS_cons ok_428 (pS_nil)), (pV_cons (List.mem_of_getElem? (i := 1) rfl) (pV_nil)), f_429_0⟩
theorem q_429_1 : pQ_429 u_429_1 := ⟨_, _, _, _, (pS_nil), (pV_cons (List.mem_of_getElem? (i := 0) rfl) (pV_cons (List.mem_of_getElem? (i := 2) rfl) (pV_nil))), f_429_1⟩
theorem q_429_2 : pQ_429 u_429_2 := ⟨_, _, _, _, (pS_nil), (pV_cons (List.mem_of_getElem? (i := 3) rfl) (pV_nil)), f_429_2⟩
theorem q_429_3 : pQ_429 u_429_3 := ⟨_, _, _, _, (pS_nil), (pV_cons (List.mem_of_getElem? (i := 1) rfl) (pV_nil)), f_429_3⟩
theorem qb_429_0 : ∀ u ∈ [u_429_0, u_429_1, u_429_2, u_429_3], pQ_429 u := pU_cons q_429_0 (pU_cons q_429_1 (pU_cons q_429_2 (pU_cons q_429_3 (pU_nil))))
theorem ok_429 : sInOk pPT i_429 := sInst3 (M := pm_113) (cus := us_429) pOk pg_113 (by decide +kernel) ⟨_, _, _, _, (pS_nil), (pV_cons (List.mem_of_getElem? (i := 0) rfl) (pV_nil)), e_429⟩ (show ∀ u ∈ us_429, pQ_429 u from qb_429_0)
def pQ_430 (u : sCu) : Prop := ∃ (SM : List sIn) (H : gHt) (cu : List sCu) (n : Nat), (∀ I ∈ SM, sInOk pPT I) ∧ (∀ v ∈ cu, v ∈ us_430) ∧ sWhU pPT SM H i_430 (mR pm_60) cu n u = true
theorem q_430_0 : pQ_430 u_430_0 := ⟨_, _, _, _, (pS_nil), (pV_cons (List.mem_of_getElem? (i := 1) rfl) (pV_nil)), f_430_0⟩
theorem q_430_1 : pQ_430 u_430_1 := ⟨_, _, _, _, (pS_nil), (pV_cons (List.mem_of_getElem? (i := 0) rfl) (pV_nil)), f_430_1⟩
theorem qb_430_0 : ∀ u ∈ [u_430_0, u_430_1], pQ_430 u := pU_cons q_430_0 (pU_cons q_430_1 (pU_nil))
theorem ok_430 : sInOk pPT i_430 := sInst3 (M := pm_60) (cus := us_430) pOk pg_60 (by decide +kernel) ⟨_, _, _, _, (pS_cons ok_429 (pS_nil)), (pV_cons (List.mem_of_getElem? (i := 0) rfl) (pV_nil)), e_430⟩ (show ∀ u ∈ us_430, pQ_430 u from qb_430_0)
def pQ_431 (u : sCu) : Prop := ∃ (SM : List sIn) (H : gHt) (cu : List sCu) (n : Nat), (∀ I ∈ SM, sInOk pPT I) ∧ (∀ v ∈ cu, v ∈ us_431) ∧ sWhU pPT SM H i_431 (mR pm_125) cu n u = true
theorem q_431_0 : pQ_431 u_431_0 := ⟨_, _, _, _, (pS_nil), (pV_nil), f_431_0⟩
theorem q_431_1 : pQ_431 u_431_1 := ⟨_, _, _, _, (pS_nil), (pV_cons (List.mem_of_getElem? (i := 2) rfl) (pV_nil)), f_431_1⟩
theorem q_431_2 : pQ_431 u_431_2 := ⟨_, _, _, _, (pS_cons ok_430 (pS_nil)), (pV_cons (List.mem_of_getElem? (i := 1) rfl) (pV_cons (List.mem_of_getElem? (i := 3) rfl) (pV_cons (List.mem_of_getElem? (i := 4) rfl) (pV_nil)))), f_431_2⟩
theorem q_431_3 : pQ_431 u_431_3 := ⟨_, _, _, _, (pS_nil), (pV_cons (List.mem_of_getElem? (i := 4) rfl) (pV_nil)), f_431_3⟩
theorem q_431_4 : pQ_431 u_431_4 := ⟨_, _, _, _, (pS_nil), (pV_cons (List.mem_of_getElem? (i := 2) rfl) (pV_nil)), f_431_4⟩
theorem qb_431_0 : ∀ u ∈ [u_431_0, u_431_1, u_431_2, u_431_3, u_431_4], pQ_431 u := pU_cons q_431_0 (pU_cons q_431_1 (pU_cons q_431_2 (pU_cons q_431_3 (pU_cons q_431_4 (pU_nil)))))
theorem ok_431 : sInOk pPT i_431 := sInst3 (M := pm_125) (cus := us_431) pOk pg_125 (by decide +kernel) ⟨_, _, _, _, (pS_cons ok_423 (pS_nil)), (pV_cons (List.mem_of_getElem? (i := 0) rfl) (pV_cons (List.mem_of_getElem? (i := 1) rfl) (pV_nil))), e_431⟩ (show ∀ u ∈ us_431, pQ_431 u from qb_431_0)
def pQ_432 (u : sCu) : Prop := ∃ (SM : List sIn) (H : gHt) (cu : List sCu) (n : Nat), (∀ I ∈ SM, sInOk pPT I) ∧ (∀ v ∈ cu, v ∈ us_432) ∧ sWhU pPT SM H i_432 (mR pm_134) cu n u = true
theorem q_432_0 : pQ_432 u_432_0 := ⟨_, _, _, _, (pS_cons ok_379 (pS_nil)), (pV_cons (List.mem_of_getElem? (i := 1) rfl) (pV_cons (List.mem_of_getElem? (i := 2) rfl) (pV_nil))), f_432_0⟩
theorem q_432_1 : pQ_432 u_432_1 := ⟨_, _, _, _, (pS_nil), (pV_cons (List.mem_of_getElem? (i := 0) rfl) (pV_nil)), f_432_1⟩
theorem q_432_2 : pQ_432 u_432_2 := ⟨_, _, _, _, (pS_nil), (pV_cons (List.mem_of_getElem? (i := 1) rfl) (pV_nil)), f_432_2⟩
theorem qb_432_0 : ∀ u ∈ [u_432_0, u_432_1, u_432_2], pQ_432 u := pU_cons q_432_0 (pU_cons q_432_1 (pU_cons q_432_2 (pU_nil)))
theorem ok_432 : sInOk pPT i_432 := sInst3 (M := pm_134) (cus := us_432) pOk pg_134 (by decide +kernel) ⟨_, _, _, _, (pS_nil), (pV_cons (List.mem_of_getElem? (i := 0) rfl) (pV_nil)), e_432⟩ (show ∀ u ∈ us_432, pQ_432 u from qb_432_0)
def pQ_433 (u : sCu) : Prop := ∃ (SM : List sIn) (H : gHt) (cu : List sCu) (n : Nat), (∀ I ∈ SM, sInOk pPT I) ∧ (∀ v ∈ cu, v ∈ us_433) ∧ sWhU pPT SM H i_433 (mR pm_227) cu n u = true
theorem q_433_0 : pQ_433 u_433_0 := ⟨_, _, _, _, (pS_nil), (pV_cons (List.mem_of_getElem? (i := 1) rfl) (pV_nil)), f_433_0⟩
theorem q_433_1 : pQ_433 u_433_1 := ⟨_, _, _, _, (pS_cons ok_378 (pS_cons ok_432 (pS_nil))), (pV_cons (List.mem_of_getElem? (i := 0) rfl) (pV_cons (List.mem_of_getElem? (i := 2) rfl) (pV_nil))), f_433_1⟩
theorem q_433_2 : pQ_433 u_433_2 := ⟨_, _, _, _, (pS_nil), (pV_cons (List.mem_of_getElem? (i := 1) rfl) (pV_nil)), f_433_2⟩
theorem qb_433_0 : ∀ u ∈ [u_433_0, u_433_1, u_433_2], pQ_433 u := pU_cons q_433_0 (pU_cons q_433_1 (pU_cons q_433_2 (pU_nil)))
theorem ok_433 : sInOk pPT i_433 := sInst3 (M := pm_227) (cus := us_433) pOk pg_227 (by decide +kernel) ⟨_, _, _, _, (pS_nil), (pV_cons (List.mem_of_getElem? (i := 0) rfl) (pV_nil)), e_433⟩ (show ∀ u ∈ us_433, pQ_433 u from qb_433_0)
def pQ_434 (u : sCu) : Prop := ∃ (SM : List sIn) (H : gHt) (cu : List sCu) (n : Nat), (∀ I ∈ SM, sInOk pPT I) ∧ (∀ v ∈ cu, v ∈ us_434) ∧ sWhU pPT SM H i_434 (mR pm_228) cu n u = true
theorem q_434_0 : pQ_434 u_434_0 := ⟨_, _, _, _, (pS_nil), (pV_cons (List.mem_of_getElem? (i := 2) rfl) (pV_nil)), f_434_0⟩
theorem q_434_1 : pQ_434 u_434_1 := ⟨_, _, _, _, (pS_nil), (pV_nil), f_434_1⟩
theorem q_434_2 : pQ_434 u_434_2 := ⟨_, _, _, _, (pS_nil), (pV_cons (List.mem_of_getElem? (i := 3) rfl) (pV_nil)), f_434_2⟩
theorem q_434_3 : pQ_434 u_434_3 := ⟨_, _, _, _, (pS_nil), (pV_cons (List.mem_of_getElem? (i := 0) rfl) (pV_nil)), f_434_3⟩
theorem qb_434_0 : ∀ u ∈ [u_434_0, u_434_1, u_434_2, u_434_3], pQ_434 u := pU_cons q_434_0 (pU_cons q_434_1 (pU_cons q_434_2 (pU_cons q_434_3 (pU_nil))))
theorem ok_434 : sInOk pPT i_434 := sInst3 (M := pm_228) (cus := us_434) pOk pg_228 (by decide +kernel) ⟨_, _, _, _, (pS_nil), (pV_cons (List.mem_of_getElem? (i := 0) rfl) (pV_cons (List.mem_of_getElem? (i := 1) rfl) (pV_nil))), e_434⟩ (show ∀ u ∈ us_434, pQ_434 u from qb_434_0)
def pQ_435 (u : sCu) : Prop := ∃ (SM : List sIn) (H : gHt) (cu : List sCu) (n : Nat), (∀ I ∈ SM, sInOk pPT I) ∧ (∀ v ∈ cu, v ∈ us_435) ∧ sWhU pPT SM H i_435 (mR pm_219) cu n u = true
theorem q_435_0 : pQ_435 u_435_0 := ⟨_, _, _, _, (pS_nil), (pV_cons (List.mem_of_getElem? (i := 1) rfl) (pV_nil)), f_435_0⟩
theorem q_435_1 : pQ_435 u_435_1 := ⟨_, _, _, _, (pS_cons ok_434 (pS_nil)), (pV_cons (List.mem_of_getElem? (i := 0) rfl) (pV_cons (List.mem_of_getElem? (i := 1) rfl) (pV_nil))), f_435_1⟩
theorem qb_435_0 : ∀ u ∈ [u_435_0, u_435_1], pQ_435 u := pU_cons q_435_0 (pU_cons q_435_1 (pU_nil))
theorem ok_435 : sInOk pPT i_435 := sInst3 (M := pm_219) (cus := us_435) pOk pg_219 (by decide +kernel) ⟨_, _, _, _, (pS_nil), (pV_cons (List.mem_of_getElem? (i := 0) rfl) (pV_nil)), e_435⟩ (show ∀ u ∈ us_435, pQ_435 u from qb_435_0)
def pQ_436 (u : sCu) : Prop := ∃ (SM : List sIn) (H : gHt) (cu : List sCu) (n : Nat), (∀ I ∈ SM, sInOk pPT I) ∧ (∀ v ∈ cu, v ∈ us_436) ∧ sWhU pPT SM H i_436 (mR pm_216) cu n u = true
theorem q_436_0 : pQ_436 u_436_0 := ⟨_, _, _, _, (pS_nil), (pV_cons (List.mem_of_getElem? (i := 1) rfl) (pV_nil)), f_436_0⟩
theorem q_436_1 : pQ_436 u_436_1 := ⟨_, _, _, _, (pS_cons ok_434 (pS_nil)), (pV_cons (List.mem_of_getElem? (i := 0) rfl) (pV_cons (List.mem_of_getElem? (i := 2) rfl) (pV_nil))), f_436_1⟩
theorem q_436_2 : pQ_436 u_436_2 := ⟨_, _, _, _, (pS_nil), (pV_cons (List.mem_of_getElem? (i := 1) rfl) (pV_nil)), f_436_2⟩
theorem qb_436_0 : ∀ u ∈ [u_436_0, u_436_1, u_436_2], pQ_436 u := pU_cons q_436_0 (pU_cons q_436_1 (pU_cons q_436_2 (pU_nil)))
theorem ok_436 : sInOk pPT i_436 := sInst3 (M := pm_216) (cus := us_436) pOk pg_216 (by decide +kernel) ⟨_, _, _, _, (pS_nil), (pV_cons (List.mem_of_getElem? (i := 0) rfl) (pV_nil)), e_436⟩ (show ∀ u ∈ us_436, pQ_436 u from qb_436_0)
def pQ_437 (u : sCu) : Prop := ∃ (SM : List sIn) (H : gHt) (cu : List sCu) (n : Nat), (∀ I ∈ SM, sInOk pPT I) ∧ (∀ v ∈ cu, v ∈ us_437) ∧ sWhU pPT SM H i_437 (mR pm_244) cu n u = true
theorem q_437_0 : pQ_437 u_437_0 := ⟨_, _, _, _, (pS_cons ok_433 (pS_cons ok_435 (pS_cons ok_436 (pS_nil)))), (pV_nil), f_437_0⟩
theorem qb_437_0 : ∀ u ∈ [u_437_0], pQ_437 u := pU_cons q_437_0 (pU_nil)
theorem ok_437 : sInOk pPT i_437 := sInst3 (M := pm_244) (cus := us_437) pOk pg_244 (by decide +kernel) ⟨_, _, _, _, (pS_nil), (pV_cons (List.mem_of_getElem? (i := 0) rfl) (pV_nil)), e_437⟩ (show ∀ u ∈ us_437, pQ_437 u from qb_437_0)
theorem ok_438 : sInOk pPT i_438 := sInst3 (M := pm_7) (cus := []) pOk pg_7 (by decide +kernel) ⟨_, _, _, _, (pS_cons ok_437 (pS_nil)), pV_nil, e_438⟩ pU_nil
def pQ_439 (u : sCu) : Prop := ∃ (SM : List sIn) (H : gHt) (cu : List sCu) (n : Nat), (∀ I ∈ SM, sInOk pPT I) ∧ (∀ v ∈ cu, v ∈ us_439) ∧ sWhU pPT SM H i_439 (mR pm_51) cu n u = true
theorem q_439_0 : pQ_439 u_439_0 := ⟨_, _, _, _, (pS_nil), (pV_cons (List.mem_of_getElem? (i := 1) rfl) (pV_nil)), f_439_0⟩
theorem q_439_1 : pQ_439 u_439_1 := ⟨_, _, _, _, (pS_cons ok_310 (pS_cons ok_312 (pS_nil))), (pV_nil), f_439_1⟩
theorem qb_439_0 : ∀ u ∈ [u_439_0, u_439_1], pQ_439 u := pU_cons q_439_0 (pU_cons q_439_1 (pU_nil))
theorem ok_439 : sInOk pPT i_439 := sInst3 (M := pm_51) (cus := us_439) pOk pg_51 (by decide +kernel) ⟨_, _, _, _, (pS_nil), (pV_cons (List.mem_of_getElem? (i := 0) rfl) (pV_nil)), e_439⟩ (show ∀ u ∈ us_439, pQ_439 u from qb_439_0)
def pQ_440 (u : sCu) : Prop := ∃ (SM : List sIn) (H : gHt) (cu : List sCu) (n : Nat), (∀ I ∈ SM, sInOk pPT I) ∧ (∀ v ∈ cu, v ∈ us_440) ∧ sWhU pPT SM H i_440 (mR pm_102) cu n u = true
theorem q_440_0 : pQ_440 u_440_0 := ⟨_, _, _, _, (pS_cons ok_439 (pS_nil)), (pV_cons (List.mem_of_getElem? (i := 1) rfl) (pV_nil)), f_440_0⟩
theorem q_440_1 : pQ_440 u_440_1 := ⟨_, _, _, _, (pS_cons ok_439 (pS_nil)), (pV_cons (List.mem_of_getElem? (i := 2) rfl) (pV_nil)), f_440_1⟩
theorem q_440_2 : pQ_440 u_440_2 := ⟨_, _, _, _, (pS_nil), (pV_cons (List.mem_of_getElem? (i := 0) rfl) (pV_nil)), f_440_2⟩
theorem qb_440_0 : ∀ u ∈ [u_440_0, u_440_1, u_440_2], pQ_440 u := pU_cons q_440_0 (pU_cons q_440_1 (pU_cons q_440_2 (pU_nil)))
theorem ok_440 : sInOk pPT i_440 := sInst3 (M := pm_102) (cus := us_440) pOk pg_102 (by decide +kernel) ⟨_, _, _, _, (pS_cons ok_439 (pS_nil)), (pV_cons (List.mem_of_getElem? (i := 0) rfl) (pV_nil)), e_440⟩ (show ∀ u ∈ us_440, pQ_440 u from qb_440_0)
def pQ_441 (u : sCu) : Prop := ∃ (SM : List sIn) (H : gHt) (cu : List sCu) (n : Nat), (∀ I ∈ SM, sInOk pPT I) ∧ (∀ v ∈ cu, v ∈ us_441) ∧ sWhU pPT SM H i_441 (mR pm_52) cu n u = true
theorem q_441_0 : pQ_441 u_441_0 := ⟨_, _, _, _, (pS_nil), (pV_nil), f_441_0⟩
theorem q_441_1 : pQ_441 u_441_1 := ⟨_, _, _, _, (pS_nil), (pV_cons (List.mem_of_getElem? (i := 2) rfl) (pV_nil)), f_441_1⟩
theorem q_441_2 : pQ_441 u_441_2 := ⟨_, _, _, _, (pS_cons ok_440 (pS_nil)), (pV_cons (List.mem_of_getElem? (i := 1) rfl) (pV_cons (List.mem_of_getElem? (i := 3) rfl) (pV_cons (List.mem_of_getElem? (i := 4) rfl) (pV_nil)))), f_441_2⟩
theorem q_441_3 : pQ_441 u_441_3 := ⟨_, _, _, _, (pS_nil), (pV_cons (List.mem_of_getElem? (i := 4) rfl) (pV_nil)), f_441_3⟩
theorem q_441_4 : pQ_441 u_441_4 := ⟨_, _, _, _, (pS_nil), (pV_cons (List.mem_of_getElem? (i := 2) rfl) (pV_nil)), f_441_4⟩
theorem qb_441_0 : ∀ u ∈ [u_441_0, u_441_1, u_441_2, u_441_3, u_441_4], pQ_441 u := pU_cons q_441_0 (pU_cons q_441_1 (pU_cons q_441_2 (pU_cons q_441_3 (pU_cons q_441_4 (pU_nil)))))
theorem ok_441 : sInOk pPT i_441 := sInst3 (M := pm_52) (cus := us_441) pOk pg_52 (by decide +kernel) ⟨_, _, _, _, (pS_nil), (pV_cons (List.mem_of_getElem? (i := 0) rfl) (pV_cons (List.mem_of_getElem? (i := 1) rfl) (pV_nil))), e_441⟩ (show ∀ u ∈ us_441, pQ_441 u from qb_441_0)
def pQ_442 (u : sCu) : Prop := ∃ (SM : List sIn) (H : gHt) (cu : List sCu) (n : Nat), (∀ I ∈ SM, sInOk pPT I) ∧ (∀ v ∈ cu, v ∈ us_442) ∧ sWhU pPT SM H i_442 (mR pm_223) cu n u = true
theorem q_442_0 : pQ_442 u_442_0 := ⟨_, _, _, _, (pS_nil), (pV_cons (List.mem_of_getElem? (i := 1) rfl) (pV_nil)), f_442_0⟩
theorem q_442_1 : pQ_442 u_442_1 := ⟨_, _, _, _, (pS_cons ok_299 (pS_cons ok_378 (pS_cons ok_380 (pS_nil)))), (pV_cons (List.mem_of_getElem? (i := 2) rfl) (pV_nil)), f_442_1⟩
theorem q_442_2 : pQ_442 u_442_2 := ⟨_, _, _, _, (pS_nil), (pV_cons (List.mem_of_getElem? (i := 3) rfl) (pV_nil)), f_442_2⟩
theorem q_442_3 : pQ_442 u_442_3 := ⟨_, _, _, _, (pS_nil), (pV_cons (List.mem_of_getElem? (i := 0) rfl) (pV_nil)), f_442_3⟩
theorem qb_442_0 : ∀ u ∈ [u_442_0, u_442_1, u_442_2, u_442_3], pQ_442 u := pU_cons q_442_0 (pU_cons q_442_1 (pU_cons q_442_2 (pU_cons q_442_3 (pU_nil))))
theorem ok_442 : sInOk pPT i_442 := sInst3 (M := pm_223) (cus := us_442) pOk pg_223 (by decide +kernel) ⟨_, _, _, _, (pS_nil), (pV_cons (List.mem_of_getElem? (i := 0) rfl) (pV_nil)), e_442⟩ (show ∀ u ∈ us_442, pQ_442 u from qb_442_0)
theorem ok_443 : sInOk pPT i_443 := sInst3 (M := pm_272) (cus := []) pOk pg_272 (by decide +kernel) ⟨_, _, _, _, (pS_cons ok_442 (pS_nil)), pV_nil, e_443⟩ pU_nil
theorem ok_444 : sInOk pPT i_444 := sInst3 (M := pm_23) (cus := []) pOk pg_23 (by decide +kernel) ⟨_, _, _, _, (pS_cons ok_443 (pS_nil)), pV_nil, e_444⟩ pU_nil
theorem ok_445 : sInOk pPT i_445 := sInst3 (M := pm_87) (cus := []) pOk pg_87 (by decide +kernel) ⟨_, _, _, _, (pS_nil), pV_nil, e_445⟩ pU_nil
theorem ok_446 : sInOk pPT i_446 := sInst3 (M := pm_121) (cus := []) pOk pg_121 (by decide +kernel) ⟨_, _, _, _, (pS_nil), pV_nil, e_446⟩ pU_nil
def pQ_447 (u : sCu) : Prop := ∃ (SM : List sIn) (H : gHt) (cu : List sCu) (n : Nat), (∀ I ∈ SM, sInOk pPT I) ∧ (∀ v ∈ cu, v ∈ us_447) ∧ sWhU pPT SM H i_447 (mR pm_128) cu n u = true
theorem q_447_0 : pQ_447 u_447_0 := ⟨_, _, _, _, (pS_cons ok_310 (pS_cons ok_312 (pS_cons ok_446 (pS_nil)))), (pV_cons (List.mem_of_getElem? (i := 1) rfl) (pV_nil)), f_447_0⟩
theorem q_447_1 : pQ_447 u_447_1 := ⟨_, _, _, _, (pS_cons ok_311 (pS_nil)), (pV_cons (List.mem_of_getElem? (i := 2) rfl) (pV_nil)), f_447_1⟩
theorem q_447_2 : pQ_447 u_447_2 := ⟨_, _, _, _, (pS_nil), (pV_cons (List.mem_of_getElem? (i := 0) rfl) (pV_nil)), f_447_2⟩
theorem qb_447_0 : ∀ u ∈ [u_447_0, u_447_1, u_447_2], pQ_447 u := pU_cons q_447_0 (pU_cons q_447_1 (pU_cons q_447_2 (pU_nil)))
theorem ok_447 : sInOk pPT i_447 := sInst3 (M := pm_128) (cus := us_447) pOk pg_128 (by decide +kernel) ⟨_, _, _, _, (pS_cons ok_445 (pS_nil)), (pV_cons (List.mem_of_getElem? (i := 0) rfl) (pV_nil)), e_447⟩ (show ∀ u ∈ us_447, pQ_447 u from qb_447_0)
theorem ok_448 : sInOk pPT i_448 := sInst3 (M := pm_87) (cus := []) pOk pg_87 (by decide +kernel) ⟨_, _, _, _, (pS_nil), pV_nil, e_448⟩ pU_nil
def pQ_449 (u : sCu) : Prop := ∃ (SM : List sIn) (H : gHt) (cu : List sCu) (n : Nat), (∀ I ∈ SM, sInOk pPT I) ∧ (∀ v ∈ cu, v ∈ us_449) ∧ sWhU pPT SM H i_449 (mR pm_31) cu n u = true
theorem q_449_0 : pQ_449 u_449_0 := ⟨_, _, _, _, (pS_nil), (pV_cons (List.mem_of_getElem? (i := 0) rfl) (pV_nil)), f_449_0⟩
theorem qb_449_0 : ∀ u ∈ [u_449_0], pQ_449 u := pU_cons q_449_0 (pU_nil)
theorem ok_449 : sInOk pPT i_449 := sInst3 (M := pm_31) (cus := us_449) pOk pg_31 (by decide +kernel) ⟨_, _, _, _, (pS_nil), (pV_cons (List.mem_of_getElem? (i := 0) rfl) (pV_nil)), e_449⟩ (show ∀ u ∈ us_449, pQ_449 u from qb_449_0)
def pQ_450 (u : sCu) : Prop := ∃ (SM : List sIn) (H : gHt) (cu : List sCu) (n : Nat), (∀ I ∈ SM, sInOk pPT I) ∧ (∀ v ∈ cu, v ∈ us_450) ∧ sWhU pPT SM H i_450 (mR pm_31) cu n u = true
theorem q_450_0 : pQ_450 u_450_0 := ⟨_, _, _, _, (pS_nil), (pV_cons (List.mem_of_getElem? (i := 0) rfl) (pV_nil)), f_450_0⟩
theorem qb_450_0 : ∀ u ∈ [u_450_0], pQ_450 u := pU_cons q_450_0 (pU_nil)
theorem ok_450 : sInOk pPT i_450 := sInst3 (M := pm_31) (cus := us_450) pOk pg_31 (by decide +kernel) ⟨_, _, _, _, (pS_nil), (pV_cons (List.mem_of_getElem? (i := 0) rfl) (pV_nil)), e_450⟩ (show ∀ u ∈ us_450, pQ_450 u from qb_450_0)
def pQ_451 (u : sCu) : Prop := ∃ (SM : List sIn) (H : gHt) (cu : List sCu) (n : Nat), (∀ I ∈ SM, sInOk pPT I) ∧ (∀ v ∈ cu, v ∈ us_451) ∧ sWhU pPT SM H i_451 (mR pm_31) cu n u = true
theorem q_451_0 : pQ_451 u_451_0 := ⟨_, _, _, _, (pS_nil), (pV_cons (List.mem_of_getElem? (i := 0) rfl) (pV_nil)), f_451_0⟩
theorem qb_451_0 : ∀ u ∈ [u_451_0], pQ_451 u := pU_cons q_451_0 (pU_nil)
theorem ok_451 : sInOk pPT i_451 := sInst3 (M := pm_31) (cus := us_451) pOk pg_31 (by decide +kernel) ⟨_, _, _, _, (pS_nil), (pV_cons (List.mem_of_getElem? (i := 0) rfl) (pV_nil)), e_451⟩ (show ∀ u ∈ us_451, pQ_451 u from qb_451_0)
def pQ_452 (u : sCu) : Prop := ∃ (SM : List sIn) (H : gHt) (cu : List sCu) (n : Nat), (∀ I ∈ SM, sInOk pPT I) ∧ (∀ v ∈ cu, v ∈ us_452) ∧ sWhU pPT SM H i_452 (mR pm_31) cu n u = true
theorem q_452_0 : pQ_452 u_452_0 := ⟨_, _, _, _, (pS_nil), (pV_cons (List.mem_of_getElem? (i := 0) rfl) (pV_nil)), f_452_0⟩
theorem qb_452_0 : ∀ u ∈ [u_452_0], pQ_452 u := pU_cons q_452_0 (pU_nil)
theorem ok_452 : sInOk pPT i_452 := sInst3 (M := pm_31) (cus := us_452) pOk pg_31 (by decide +kernel) ⟨_, _, _, _, (pS_nil), (pV_cons (List.mem_of_getElem? (i := 0) rfl) (pV_nil)), e_452⟩ (show ∀ u ∈ us_452, pQ_452 u from qb_452_0)
def pQ_453 (u : sCu) : Prop := ∃ (SM : List sIn) (H : gHt) (cu : List sCu) (n : Nat), (∀ I ∈ SM, sInOk pPT I) ∧ (∀ v ∈ cu, v ∈ us_453) ∧ sWhU pPT SM H i_453 (mR pm_31) cu n u = true
theorem q_453_0 : pQ_453 u_453_0 := ⟨_, _, _, _, (pS_nil), (pV_cons (List.mem_of_getElem? (i := 0) rfl) (pV_nil)), f_453_0⟩
theorem qb_453_0 : ∀ u ∈ [u_453_0], pQ_453 u := pU_cons q_453_0 (pU_nil)
theorem ok_453 : sInOk pPT i_453 := sInst3 (M := pm_31) (cus := us_453) pOk pg_31 (by decide +kernel) ⟨_, _, _, _, (pS_nil), (pV_cons (List.mem_of_getElem? (i := 0) rfl) (pV_nil)), e_453⟩ (show ∀ u ∈ us_453, pQ_453 u from qb_453_0)
def pQ_454 (u : sCu) : Prop := ∃ (SM : List sIn) (H : gHt) (cu : List sCu) (n : Nat), (∀ I ∈ SM, sInOk pPT I) ∧ (∀ v ∈ cu, v ∈ us_454) ∧ sWhU pPT SM H i_454 (mR pm_31) cu n u = true
theorem q_454_0 : pQ_454 u_454_0 := ⟨_, _, _, _, (pS_nil), (pV_cons (List.mem_of_getElem? (i := 0) rfl) (pV_nil)), f_454_0⟩
theorem qb_454_0 : ∀ u ∈ [u_454_0], pQ_454 u := pU_cons q_454_0 (pU_nil)
theorem ok_454 : sInOk pPT i_454 := sInst3 (M := pm_31) (cus := us_454) pOk pg_31 (by decide +kernel) ⟨_, _, _, _, (pS_nil), (pV_cons (List.mem_of_getElem? (i := 0) rfl) (pV_nil)), e_454⟩ (show ∀ u ∈ us_454, pQ_454 u from qb_454_0)
theorem ok_455 : sInOk pPT i_455 := sInst3 (M := pm_56) (cus := []) pOk pg_56 (by decide +kernel) ⟨_, _, _, _, (pS_cons ok_448 (pS_cons ok_449 (pS_cons ok_450 (pS_cons ok_451 (pS_cons ok_452 (pS_cons ok_453 (pS_cons ok_454 (pS_nil)))))))), pV_nil, e_455⟩ pU_nil
theorem ok_456 : sInOk pPT i_456 := sInst3 (M := pm_260) (cus := []) pOk pg_260 (by decide +kernel) ⟨_, _, _, _, (pS_cons ok_111 (pS_nil)), pV_nil, e_456⟩ pU_nil
theorem ok_457 : sInOk pPT i_457 := sInst3 (M := pm_121) (cus := []) pOk pg_121 (by decide +kernel) ⟨_, _, _, _, (pS_nil), pV_nil, e_457⟩ pU_nil
def pQ_458 (u : sCu) : Prop := ∃ (SM : List sIn) (H : gHt) (cu : List sCu) (n : Nat), (∀ I ∈ SM, sInOk pPT I) ∧ (∀ v ∈ cu, v ∈ us_458) ∧ sWhU pPT SM H i_458 (mR pm_31) cu n u = true
theorem q_458_0 : pQ_458 u_458_0 := ⟨_, _, _, _, (pS_nil), (pV_cons (List.mem_of_getElem? (i := 0) rfl) (pV_nil)), f_458_0⟩
theorem qb_458_0 : ∀ u ∈ [u_458_0], pQ_458 u := pU_cons q_458_0 (pU_nil)
theorem ok_458 : sInOk pPT i_458 := sInst3 (M := pm_31) (cus := us_458) pOk pg_31 (by decide +kernel) ⟨_, _, _, _, (pS_nil), (pV_cons (List.mem_of_getElem? (i := 0) rfl) (pV_nil)), e_458⟩ (show ∀ u ∈ us_458, pQ_458 u from qb_458_0)
def pQ_459 (u : sCu) : Prop := ∃ (SM : List sIn) (H : gHt) (cu : List sCu) (n : Nat), (∀ I ∈ SM, sInOk pPT I) ∧ (∀ v ∈ cu, v ∈ us_459) ∧ sWhU pPT SM H i_459 (mR pm_31) cu n u = true
theorem q_459_0 : pQ_459 u_459_0 := ⟨_, _, _, _, (pS_nil), (pV_cons (List.mem_of_getElem? (i := 0) rfl) (pV_nil)), f_459_0⟩
theorem qb_459_0 : ∀ u ∈ [u_459_0], pQ_459 u := pU_cons q_459_0 (pU_nil)
theorem ok_459 : sInOk pPT i_459 := sInst3 (M := pm_31) (cus := us_459) pOk pg_31 (by decide +kernel) ⟨_, _, _, _, (pS_nil), (pV_cons (List.mem_of_getElem? (i := 0) rfl) (pV_nil)), e_459⟩ (show ∀ u ∈ us_459, pQ_459 u from qb_459_0)
def pQ_460 (u : sCu) : Prop := ∃ (SM : List sIn) (H : gHt) (cu : List sCu) (n : Nat), (∀ I ∈ SM, sInOk pPT I) ∧ (∀ v ∈ cu, v ∈ us_460) ∧ sWhU pPT SM H i_460 (mR pm_31) cu n u = true
theorem q_460_0 : pQ_460 u_460_0 := ⟨_, _, _, _, (pS_nil), (pV_cons (List.mem_of_getElem? (i := 0) rfl) (pV_nil)), f_460_0⟩
theorem qb_460_0 : ∀ u ∈ [u_460_0], pQ_460 u := pU_cons q_460_0 (pU_nil)
theorem ok_460 : sInOk pPT i_460 := sInst3 (M := pm_31) (cus := us_460) pOk pg_31 (by decide +kernel) ⟨_, _, _, _, (pS_nil), (pV_cons (List.mem_of_getElem? (i := 0) rfl) (pV_nil)), e_460⟩ (show ∀ u ∈ us_460, pQ_460 u from qb_460_0)
def pQ_461 (u : sCu) : Prop := ∃ (SM : List sIn) (H : gHt) (cu : List sCu) (n : Nat), (∀ I ∈ SM, sInOk pPT I) ∧ (∀ v ∈ cu, v ∈ us_461) ∧ sWhU pPT SM H i_461 (mR pm_31) cu n u = true
theorem q_461_0 : pQ_461 u_461_0 := ⟨_, _, _, _, (pS_nil), (pV_cons (List.mem_of_getElem? (i := 0) rfl) (pV_nil)), f_461_0⟩
theorem qb_461_0 : ∀ u ∈ [u_461_0], pQ_461 u := pU_cons q_461_0 (pU_nil)
theorem ok_461 : sInOk pPT i_461 := sInst3 (M := pm_31) (cus := us_461) pOk pg_31 (by decide +kernel) ⟨_, _, _, _, (pS_nil), (pV_cons (List.mem_of_getElem? (i := 0) rfl) (pV_nil)), e_461⟩ (show ∀ u ∈ us_461, pQ_461 u from qb_461_0)
def pQ_462 (u : sCu) : Prop := ∃ (SM : List sIn) (H : gHt) (cu : List sCu) (n : Nat), (∀ I ∈ SM, sInOk pPT I) ∧ (∀ v ∈ cu, v ∈ us_462) ∧ sWhU pPT SM H i_462 (mR pm_31) cu n u = true
theorem q_462_0 : pQ_462 u_462_0 := ⟨_, _, _, _, (pS_nil), (pV_cons (List.mem_of_getElem? (i := 0) rfl) (pV_nil)), f_462_0⟩
theorem qb_462_0 : ∀ u ∈ [u_462_0], pQ_462 u := pU_cons q_462_0 (pU_nil)
theorem ok_462 : sInOk pPT i_462 := sInst3 (M := pm_31) (cus := us_462) pOk pg_31 (by decide +kernel) ⟨_, _, _, _, (pS_nil), (pV_cons (List.mem_of_getElem? (i := 0) rfl) (pV_nil)), e_462⟩ (show ∀ u ∈ us_462, pQ_462 u from qb_462_0)
def pQ_463 (u : sCu) : Prop := ∃ (SM : List sIn) (H : gHt) (cu : List sCu) (n : Nat), (∀ I ∈ SM, sInOk pPT I) ∧ (∀ v ∈ cu, v ∈ us_463) ∧ sWhU pPT SM H i_463 (mR pm_31) cu n u = true
theorem q_463_0 : pQ_463 u_463_0 := ⟨_, _, _, _, (pS_nil), (pV_cons (List.mem_of_getElem? (i := 0) rfl) (pV_nil)), f_463_0⟩
theorem qb_463_0 : ∀ u ∈ [u_463_0], pQ_463 u := pU_cons q_463_0 (pU_nil)
theorem ok_463 : sInOk pPT i_463 := sInst3 (M := pm_31) (cus := us_463) pOk pg_31 (by decide +kernel) ⟨_, _, _, _, (pS_nil), (pV_cons (List.mem_of_getElem? (i := 0) rfl) (pV_nil)), e_463⟩ (show ∀ u ∈ us_463, pQ_463 u from qb_463_0)
theorem ok_464 : sInOk pPT i_464 := sInst3 (M := pm_101) (cus := []) pOk pg_101 (by decide +kernel) ⟨_, _, _, _, (pS_cons ok_457 (pS_cons ok_458 (pS_cons ok_459 (pS_cons ok_460 (pS_cons ok_461 (pS_cons ok_462 (pS_cons ok_463 (pS_nil)))))))), pV_nil, e_464⟩ pU_nil
