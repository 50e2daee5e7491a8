/-! ===== their contracts ===== -/
def pQ_0 (u : sCu) : Prop := ∃ (SM : List sIn) (cu : List sCu) (n : Nat), (∀ I ∈ SM, sInOk pPT I) ∧ (∀ v ∈ cu, v ∈ us_0) ∧ sWkU pPT SM i_0 (mR pm_161) cu n u = true
theorem q_0_0 : pQ_0 u_0_0 := ⟨_, _, _, (pS_nil), (pV_cons (List.mem_of_getElem? (i := 1) rfl) (pV_nil)), f_0_0⟩
theorem q_0_1 : pQ_0 u_0_1 := ⟨_, _, _, (pS_nil), (pV_cons (List.mem_of_getElem? (i := 2) rfl) (pV_nil)), f_0_1⟩
theorem q_0_2 : pQ_0 u_0_2 := ⟨_, _, _, (pS_nil), (pV_cons (List.mem_of_getElem? (i := 3) rfl) (pV_nil)), f_0_2⟩
theorem q_0_3 : pQ_0 u_0_3 := ⟨_, _, _, (pS_nil), (pV_cons (List.mem_of_getElem? (i := 4) rfl) (pV_nil)), f_0_3⟩
theorem q_0_4 : pQ_0 u_0_4 := ⟨_, _, _, (pS_nil), (pV_cons (List.mem_of_getElem? (i := 5) rfl) (pV_nil)), f_0_4⟩
theorem q_0_5 : pQ_0 u_0_5 := ⟨_, _, _, (pS_nil), (pV_cons (List.mem_of_getElem? (i := 6) rfl) (pV_nil)), f_0_5⟩
theorem q_0_6 : pQ_0 u_0_6 := ⟨_, _, _, (pS_nil), (pV_cons (List.mem_of_getElem? (i := 7) rfl) (pV_nil)), f_0_6⟩
theorem q_0_7 : pQ_0 u_0_7 := ⟨_, _, _, (pS_nil), (pV_cons (List.mem_of_getElem? (i := 8) rfl) (pV_nil)), f_0_7⟩
theorem q_0_8 : pQ_0 u_0_8 := ⟨_, _, _, (pS_nil), (pV_cons (List.mem_of_getElem? (i := 9) rfl) (pV_nil)), f_0_8⟩
theorem q_0_9 : pQ_0 u_0_9 := ⟨_, _, _, (pS_nil), (pV_cons (List.mem_of_getElem? (i := 8) rfl) (pV_nil)), f_0_9⟩
theorem qb_0_0 : ∀ u ∈ [u_0_0, u_0_1, u_0_2, u_0_3, u_0_4, u_0_5, u_0_6, u_0_7, u_0_8, u_0_9], pQ_0 u := pU_cons q_0_0 (pU_cons q_0_1 (pU_cons q_0_2 (pU_cons q_0_3 (pU_cons q_0_4 (pU_cons q_0_5 (pU_cons q_0_6 (pU_cons q_0_7 (pU_cons q_0_8 (pU_cons q_0_9 (pU_nil))))))))))
theorem ok_0 : sInOk pPT i_0 := sInst2 (M := pm_161) (cus := us_0) pOk pg_161 (by decide +kernel) ⟨_, _, _, (pS_nil), (pV_cons (List.mem_of_getElem? (i := 0) rfl) (pV_nil)), e_0⟩ (show ∀ u ∈ us_0, pQ_0 u from qb_0_0)
def pQ_1 (u : sCu) : Prop := ∃ (SM : List sIn) (cu : List sCu) (n : Nat), (∀ I ∈ SM, sInOk pPT I) ∧ (∀ v ∈ cu, v ∈ us_1) ∧ sWkU pPT SM i_1 (mR pm_160) cu n u = true
theorem q_1_0 : pQ_1 u_1_0 := ⟨_, _, _, (pS_nil), (pV_cons (List.mem_of_getElem? (i := 1) rfl) (pV_cons (List.mem_of_getElem? (i := 2) rfl) (pV_nil))), f_1_0⟩
theorem q_1_1 : pQ_1 u_1_1 := ⟨_, _, _, (pS_cons ok_0 (pS_nil)), (pV_cons (List.mem_of_getElem? (i := 3) rfl) (pV_cons (List.mem_of_getElem? (i := 4) rfl) (pV_nil))), f_1_1⟩
theorem q_1_2 : pQ_1 u_1_2 := ⟨_, _, _, (pS_nil), (pV_cons (List.mem_of_getElem? (i := 0) rfl) (pV_nil)), f_1_2⟩
theorem q_1_3 : pQ_1 u_1_3 := ⟨_, _, _, (pS_nil), (pV_nil), f_1_3⟩
theorem q_1_4 : pQ_1 u_1_4 := ⟨_, _, _, (pS_nil), (pV_cons (List.mem_of_getElem? (i := 4) rfl) (pV_nil)), f_1_4⟩
theorem qb_1_0 : ∀ u ∈ [u_1_0, u_1_1, u_1_2, u_1_3, u_1_4], pQ_1 u := pU_cons q_1_0 (pU_cons q_1_1 (pU_cons q_1_2 (pU_cons q_1_3 (pU_cons q_1_4 (pU_nil)))))
theorem ok_1 : sInOk pPT i_1 := sInst2 (M := pm_160) (cus := us_1) pOk pg_160 (by decide +kernel) ⟨_, _, _, (pS_nil), (pV_cons (List.mem_of_getElem? (i := 0) rfl) (pV_nil)), e_1⟩ (show ∀ u ∈ us_1, pQ_1 u from qb_1_0)
theorem ok_2 : sInOk pPT i_2 := sInst2 (M := pm_167) (cus := []) pOk pg_167 (by decide +kernel) ⟨_, _, _, (pS_nil), pV_nil, e_2⟩ pU_nil
theorem ok_3 : sInOk pPT i_3 := sInst2 (M := pm_167) (cus := []) pOk pg_167 (by decide +kernel) ⟨_, _, _, (pS_nil), pV_nil, e_3⟩ pU_nil
theorem ok_4 : sInOk pPT i_4 := sInst2 (M := pm_167) (cus := []) pOk pg_167 (by decide +kernel) ⟨_, _, _, (pS_nil), pV_nil, e_4⟩ pU_nil
theorem ok_5 : sInOk pPT i_5 := sInst2 (M := pm_167) (cus := []) pOk pg_167 (by decide +kernel) ⟨_, _, _, (pS_nil), pV_nil, e_5⟩ pU_nil
theorem ok_6 : sInOk pPT i_6 := sInst2 (M := pm_167) (cus := []) pOk pg_167 (by decide +kernel) ⟨_, _, _, (pS_nil), pV_nil, e_6⟩ pU_nil
theorem ok_7 : sInOk pPT i_7 := sInst2 (M := pm_167) (cus := []) pOk pg_167 (by decide +kernel) ⟨_, _, _, (pS_nil), pV_nil, e_7⟩ pU_nil
theorem ok_8 : sInOk pPT i_8 := sInst2 (M := pm_167) (cus := []) pOk pg_167 (by decide +kernel) ⟨_, _, _, (pS_nil), pV_nil, e_8⟩ pU_nil
theorem ok_9 : sInOk pPT i_9 := sInst2 (M := pm_167) (cus := []) pOk pg_167 (by decide +kernel) ⟨_, _, _, (pS_nil), pV_nil, e_9⟩ pU_nil
theorem ok_10 : sInOk pPT i_10 := sInst2 (M := pm_167) (cus := []) pOk pg_167 (by decide +kernel) ⟨_, _, _, (pS_nil), pV_nil, e_10⟩ pU_nil
theorem ok_11 : sInOk pPT i_11 := sInst2 (M := pm_167) (cus := []) pOk pg_167 (by decide +kernel) ⟨_, _, _, (pS_nil), pV_nil, e_11⟩ pU_nil
theorem ok_12 : sInOk pPT i_12 := sInst2 (M := pm_167) (cus := []) pOk pg_167 (by decide +kernel) ⟨_, _, _, (pS_nil), pV_nil, e_12⟩ pU_nil
theorem ok_13 : sInOk pPT i_13 := sInst2 (M := pm_167) (cus := []) pOk pg_167 (by decide +kernel) ⟨_, _, _, (pS_nil), pV_nil, e_13⟩ pU_nil
theorem ok_14 : sInOk pPT i_14 := sInst2 (M := pm_167) (cus := []) pOk pg_167 (by decide +kernel) ⟨_, _, _, (pS_nil), pV_nil, e_14⟩ pU_nil
theorem ok_15 : sInOk pPT i_15 := sInst2 (M := pm_167) (cus := []) pOk pg_167 (by decide +kernel) ⟨_, _, _, (pS_nil), pV_nil, e_15⟩ pU_nil
theorem ok_16 : sInOk pPT i_16 := sInst2 (M := pm_167) (cus := []) pOk pg_167 (by decide +kernel) ⟨_, _, _, (pS_nil), pV_nil, e_16⟩ pU_nil
theorem ok_17 : sInOk pPT i_17 := sInst2 (M := pm_167) (cus := []) pOk pg_167 (by decide +kernel) ⟨_, _, _, (pS_nil), pV_nil, e_17⟩ pU_nil
theorem ok_18 : sInOk pPT i_18 := sInst2 (M := pm_167) (cus := []) pOk pg_167 (by decide +kernel) ⟨_, _, _, (pS_nil), pV_nil, e_18⟩ pU_nil
theorem ok_19 : sInOk pPT i_19 := sInst2 (M := pm_167) (cus := []) pOk pg_167 (by decide +kernel) ⟨_, _, _, (pS_nil), pV_nil, e_19⟩ pU_nil
theorem ok_20 : sInOk pPT i_20 := sInst2 (M := pm_185) (cus := []) pOk pg_185 (by decide +kernel) ⟨_, _, _, (pS_cons ok_1 (pS_cons ok_12 (pS_cons ok_13 (pS_cons ok_14 (pS_cons ok_15 (pS_cons ok_16 (pS_cons ok_17 (pS_cons ok_18 (pS_cons ok_19 (pS_nil)))))))))), pV_nil, e_20⟩ pU_nil
def pQ_21 (u : sCu) : Prop := ∃ (SM : List sIn) (cu : List sCu) (n : Nat), (∀ I ∈ SM, sInOk pPT I) ∧ (∀ v ∈ cu, v ∈ us_21) ∧ sWkU pPT SM i_21 (mR pm_174) cu n u = true
theorem q_21_0 : pQ_21 u_21_0 := ⟨_, _, _, (pS_nil), (pV_cons (List.mem_of_getElem? (i := 1) rfl) (pV_nil)), f_21_0⟩
theorem q_21_1 : pQ_21 u_21_1 := ⟨_, _, _, (pS_nil), (pV_nil), f_21_1⟩
theorem qb_21_0 : ∀ u ∈ [u_21_0, u_21_1], pQ_21 u := pU_cons q_21_0 (pU_cons q_21_1 (pU_nil))
theorem ok_21 : sInOk pPT i_21 := sInst2 (M := pm_174) (cus := us_21) pOk pg_174 (by decide +kernel) ⟨_, _, _, (pS_nil), (pV_cons (List.mem_of_getElem? (i := 0) rfl) (pV_cons (List.mem_of_getElem? (i := 1) rfl) (pV_nil))), e_21⟩ (show ∀ u ∈ us_21, pQ_21 u from qb_21_0)
theorem ok_22 : sInOk pPT i_22 := sInst2 (M := pm_187) (cus := []) pOk pg_187 (by decide +kernel) ⟨_, _, _, (pS_cons ok_1 (pS_nil)), pV_nil, e_22⟩ pU_nil
def pQ_23 (u : sCu) : Prop := ∃ (SM : List sIn) (cu : List sCu) (n : Nat), (∀ I ∈ SM, sInOk pPT I) ∧ (∀ v ∈ cu, v ∈ us_23) ∧ sWkU pPT SM i_23 (mR pm_178) cu n u = true
theorem q_23_0 : pQ_23 u_23_0 := ⟨_, _, _, (pS_nil), (pV_nil), f_23_0⟩
theorem qb_23_0 : ∀ u ∈ [u_23_0], pQ_23 u := pU_cons q_23_0 (pU_nil)
theorem ok_23 : sInOk pPT i_23 := sInst2 (M := pm_178) (cus := us_23) pOk pg_178 (by decide +kernel) ⟨_, _, _, (pS_cons ok_1 (pS_cons ok_20 (pS_cons ok_21 (pS_cons ok_22 (pS_nil))))), (pV_cons (List.mem_of_getElem? (i := 0) rfl) (pV_nil)), e_23⟩ (show ∀ u ∈ us_23, pQ_23 u from qb_23_0)
def pQ_24 (u : sCu) : Prop := ∃ (SM : List sIn) (cu : List sCu) (n : Nat), (∀ I ∈ SM, sInOk pPT I) ∧ (∀ v ∈ cu, v ∈ us_24) ∧ sWkU pPT SM i_24 (mR pm_179) cu n u = true
theorem q_24_0 : pQ_24 u_24_0 := ⟨_, _, _, (pS_nil), (pV_cons (List.mem_of_getElem? (i := 1) rfl) (pV_cons (List.mem_of_getElem? (i := 2) rfl) (pV_nil))), f_24_0⟩
theorem q_24_1 : pQ_24 u_24_1 := ⟨_, _, _, (pS_nil), (pV_nil), f_24_1⟩
theorem q_24_2 : pQ_24 u_24_2 := ⟨_, _, _, (pS_nil), (pV_cons (List.mem_of_getElem? (i := 3) rfl) (pV_nil)), f_24_2⟩
theorem q_24_3 : pQ_24 u_24_3 := ⟨_, _, _, (pS_cons ok_1 (pS_cons ok_23 (pS_nil))), (pV_cons (List.mem_of_getElem? (i := 0) rfl) (pV_nil)), f_24_3⟩
theorem qb_24_0 : ∀ u ∈ [u_24_0, u_24_1, u_24_2, u_24_3], pQ_24 u := pU_cons q_24_0 (pU_cons q_24_1 (pU_cons q_24_2 (pU_cons q_24_3 (pU_nil))))
theorem ok_24 : sInOk pPT i_24 := sInst2 (M := pm_179) (cus := us_24) pOk pg_179 (by decide +kernel) ⟨_, _, _, (pS_cons ok_23 (pS_nil)), (pV_cons (List.mem_of_getElem? (i := 0) rfl) (pV_nil)), e_24⟩ (show ∀ u ∈ us_24, pQ_24 u from qb_24_0)
def pQ_25 (u : sCu) : Prop := ∃ (SM : List sIn) (cu : List sCu) (n : Nat), (∀ I ∈ SM, sInOk pPT I) ∧ (∀ v ∈ cu, v ∈ us_25) ∧ sWkU pPT SM i_25 (mR pm_183) cu n u = true
theorem q_25_0 : pQ_25 u_25_0 := ⟨_, _, _, (pS_nil), (pV_cons (List.mem_of_getElem? (i := 1) rfl) (pV_cons (List.mem_of_getElem? (i := 2) rfl) (pV_nil))), f_25_0⟩
theorem q_25_1 : pQ_25 u_25_1 := ⟨_, _, _, (pS_nil), (pV_nil), f_25_1⟩
theorem q_25_2 : pQ_25 u_25_2 := ⟨_, _, _, (pS_nil), (pV_cons (List.mem_of_getElem? (i := 3) rfl) (pV_nil)), f_25_2⟩
theorem q_25_3 : pQ_25 u_25_3 := ⟨_, _, _, (pS_cons ok_1 (pS_cons ok_24 (pS_nil))), (pV_cons (List.mem_of_getElem? (i := 0) rfl) (pV_nil)), f_25_3⟩
theorem qb_25_0 : ∀ u ∈ [u_25_0, u_25_1, u_25_2, u_25_3], pQ_25 u := pU_cons q_25_0 (pU_cons q_25_1 (pU_cons q_25_2 (pU_cons q_25_3 (pU_nil))))
theorem ok_25 : sInOk pPT i_25 := sInst2 (M := pm_183) (cus := us_25) pOk pg_183 (by decide +kernel) ⟨_, _, _, (pS_cons ok_24 (pS_nil)), (pV_cons (List.mem_of_getElem? (i := 0) rfl) (pV_nil)), e_25⟩ (show ∀ u ∈ us_25, pQ_25 u from qb_25_0)
def pQ_26 (u : sCu) : Prop := ∃ (SM : List sIn) (cu : List sCu) (n : Nat), (∀ I ∈ SM, sInOk pPT I) ∧ (∀ v ∈ cu, v ∈ us_26) ∧ sWkU pPT SM i_26 (mR pm_184) cu n u = true
theorem q_26_0 : pQ_26 u_26_0 := ⟨_, _, _, (pS_cons ok_1 (pS_cons ok_25 (pS_nil))), (pV_cons (List.mem_of_getElem? (i := 1) rfl) (pV_nil)), f_26_0⟩
theorem q_26_1 : pQ_26 u_26_1 := ⟨_, _, _, (pS_nil), (pV_nil), f_26_1⟩
theorem qb_26_0 : ∀ u ∈ [u_26_0, u_26_1], pQ_26 u := pU_cons q_26_0 (pU_cons q_26_1 (pU_nil))
theorem ok_26 : sInOk pPT i_26 := sInst2 (M := pm_184) (cus := us_26) pOk pg_184 (by decide +kernel) ⟨_, _, _, (pS_cons ok_25 (pS_nil)), (pV_cons (List.mem_of_getElem? (i := 0) rfl) (pV_nil)), e_26⟩ (show ∀ u ∈ us_26, pQ_26 u from qb_26_0)
def pQ_27 (u : sCu) : Prop := ∃ (SM : List sIn) (cu : List sCu) (n : Nat), (∀ I ∈ SM, sInOk pPT I) ∧ (∀ v ∈ cu, v ∈ us_27) ∧ sWkU pPT SM i_27 (mR pm_177) cu n u = true
theorem q_27_0 : pQ_27 u_27_0 := ⟨_, _, _, (pS_cons ok_1 (pS_cons ok_11 (pS_nil))), (pV_cons (List.mem_of_getElem? (i := 1) rfl) (pV_cons (List.mem_of_getElem? (i := 0) rfl) (pV_nil))), f_27_0⟩
theorem q_27_1 : pQ_27 u_27_1 := ⟨_, _, _, (pS_cons ok_11 (pS_nil)), (pV_cons (List.mem_of_getElem? (i := 2) rfl) (pV_nil)), f_27_1⟩
theorem q_27_2 : pQ_27 u_27_2 := ⟨_, _, _, (pS_cons ok_26 (pS_nil)), (pV_cons (List.mem_of_getElem? (i := 3) rfl) (pV_nil)), f_27_2⟩
theorem q_27_3 : pQ_27 u_27_3 := ⟨_, _, _, (pS_nil), (pV_cons (List.mem_of_getElem? (i := 3) rfl) (pV_nil)), f_27_3⟩
theorem qb_27_0 : ∀ u ∈ [u_27_0, u_27_1, u_27_2, u_27_3], pQ_27 u := pU_cons q_27_0 (pU_cons q_27_1 (pU_cons q_27_2 (pU_cons q_27_3 (pU_nil))))
theorem ok_27 : sInOk pPT i_27 := sInst2 (M := pm_177) (cus := us_27) pOk pg_177 (by decide +kernel) ⟨_, _, _, (pS_nil), (pV_cons (List.mem_of_getElem? (i := 0) rfl) (pV_nil)), e_27⟩ (show ∀ u ∈ us_27, pQ_27 u from qb_27_0)
theorem ok_28 : sInOk pPT i_28 := sInst2 (M := pm_167) (cus := []) pOk pg_167 (by decide +kernel) ⟨_, _, _, (pS_nil), pV_nil, e_28⟩ pU_nil
def pQ_29 (u : sCu) : Prop := ∃ (SM : List sIn) (cu : List sCu) (n : Nat), (∀ I ∈ SM, sInOk pPT I) ∧ (∀ v ∈ cu, v ∈ us_29) ∧ sWkU pPT SM i_29 (mR pm_173) cu n u = true
theorem q_29_0 : pQ_29 u_29_0 := ⟨_, _, _, (pS_cons ok_1 (pS_cons ok_27 (pS_cons ok_28 (pS_nil)))), (pV_cons (List.mem_of_getElem? (i := 1) rfl) (pV_cons (List.mem_of_getElem? (i := 0) rfl) (pV_nil))), f_29_0⟩
theorem q_29_1 : pQ_29 u_29_1 := ⟨_, _, _, (pS_nil), (pV_nil), f_29_1⟩
theorem qb_29_0 : ∀ u ∈ [u_29_0, u_29_1], pQ_29 u := pU_cons q_29_0 (pU_cons q_29_1 (pU_nil))
theorem ok_29 : sInOk pPT i_29 := sInst2 (M := pm_173) (cus := us_29) pOk pg_173 (by decide +kernel) ⟨_, _, _, (pS_cons ok_27 (pS_nil)), (pV_cons (List.mem_of_getElem? (i := 0) rfl) (pV_nil)), e_29⟩ (show ∀ u ∈ us_29, pQ_29 u from qb_29_0)
theorem ok_30 : sInOk pPT i_30 := sInst2 (M := pm_167) (cus := []) pOk pg_167 (by decide +kernel) ⟨_, _, _, (pS_nil), pV_nil, e_30⟩ pU_nil
def pQ_31 (u : sCu) : Prop := ∃ (SM : List sIn) (cu : List sCu) (n : Nat), (∀ I ∈ SM, sInOk pPT I) ∧ (∀ v ∈ cu, v ∈ us_31) ∧ sWkU pPT SM i_31 (mR pm_174) cu n u = true
theorem q_31_0 : pQ_31 u_31_0 := ⟨_, _, _, (pS_cons ok_1 (pS_cons ok_29 (pS_cons ok_30 (pS_nil)))), (pV_cons (List.mem_of_getElem? (i := 1) rfl) (pV_cons (List.mem_of_getElem? (i := 0) rfl) (pV_nil))), f_31_0⟩
theorem q_31_1 : pQ_31 u_31_1 := ⟨_, _, _, (pS_nil), (pV_nil), f_31_1⟩
theorem qb_31_0 : ∀ u ∈ [u_31_0, u_31_1], pQ_31 u := pU_cons q_31_0 (pU_cons q_31_1 (pU_nil))
theorem ok_31 : sInOk pPT i_31 := sInst2 (M := pm_174) (cus := us_31) pOk pg_174 (by decide +kernel) ⟨_, _, _, (pS_cons ok_29 (pS_nil)), (pV_cons (List.mem_of_getElem? (i := 0) rfl) (pV_nil)), e_31⟩ (show ∀ u ∈ us_31, pQ_31 u from qb_31_0)
theorem ok_32 : sInOk pPT i_32 := sInst2 (M := pm_181) (cus := []) pOk pg_181 (by decide +kernel) ⟨_, _, _, (pS_cons ok_1 (pS_nil)), pV_nil, e_32⟩ pU_nil
def pQ_33 (u : sCu) : Prop := ∃ (SM : List sIn) (cu : List sCu) (n : Nat), (∀ I ∈ SM, sInOk pPT I) ∧ (∀ v ∈ cu, v ∈ us_33) ∧ sWkU pPT SM i_33 (mR pm_178) cu n u = true
theorem q_33_0 : pQ_33 u_33_0 := ⟨_, _, _, (pS_nil), (pV_nil), f_33_0⟩
theorem qb_33_0 : ∀ u ∈ [u_33_0], pQ_33 u := pU_cons q_33_0 (pU_nil)
theorem ok_33 : sInOk pPT i_33 := sInst2 (M := pm_178) (cus := us_33) pOk pg_178 (by decide +kernel) ⟨_, _, _, (pS_cons ok_1 (pS_cons ok_20 (pS_cons ok_22 (pS_cons ok_31 (pS_cons ok_32 (pS_nil)))))), (pV_cons (List.mem_of_getElem? (i := 0) rfl) (pV_nil)), e_33⟩ (show ∀ u ∈ us_33, pQ_33 u from qb_33_0)
def pQ_34 (u : sCu) : Prop := ∃ (SM : List sIn) (cu : List sCu) (n : Nat), (∀ I ∈ SM, sInOk pPT I) ∧ (∀ v ∈ cu, v ∈ us_34) ∧ sWkU pPT SM i_34 (mR pm_179) cu n u = true
theorem q_34_0 : pQ_34 u_34_0 := ⟨_, _, _, (pS_nil), (pV_cons (List.mem_of_getElem? (i := 1) rfl) (pV_cons (List.mem_of_getElem? (i := 2) rfl) (pV_nil))), f_34_0⟩
theorem q_34_1 : pQ_34 u_34_1 := ⟨_, _, _, (pS_nil), (pV_nil), f_34_1⟩
theorem q_34_2 : pQ_34 u_34_2 := ⟨_, _, _, (pS_nil), (pV_cons (List.mem_of_getElem? (i := 3) rfl) (pV_nil)), f_34_2⟩
theorem q_34_3 : pQ_34 u_34_3 := ⟨_, _, _, (pS_cons ok_1 (pS_cons ok_33 (pS_nil))), (pV_cons (List.mem_of_getElem? (i := 0) rfl) (pV_nil)), f_34_3⟩
theorem qb_34_0 : ∀ u ∈ [u_34_0, u_34_1, u_34_2, u_34_3], pQ_34 u := pU_cons q_34_0 (pU_cons q_34_1 (pU_cons q_34_2 (pU_cons q_34_3 (pU_nil))))
theorem ok_34 : sInOk pPT i_34 := sInst2 (M := pm_179) (cus := us_34) pOk pg_179 (by decide +kernel) ⟨_, _, _, (pS_cons ok_33 (pS_nil)), (pV_cons (List.mem_of_getElem? (i := 0) rfl) (pV_nil)), e_34⟩ (show ∀ u ∈ us_34, pQ_34 u from qb_34_0)
def pQ_35 (u : sCu) : Prop := ∃ (SM : List sIn) (cu : List sCu) (n : Nat), (∀ I ∈ SM, sInOk pPT I) ∧ (∀ v ∈ cu, v ∈ us_35) ∧ sWkU pPT SM i_35 (mR pm_183) cu n u = true
theorem q_35_0 : pQ_35 u_35_0 := ⟨_, _, _, (pS_nil), (pV_cons (List.mem_of_getElem? (i := 1) rfl) (pV_cons (List.mem_of_getElem? (i := 2) rfl) (pV_nil))), f_35_0⟩
theorem q_35_1 : pQ_35 u_35_1 := ⟨_, _, _, (pS_nil), (pV_nil), f_35_1⟩
theorem q_35_2 : pQ_35 u_35_2 := ⟨_, _, _, (pS_nil), (pV_cons (List.mem_of_getElem? (i := 3) rfl) (pV_nil)), f_35_2⟩
theorem q_35_3 : pQ_35 u_35_3 := ⟨_, _, _, (pS_cons ok_1 (pS_cons ok_34 (pS_nil))), (pV_cons (List.mem_of_getElem? (i := 0) rfl) (pV_nil)), f_35_3⟩
theorem qb_35_0 : ∀ u ∈ [u_35_0, u_35_1, u_35_2, u_35_3], pQ_35 u := pU_cons q_35_0 (pU_cons q_35_1 (pU_cons q_35_2 (pU_cons q_35_3 (pU_nil))))
theorem ok_35 : sInOk pPT i_35 := sInst2 (M := pm_183) (cus := us_35) pOk pg_183 (by decide +kernel) ⟨_, _, _, (pS_cons ok_34 (pS_nil)), (pV_cons (List.mem_of_getElem? (i := 0) rfl) (pV_nil)), e_35⟩ (show ∀ u ∈ us_35, pQ_35 u from qb_35_0)
def pQ_36 (u : sCu) : Prop := ∃ (SM : List sIn) (cu : List sCu) (n : Nat), (∀ I ∈ SM, sInOk pPT I) ∧ (∀ v ∈ cu, v ∈ us_36) ∧ sWkU pPT SM i_36 (mR pm_184) cu n u = true
theorem q_36_0 : pQ_36 u_36_0 := ⟨_, _, _, (pS_cons ok_1 (pS_cons ok_35 (pS_nil))), (pV_cons (List.mem_of_getElem? (i := 1) rfl) (pV_nil)), f_36_0⟩
theorem q_36_1 : pQ_36 u_36_1 := ⟨_, _, _, (pS_nil), (pV_nil), f_36_1⟩
theorem qb_36_0 : ∀ u ∈ [u_36_0, u_36_1], pQ_36 u := pU_cons q_36_0 (pU_cons q_36_1 (pU_nil))
theorem ok_36 : sInOk pPT i_36 := sInst2 (M := pm_184) (cus := us_36) pOk pg_184 (by decide +kernel) ⟨_, _, _, (pS_cons ok_35 (pS_nil)), (pV_cons (List.mem_of_getElem? (i := 0) rfl) (pV_nil)), e_36⟩ (show ∀ u ∈ us_36, pQ_36 u from qb_36_0)
def pQ_37 (u : sCu) : Prop := ∃ (SM : List sIn) (cu : List sCu) (n : Nat), (∀ I ∈ SM, sInOk pPT I) ∧ (∀ v ∈ cu, v ∈ us_37) ∧ sWkU pPT SM i_37 (mR pm_177) cu n u = true
theorem q_37_0 : pQ_37 u_37_0 := ⟨_, _, _, (pS_cons ok_1 (pS_cons ok_11 (pS_nil))), (pV_cons (List.mem_of_getElem? (i := 1) rfl) (pV_cons (List.mem_of_getElem? (i := 0) rfl) (pV_nil))), f_37_0⟩
theorem q_37_1 : pQ_37 u_37_1 := ⟨_, _, _, (pS_cons ok_11 (pS_nil)), (pV_cons (List.mem_of_getElem? (i := 2) rfl) (pV_nil)), f_37_1⟩
theorem q_37_2 : pQ_37 u_37_2 := ⟨_, _, _, (pS_cons ok_36 (pS_nil)), (pV_cons (List.mem_of_getElem? (i := 3) rfl) (pV_nil)), f_37_2⟩
theorem q_37_3 : pQ_37 u_37_3 := ⟨_, _, _, (pS_nil), (pV_cons (List.mem_of_getElem? (i := 3) rfl) (pV_nil)), f_37_3⟩
theorem qb_37_0 : ∀ u ∈ [u_37_0, u_37_1, u_37_2, u_37_3], pQ_37 u := pU_cons q_37_0 (pU_cons q_37_1 (pU_cons q_37_2 (pU_cons q_37_3 (pU_nil))))
theorem ok_37 : sInOk pPT i_37 := sInst2 (M := pm_177) (cus := us_37) pOk pg_177 (by decide +kernel) ⟨_, _, _, (pS_nil), (pV_cons (List.mem_of_getElem? (i := 0) rfl) (pV_nil)), e_37⟩ (show ∀ u ∈ us_37, pQ_37 u from qb_37_0)
def pQ_38 (u : sCu) : Prop := ∃ (SM : List sIn) (cu : List sCu) (n : Nat), (∀ I ∈ SM, sInOk pPT I) ∧ (∀ v ∈ cu, v ∈ us_38) ∧ sWkU pPT SM i_38 (mR pm_173) cu n u = true
theorem q_38_0 : pQ_38 u_38_0 := ⟨_, _, _, (pS_cons ok_1 (pS_cons ok_28 (pS_cons ok_37 (pS_nil)))), (pV_cons (List.mem_of_getElem? (i := 1) rfl) (pV_cons (List.mem_of_getElem? (i := 0) rfl) (pV_nil))), f_38_0⟩
theorem q_38_1 : pQ_38 u_38_1 := ⟨_, _, _, (pS_nil), (pV_nil), f_38_1⟩
theorem qb_38_0 : ∀ u ∈ [u_38_0, u_38_1], pQ_38 u := pU_cons q_38_0 (pU_cons q_38_1 (pU_nil))
theorem ok_38 : sInOk pPT i_38 := sInst2 (M := pm_173) (cus := us_38) pOk pg_173 (by decide +kernel) ⟨_, _, _, (pS_cons ok_37 (pS_nil)), (pV_cons (List.mem_of_getElem? (i := 0) rfl) (pV_nil)), e_38⟩ (show ∀ u ∈ us_38, pQ_38 u from qb_38_0)
def pQ_39 (u : sCu) : Prop := ∃ (SM : List sIn) (cu : List sCu) (n : Nat), (∀ I ∈ SM, sInOk pPT I) ∧ (∀ v ∈ cu, v ∈ us_39) ∧ sWkU pPT SM i_39 (mR pm_174) cu n u = true
theorem q_39_0 : pQ_39 u_39_0 := ⟨_, _, _, (pS_cons ok_1 (pS_cons ok_30 (pS_cons ok_38 (pS_nil)))), (pV_cons (List.mem_of_getElem? (i := 1) rfl) (pV_cons (List.mem_of_getElem? (i := 0) rfl) (pV_nil))), f_39_0⟩
theorem q_39_1 : pQ_39 u_39_1 := ⟨_, _, _, (pS_nil), (pV_nil), f_39_1⟩
theorem qb_39_0 : ∀ u ∈ [u_39_0, u_39_1], pQ_39 u := pU_cons q_39_0 (pU_cons q_39_1 (pU_nil))
theorem ok_39 : sInOk pPT i_39 := sInst2 (M := pm_174) (cus := us_39) pOk pg_174 (by decide +kernel) ⟨_, _, _, (pS_cons ok_38 (pS_nil)), (pV_cons (List.mem_of_getElem? (i := 0) rfl) (pV_nil)), e_39⟩ (show ∀ u ∈ us_39, pQ_39 u from qb_39_0)
def pQ_40 (u : sCu) : Prop := ∃ (SM : List sIn) (cu : List sCu) (n : Nat), (∀ I ∈ SM, sInOk pPT I) ∧ (∀ v ∈ cu, v ∈ us_40) ∧ sWkU pPT SM i_40 (mR pm_178) cu n u = true
theorem q_40_0 : pQ_40 u_40_0 := ⟨_, _, _, (pS_nil), (pV_nil), f_40_0⟩
theorem qb_40_0 : ∀ u ∈ [u_40_0], pQ_40 u := pU_cons q_40_0 (pU_nil)
theorem ok_40 : sInOk pPT i_40 := sInst2 (M := pm_178) (cus := us_40) pOk pg_178 (by decide +kernel) ⟨_, _, _, (pS_cons ok_1 (pS_cons ok_20 (pS_cons ok_22 (pS_cons ok_32 (pS_cons ok_39 (pS_nil)))))), (pV_cons (List.mem_of_getElem? (i := 0) rfl) (pV_nil)), e_40⟩ (show ∀ u ∈ us_40, pQ_40 u from qb_40_0)
def pQ_41 (u : sCu) : Prop := ∃ (SM : List sIn) (cu : List sCu) (n : Nat), (∀ I ∈ SM, sInOk pPT I) ∧ (∀ v ∈ cu, v ∈ us_41) ∧ sWkU pPT SM i_41 (mR pm_179) cu n u = true
theorem q_41_0 : pQ_41 u_41_0 := ⟨_, _, _, (pS_nil), (pV_cons (List.mem_of_getElem? (i := 1) rfl) (pV_cons (List.mem_of_getElem? (i := 2) rfl) (pV_nil))), f_41_0⟩
theorem q_41_1 : pQ_41 u_41_1 := ⟨_, _, _, (pS_nil), (pV_nil), f_41_1⟩
theorem q_41_2 : pQ_41 u_41_2 := ⟨_, _, _, (pS_nil), (pV_cons (List.mem_of_getElem? (i := 3) rfl) (pV_nil)), f_41_2⟩
theorem q_41_3 : pQ_41 u_41_3 := ⟨_, _, _, (pS_cons ok_1 (pS_cons ok_40 (pS_nil))), (pV_cons (List.mem_of_getElem? (i := 0) rfl) (pV_nil)), f_41_3⟩
theorem qb_41_0 : ∀ u ∈ [u_41_0, u_41_1, u_41_2, u_41_3], pQ_41 u := pU_cons q_41_0 (pU_cons q_41_1 (pU_cons q_41_2 (pU_cons q_41_3 (pU_nil))))
theorem ok_41 : sInOk pPT i_41 := sInst2 (M := pm_179) (cus := us_41) pOk pg_179 (by decide +kernel) ⟨_, _, _, (pS_cons ok_40 (pS_nil)), (pV_cons (List.mem_of_getElem? (i := 0) rfl) (pV_nil)), e_41⟩ (show ∀ u ∈ us_41, pQ_41 u from qb_41_0)
def pQ_42 (u : sCu) : Prop := ∃ (SM : List sIn) (cu : List sCu) (n : Nat), (∀ I ∈ SM, sInOk pPT I) ∧ (∀ v ∈ cu, v ∈ us_42) ∧ sWkU pPT SM i_42 (mR pm_183) cu n u = true
theorem q_42_0 : pQ_42 u_42_0 := ⟨_, _, _, (pS_nil), (pV_cons (List.mem_of_getElem? (i := 1) rfl) (pV_cons (List.mem_of_getElem? (i := 2) rfl) (pV_nil))), f_42_0⟩
theorem q_42_1 : pQ_42 u_42_1 := ⟨_, _, _, (pS_nil), (pV_nil), f_42_1⟩
theorem q_42_2 : pQ_42 u_42_2 := ⟨_, _, _, (pS_nil), (pV_cons (List.mem_of_getElem? (i := 3) rfl) (pV_nil)), f_42_2⟩
theorem q_42_3 : pQ_42 u_42_3 := ⟨_, _, _, (pS_cons ok_1 (pS_cons ok_41 (pS_nil))), (pV_cons (List.mem_of_getElem? (i := 0) rfl) (pV_nil)), f_42_3⟩
theorem qb_42_0 : ∀ u ∈ [u_42_0, u_42_1, u_42_2, u_42_3], pQ_42 u := pU_cons q_42_0 (pU_cons q_42_1 (pU_cons q_42_2 (pU_cons q_42_3 (pU_nil))))
theorem ok_42 : sInOk pPT i_42 := sInst2 (M := pm_183) (cus := us_42) pOk pg_183 (by decide +kernel) ⟨_, _, _, (pS_cons ok_41 (pS_nil)), (pV_cons (List.mem_of_getElem? (i := 0) rfl) (pV_nil)), e_42⟩ (show ∀ u ∈ us_42, pQ_42 u from qb_42_0)
def pQ_43 (u : sCu) : Prop := ∃ (SM : List sIn) (cu : List sCu) (n : Nat), (∀ I ∈ SM, sInOk pPT I) ∧ (∀ v ∈ cu, v ∈ us_43) ∧ sWkU pPT SM i_43 (mR pm_184) cu n u = true
theorem q_43_0 : pQ_43 u_43_0 := ⟨_, _, _, (pS_cons ok_1 (pS_cons ok_42 (pS_nil))), (pV_cons (List.mem_of_getElem? (i := 1) rfl) (pV_nil)), f_43_0⟩
theorem q_43_1 : pQ_43 u_43_1 := ⟨_, _, _, (pS_nil), (pV_nil), f_43_1⟩
theorem qb_43_0 : ∀ u ∈ [u_43_0, u_43_1], pQ_43 u := pU_cons q_43_0 (pU_cons q_43_1 (pU_nil))
theorem ok_43 : sInOk pPT i_43 := sInst2 (M := pm_184) (cus := us_43) pOk pg_184 (by decide +kernel) ⟨_, _, _, (pS_cons ok_42 (pS_nil)), (pV_cons (List.mem_of_getElem? (i := 0) rfl) (pV_nil)), e_43⟩ (show ∀ u ∈ us_43, pQ_43 u from qb_43_0)
def pQ_44 (u : sCu) : Prop := ∃ (SM : List sIn) (cu : List sCu) (n : Nat), (∀ I ∈ SM, sInOk pPT I) ∧ (∀ v ∈ cu, v ∈ us_44) ∧ sWkU pPT SM i_44 (mR pm_177) cu n u = true
theorem q_44_0 : pQ_44 u_44_0 := ⟨_, _, _, (pS_cons ok_1 (pS_cons ok_11 (pS_nil))), (pV_cons (List.mem_of_getElem? (i := 1) rfl) (pV_cons (List.mem_of_getElem? (i := 0) rfl) (pV_nil))), f_44_0⟩
theorem q_44_1 : pQ_44 u_44_1 := ⟨_, _, _, (pS_cons ok_11 (pS_nil)), (pV_cons (List.mem_of_getElem? (i := 2) rfl) (pV_nil)), f_44_1⟩
theorem q_44_2 : pQ_44 u_44_2 := ⟨_, _, _, (pS_cons ok_43 (pS_nil)), (pV_cons (List.mem_of_getElem? (i := 3) rfl) (pV_nil)), f_44_2⟩
theorem q_44_3 : pQ_44 u_44_3 := ⟨_, _, _, (pS_nil), (pV_cons (List.mem_of_getElem? (i := 3) rfl) (pV_nil)), f_44_3⟩
theorem qb_44_0 : ∀ u ∈ [u_44_0, u_44_1, u_44_2, u_44_3], pQ_44 u := pU_cons q_44_0 (pU_cons q_44_1 (pU_cons q_44_2 (pU_cons q_44_3 (pU_nil))))
theorem ok_44 : sInOk pPT i_44 := sInst2 (M := pm_177) (cus := us_44) pOk pg_177 (by decide +kernel) ⟨_, _, _, (pS_nil), (pV_cons (List.mem_of_getElem? (i := 0) rfl) (pV_nil)), e_44⟩ (show ∀ u ∈ us_44, pQ_44 u from qb_44_0)
def pQ_45 (u : sCu) : Prop := ∃ (SM : List sIn) (cu : List sCu) (n : Nat), (∀ I ∈ SM, sInOk pPT I) ∧ (∀ v ∈ cu, v ∈ us_45) ∧ sWkU pPT SM i_45 (mR pm_173) cu n u = true
theorem q_45_0 : pQ_45 u_45_0 := ⟨_, _, _, (pS_cons ok_1 (pS_cons ok_28 (pS_cons ok_44 (pS_nil)))), (pV_cons (List.mem_of_getElem? (i := 1) rfl) (pV_cons (List.mem_of_getElem? (i := 0) rfl) (pV_nil))), f_45_0⟩
theorem q_45_1 : pQ_45 u_45_1 := ⟨_, _, _, (pS_nil), (pV_nil), f_45_1⟩
theorem qb_45_0 : ∀ u ∈ [u_45_0, u_45_1], pQ_45 u := pU_cons q_45_0 (pU_cons q_45_1 (pU_nil))
theorem ok_45 : sInOk pPT i_45 := sInst2 (M := pm_173) (cus := us_45) pOk pg_173 (by decide +kernel) ⟨_, _, _, (pS_cons ok_44 (pS_nil)), (pV_cons (List.mem_of_getElem? (i := 0) rfl) (pV_nil)), e_45⟩ (show ∀ u ∈ us_45, pQ_45 u from qb_45_0)
def pQ_46 (u : sCu) : Prop := ∃ (SM : List sIn) (cu : List sCu) (n : Nat), (∀ I ∈ SM, sInOk pPT I) ∧ (∀ v ∈ cu, v ∈ us_46) ∧ sWkU pPT SM i_46 (mR pm_174) cu n u = true
theorem q_46_0 : pQ_46 u_46_0 := ⟨_, _, _, (pS_cons ok_1 (pS_cons ok_30 (pS_cons ok_45 (pS_nil)))), (pV_cons (List.mem_of_getElem? (i := 1) rfl) (pV_cons (List.mem_of_getElem? (i := 0) rfl) (pV_nil))), f_46_0⟩
theorem q_46_1 : pQ_46 u_46_1 := ⟨_, _, _, (pS_nil), (pV_nil), f_46_1⟩
theorem qb_46_0 : ∀ u ∈ [u_46_0, u_46_1], pQ_46 u := pU_cons q_46_0 (pU_cons q_46_1 (pU_nil))
theorem ok_46 : sInOk pPT i_46 := sInst2 (M := pm_174) (cus := us_46) pOk pg_174 (by decide +kernel) ⟨_, _, _, (pS_cons ok_45 (pS_nil)), (pV_cons (List.mem_of_getElem? (i := 0) rfl) (pV_nil)), e_46⟩ (show ∀ u ∈ us_46, pQ_46 u from qb_46_0)
def pQ_47 (u : sCu) : Prop := ∃ (SM : List sIn) (cu : List sCu) (n : Nat), (∀ I ∈ SM, sInOk pPT I) ∧ (∀ v ∈ cu, v ∈ us_47) ∧ sWkU pPT SM i_47 (mR pm_178) cu n u = true
theorem q_47_0 : pQ_47 u_47_0 := ⟨_, _, _, (pS_nil), (pV_nil), f_47_0⟩
theorem qb_47_0 : ∀ u ∈ [u_47_0], pQ_47 u := pU_cons q_47_0 (pU_nil)
theorem ok_47 : sInOk pPT i_47 := sInst2 (M := pm_178) (cus := us_47) pOk pg_178 (by decide +kernel) ⟨_, _, _, (pS_cons ok_1 (pS_cons ok_20 (pS_cons ok_22 (pS_cons ok_32 (pS_cons ok_46 (pS_nil)))))), (pV_cons (List.mem_of_getElem? (i := 0) rfl) (pV_nil)), e_47⟩ (show ∀ u ∈ us_47, pQ_47 u from qb_47_0)
def pQ_48 (u : sCu) : Prop := ∃ (SM : List sIn) (cu : List sCu) (n : Nat), (∀ I ∈ SM, sInOk pPT I) ∧ (∀ v ∈ cu, v ∈ us_48) ∧ sWkU pPT SM i_48 (mR pm_179) cu n u = true
theorem q_48_0 : pQ_48 u_48_0 := ⟨_, _, _, (pS_nil), (pV_cons (List.mem_of_getElem? (i := 1) rfl) (pV_cons (List.mem_of_getElem? (i := 2) rfl) (pV_nil))), f_48_0⟩
theorem q_48_1 : pQ_48 u_48_1 := ⟨_, _, _, (pS_nil), (pV_nil), f_48_1⟩
theorem q_48_2 : pQ_48 u_48_2 := ⟨_, _, _, (pS_nil), (pV_cons (List.mem_of_getElem? (i := 3) rfl) (pV_nil)), f_48_2⟩
theorem q_48_3 : pQ_48 u_48_3 := ⟨_, _, _, (pS_cons ok_1 (pS_cons ok_47 (pS_nil))), (pV_cons (List.mem_of_getElem? (i := 0) rfl) (pV_nil)), f_48_3⟩
theorem qb_48_0 : ∀ u ∈ [u_48_0, u_48_1, u_48_2, u_48_3], pQ_48 u := pU_cons q_48_0 (pU_cons q_48_1 (pU_cons q_48_2 (pU_cons q_48_3 (pU_nil))))
theorem ok_48 : sInOk pPT i_48 := sInst2 (M := pm_179) (cus := us_48) pOk pg_179 (by decide +kernel) ⟨_, _, _, (pS_cons ok_47 (pS_nil)), (pV_cons (List.mem_of_getElem? (i := 0) rfl) (pV_nil)), e_48⟩ (show ∀ u ∈ us_48, pQ_48 u from qb_48_0)
def pQ_49 (u : sCu) : Prop := ∃ (SM : List sIn) (cu : List sCu) (n : Nat), (∀ I ∈ SM, sInOk pPT I) ∧ (∀ v ∈ cu, v ∈ us_49) ∧ sWkU pPT SM i_49 (mR pm_183) cu n u = true
theorem q_49_0 : pQ_49 u_49_0 := ⟨_, _, _, (pS_nil), (pV_cons (List.mem_of_getElem? (i := 1) rfl) (pV_cons (List.mem_of_getElem? (i := 2) rfl) (pV_nil))), f_49_0⟩
theorem q_49_1 : pQ_49 u_49_1 := ⟨_, _, _, (pS_nil), (pV_nil), f_49_1⟩
theorem q_49_2 : pQ_49 u_49_2 := ⟨_, _, _, (pS_nil), (pV_cons (List.mem_of_getElem? (i := 3) rfl) (pV_nil)), f_49_2⟩
theorem q_49_3 : pQ_49 u_49_3 := ⟨_, _, _, (pS_cons ok_1 (pS_cons ok_48 (pS_nil))), (pV_cons (List.mem_of_getElem? (i := 0) rfl) (pV_nil)), f_49_3⟩
theorem qb_49_0 : ∀ u ∈ [u_49_0, u_49_1, u_49_2, u_49_3], pQ_49 u := pU_cons q_49_0 (pU_cons q_49_1 (pU_cons q_49_2 (pU_cons q_49_3 (pU_nil))))
theorem ok_49 : sInOk pPT i_49 := sInst2 (M := pm_183) (cus := us_49) pOk pg_183 (by decide +kernel) ⟨_, _, _, (pS_cons ok_48 (pS_nil)), (pV_cons (List.mem_of_getElem? (i := 0) rfl) (pV_nil)), e_49⟩ (show ∀ u ∈ us_49, pQ_49 u from qb_49_0)
def pQ_50 (u : sCu) : Prop := ∃ (SM : List sIn) (cu : List sCu) (n : Nat), (∀ I ∈ SM, sInOk pPT I) ∧ (∀ v ∈ cu, v ∈ us_50) ∧ sWkU pPT SM i_50 (mR pm_184) cu n u = true
theorem q_50_0 : pQ_50 u_50_0 := ⟨_, _, _, (pS_cons ok_1 (pS_cons ok_49 (pS_nil))), (pV_cons (List.mem_of_getElem? (i := 1) rfl) (pV_nil)), f_50_0⟩
theorem q_50_1 : pQ_50 u_50_1 := ⟨_, _, _, (pS_nil), (pV_nil), f_50_1⟩
theorem qb_50_0 : ∀ u ∈ [u_50_0, u_50_1], pQ_50 u := pU_cons q_50_0 (pU_cons q_50_1 (pU_nil))
theorem ok_50 : sInOk pPT i_50 := sInst2 (M := pm_184) (cus := us_50) pOk pg_184 (by decide +kernel) ⟨_, _, _, (pS_cons ok_49 (pS_nil)), (pV_cons (List.mem_of_getElem? (i := 0) rfl) (pV_nil)), e_50⟩ (show ∀ u ∈ us_50, pQ_50 u from qb_50_0)
def pQ_51 (u : sCu) : Prop := ∃ (SM : List sIn) (cu : List sCu) (n : Nat), (∀ I ∈ SM, sInOk pPT I) ∧ (∀ v ∈ cu, v ∈ us_51) ∧ sWkU pPT SM i_51 (mR pm_177) cu n u = true
theorem q_51_0 : pQ_51 u_51_0 := ⟨_, _, _, (pS_cons ok_1 (pS_cons ok_11 (pS_nil))), (pV_cons (List.mem_of_getElem? (i := 1) rfl) (pV_cons (List.mem_of_getElem? (i := 0) rfl) (pV_nil))), f_51_0⟩
theorem q_51_1 : pQ_51 u_51_1 := ⟨_, _, _, (pS_cons ok_11 (pS_nil)), (pV_cons (List.mem_of_getElem? (i := 2) rfl) (pV_nil)), f_51_1⟩
theorem q_51_2 : pQ_51 u_51_2 := ⟨_, _, _, (pS_cons ok_50 (pS_nil)), (pV_cons (List.mem_of_getElem? (i := 3) rfl) (pV_nil)), f_51_2⟩
theorem q_51_3 : pQ_51 u_51_3 := ⟨_, _, _, (pS_nil), (pV_cons (List.mem_of_getElem? (i := 3) rfl) (pV_nil)), f_51_3⟩
theorem qb_51_0 : ∀ u ∈ [u_51_0, u_51_1, u_51_2, u_51_3], pQ_51 u := pU_cons q_51_0 (pU_cons q_51_1 (pU_cons q_51_2 (pU_cons q_51_3 (pU_nil))))
theorem ok_51 : sInOk pPT i_51 := sInst2 (M := pm_177) (cus := us_51) pOk pg_177 (by decide +kernel) ⟨_, _, _, (pS_nil), (pV_cons (List.mem_of_getElem? (i := 0) rfl) (pV_nil)), e_51⟩ (show ∀ u ∈ us_51, pQ_51 u from qb_51_0)
def pQ_52 (u : sCu) : Prop := ∃ (SM : List sIn) (cu : List sCu) (n : Nat), (∀ I ∈ SM, sInOk pPT I) ∧ (∀ v ∈ cu, v ∈ us_52) ∧ sWkU pPT SM i_52 (mR pm_173) cu n u = true
theorem q_52_0 : pQ_52 u_52_0 := ⟨_, _, _, (pS_cons ok_1 (pS_cons ok_28 (pS_cons ok_51 (pS_nil)))), (pV_cons (List.mem_of_getElem? (i := 1) rfl) (pV_cons (List.mem_of_getElem? (i := 0) rfl) (pV_nil))), f_52_0⟩
theorem q_52_1 : pQ_52 u_52_1 := ⟨_, _, _, (pS_nil), (pV_nil), f_52_1⟩
theorem qb_52_0 : ∀ u ∈ [u_52_0, u_52_1], pQ_52 u := pU_cons q_52_0 (pU_cons q_52_1 (pU_nil))
theorem ok_52 : sInOk pPT i_52 := sInst2 (M := pm_173) (cus := us_52) pOk pg_173 (by decide +kernel) ⟨_, _, _, (pS_cons ok_51 (pS_nil)), (pV_cons (List.mem_of_getElem? (i := 0) rfl) (pV_nil)), e_52⟩ (show ∀ u ∈ us_52, pQ_52 u from qb_52_0)
def pQ_53 (u : sCu) : Prop := ∃ (SM : List sIn) (cu : List sCu) (n : Nat), (∀ I ∈ SM, sInOk pPT I) ∧ (∀ v ∈ cu, v ∈ us_53) ∧ sWkU pPT SM i_53 (mR pm_174) cu n u = true
theorem q_53_0 : pQ_53 u_53_0 := ⟨_, _, _, (pS_cons ok_1 (pS_cons ok_30 (pS_cons ok_52 (pS_nil)))), (pV_cons (List.mem_of_getElem? (i := 1) rfl) (pV_cons (List.mem_of_getElem? (i := 0) rfl) (pV_nil))), f_53_0⟩
theorem q_53_1 : pQ_53 u_53_1 := ⟨_, _, _, (pS_nil), (pV_nil), f_53_1⟩
theorem qb_53_0 : ∀ u ∈ [u_53_0, u_53_1], pQ_53 u := pU_cons q_53_0 (pU_cons q_53_1 (pU_nil))
theorem ok_53 : sInOk pPT i_53 := sInst2 (M := pm_174) (cus := us_53) pOk pg_174 (by decide +kernel) ⟨_, _, _, (pS_cons ok_52 (pS_nil)), (pV_cons (List.mem_of_getElem? (i := 0) rfl) (pV_nil)), e_53⟩ (show ∀ u ∈ us_53, pQ_53 u from qb_53_0)
def pQ_54 (u : sCu) : Prop := ∃ (SM : List sIn) (cu : List sCu) (n : Nat), (∀ I ∈ SM, sInOk pPT I) ∧ (∀ v ∈ cu, v ∈ us_54) ∧ sWkU pPT SM i_54 (mR pm_178) cu n u = true
theorem q_54_0 : pQ_54 u_54_0 := ⟨_, _, _, (pS_nil), (pV_nil), f_54_0⟩
theorem qb_54_0 : ∀ u ∈ [u_54_0], pQ_54 u := pU_cons q_54_0 (pU_nil)
theorem ok_54 : sInOk pPT i_54 := sInst2 (M := pm_178) (cus := us_54) pOk pg_178 (by decide +kernel) ⟨_, _, _, (pS_cons ok_1 (pS_cons ok_20 (pS_cons ok_22 (pS_cons ok_32 (pS_cons ok_53 (pS_nil)))))), (pV_cons (List.mem_of_getElem? (i := 0) rfl) (pV_nil)), e_54⟩ (show ∀ u ∈ us_54, pQ_54 u from qb_54_0)
def pQ_55 (u : sCu) : Prop := ∃ (SM : List sIn) (cu : List sCu) (n : Nat), (∀ I ∈ SM, sInOk pPT I) ∧ (∀ v ∈ cu, v ∈ us_55) ∧ sWkU pPT SM i_55 (mR pm_179) cu n u = true
theorem q_55_0 : pQ_55 u_55_0 := ⟨_, _, _, (pS_nil), (pV_cons (List.mem_of_getElem? (i := 1) rfl) (pV_cons (List.mem_of_getElem? (i := 2) rfl) (pV_nil))), f_55_0⟩
theorem q_55_1 : pQ_55 u_55_1 := ⟨_, _, _, (pS_nil), (pV_nil), f_55_1⟩
theorem q_55_2 : pQ_55 u_55_2 := ⟨_, _, _, (pS_nil), (pV_cons (List.mem_of_getElem? (i := 3) rfl) (pV_nil)), f_55_2⟩
theorem q_55_3 : pQ_55 u_55_3 := ⟨_, _, _, (pS_cons ok_1 (pS_cons ok_54 (pS_nil))), (pV_cons (List.mem_of_getElem? (i := 0) rfl) (pV_nil)), f_55_3⟩
theorem qb_55_0 : ∀ u ∈ [u_55_0, u_55_1, u_55_2, u_55_3], pQ_55 u := pU_cons q_55_0 (pU_cons q_55_1 (pU_cons q_55_2 (pU_cons q_55_3 (pU_nil))))
theorem ok_55 : sInOk pPT i_55 := sInst2 (M := pm_179) (cus := us_55) pOk pg_179 (by decide +kernel) ⟨_, _, _, (pS_cons ok_54 (pS_nil)), (pV_cons (List.mem_of_getElem? (i := 0) rfl) (pV_nil)), e_55⟩ (show ∀ u ∈ us_55, pQ_55 u from qb_55_0)
def pQ_56 (u : sCu) : Prop := ∃ (SM : List sIn) (cu : List sCu) (n : Nat), (∀ I ∈ SM, sInOk pPT I) ∧ (∀ v ∈ cu, v ∈ us_56) ∧ sWkU pPT SM i_56 (mR pm_183) cu n u = true
theorem q_56_0 : pQ_56 u_56_0 := ⟨_, _, _, (pS_nil), (pV_cons (List.mem_of_getElem? (i := 1) rfl) (pV_cons (List.mem_of_getElem? (i := 2) rfl) (pV_nil))), f_56_0⟩
theorem q_56_1 : pQ_56 u_56_1 := ⟨_, _, _, (pS_nil), (pV_nil), f_56_1⟩
theorem q_56_2 : pQ_56 u_56_2 := ⟨_, _, _, (pS_nil), (pV_cons (List.mem_of_getElem? (i := 3) rfl) (pV_nil)), f_56_2⟩
theorem q_56_3 : pQ_56 u_56_3 := ⟨_, _, _, (pS_cons ok_1 (pS_cons ok_55 (pS_nil))), (pV_cons (List.mem_of_getElem? (i := 0) rfl) (pV_nil)), f_56_3⟩
theorem qb_56_0 : ∀ u ∈ [u_56_0, u_56_1, u_56_2, u_56_3], pQ_56 u := pU_cons q_56_0 (pU_cons q_56_1 (pU_cons q_56_2 (pU_cons q_56_3 (pU_nil))))
theorem ok_56 : sInOk pPT i_56 := sInst2 (M := pm_183) (cus := us_56) pOk pg_183 (by decide +kernel) ⟨_, _, _, (pS_cons ok_55 (pS_nil)), (pV_cons (List.mem_of_getElem? (i := 0) rfl) (pV_nil)), e_56⟩ (show ∀ u ∈ us_56, pQ_56 u from qb_56_0)
def pQ_57 (u : sCu) : Prop := ∃ (SM : List sIn) (cu : List sCu) (n : Nat), (∀ I ∈ SM, sInOk pPT I) ∧ (∀ v ∈ cu, v ∈ us_57) ∧ sWkU pPT SM i_57 (mR pm_184) cu n u = true
theorem q_57_0 : pQ_57 u_57_0 := ⟨_, _, _, (pS_cons ok_1 (pS_cons ok_56 (pS_nil))), (pV_cons (List.mem_of_getElem? (i := 1) rfl) (pV_nil)), f_57_0⟩
theorem q_57_1 : pQ_57 u_57_1 := ⟨_, _, _, (pS_nil), (pV_nil), f_57_1⟩
theorem qb_57_0 : ∀ u ∈ [u_57_0, u_57_1], pQ_57 u := pU_cons q_57_0 (pU_cons q_57_1 (pU_nil))
theorem ok_57 : sInOk pPT i_57 := sInst2 (M := pm_184) (cus := us_57) pOk pg_184 (by decide +kernel) ⟨_, _, _, (pS_cons ok_56 (pS_nil)), (pV_cons (List.mem_of_getElem? (i := 0) rfl) (pV_nil)), e_57⟩ (show ∀ u ∈ us_57, pQ_57 u from qb_57_0)
def pQ_58 (u : sCu) : Prop := ∃ (SM : List sIn) (cu : List sCu) (n : Nat), (∀ I ∈ SM, sInOk pPT I) ∧ (∀ v ∈ cu, v ∈ us_58) ∧ sWkU pPT SM i_58 (mR pm_177) cu n u = true
theorem q_58_0 : pQ_58 u_58_0 := ⟨_, _, _, (pS_cons ok_1 (pS_cons ok_11 (pS_nil))), (pV_cons (List.mem_of_getElem? (i := 1) rfl) (pV_cons (List.mem_of_getElem? (i := 0) rfl) (pV_nil))), f_58_0⟩
theorem q_58_1 : pQ_58 u_58_1 := ⟨_, _, _, (pS_cons ok_11 (pS_nil)), (pV_cons (List.mem_of_getElem? (i := 2) rfl) (pV_nil)), f_58_1⟩
theorem q_58_2 : pQ_58 u_58_2 := ⟨_, _, _, (pS_cons ok_57 (pS_nil)), (pV_cons (List.mem_of_getElem? (i := 3) rfl) (pV_nil)), f_58_2⟩
theorem q_58_3 : pQ_58 u_58_3 := ⟨_, _, _, (pS_nil), (pV_cons (List.mem_of_getElem? (i := 3) rfl) (pV_nil)), f_58_3⟩
theorem qb_58_0 : ∀ u ∈ [u_58_0, u_58_1, u_58_2, u_58_3], pQ_58 u := pU_cons q_58_0 (pU_cons q_58_1 (pU_cons q_58_2 (pU_cons q_58_3 (pU_nil))))
theorem ok_58 : sInOk pPT i_58 := sInst2 (M := pm_177) (cus := us_58) pOk pg_177 (by decide +kernel) ⟨_, _, _, (pS_nil), (pV_cons (List.mem_of_getElem? (i := 0) rfl) (pV_nil)), e_58⟩ (show ∀ u ∈ us_58, pQ_58 u from qb_58_0)
def pQ_59 (u : sCu) : Prop := ∃ (SM : List sIn) (cu : List sCu) (n : Nat), (∀ I ∈ SM, sInOk pPT I) ∧ (∀ v ∈ cu, v ∈ us_59) ∧ sWkU pPT SM i_59 (mR pm_173) cu n u = true
theorem q_59_0 : pQ_59 u_59_0 := ⟨_, _, _, (pS_cons ok_1 (pS_cons ok_28 (pS_cons ok_58 (pS_nil)))), (pV_cons (List.mem_of_getElem? (i := 1) rfl) (pV_cons (List.mem_of_getElem? (i := 0) rfl) (pV_nil))), f_59_0⟩
theorem q_59_1 : pQ_59 u_59_1 := ⟨_, _, _, (pS_nil), (pV_nil), f_59_1⟩
theorem qb_59_0 : ∀ u ∈ [u_59_0, u_59_1], pQ_59 u := pU_cons q_59_0 (pU_cons q_59_1 (pU_nil))
theorem ok_59 : sInOk pPT i_59 := sInst2 (M := pm_173) (cus := us_59) pOk pg_173 (by decide +kernel) ⟨_, _, _, (pS_cons ok_58 (pS_nil)), (pV_cons (List.mem_of_getElem? (i := 0) rfl) (pV_nil)), e_59⟩ (show ∀ u ∈ us_59, pQ_59 u from qb_59_0)
def pQ_60 (u : sCu) : Prop := ∃ (SM : List sIn) (cu : List sCu) (n : Nat), (∀ I ∈ SM, sInOk pPT I) ∧ (∀ v ∈ cu, v ∈ us_60) ∧ sWkU pPT SM i_60 (mR pm_174) cu n u = true
theorem q_60_0 : pQ_60 u_60_0 := ⟨_, _, _, (pS_cons ok_1 (pS_cons ok_30 (pS_cons ok_59 (pS_nil)))), (pV_cons (List.mem_of_getElem? (i := 1) rfl) (pV_cons (List.mem_of_getElem? (i := 0) rfl) (pV_nil))), f_60_0⟩
theorem q_60_1 : pQ_60 u_60_1 := ⟨_, _, _, (pS_nil), (pV_nil), f_60_1⟩
theorem qb_60_0 : ∀ u ∈ [u_60_0, u_60_1], pQ_60 u := pU_cons q_60_0 (pU_cons q_60_1 (pU_nil))
theorem ok_60 : sInOk pPT i_60 := sInst2 (M := pm_174) (cus := us_60) pOk pg_174 (by decide +kernel) ⟨_, _, _, (pS_cons ok_59 (pS_nil)), (pV_cons (List.mem_of_getElem? (i := 0) rfl) (pV_nil)), e_60⟩ (show ∀ u ∈ us_60, pQ_60 u from qb_60_0)
def pQ_61 (u : sCu) : Prop := ∃ (SM : List sIn) (cu : List sCu) (n : Nat), (∀ I ∈ SM, sInOk pPT I) ∧ (∀ v ∈ cu, v ∈ us_61) ∧ sWkU pPT SM i_61 (mR pm_178) cu n u = true
theorem q_61_0 : pQ_61 u_61_0 := ⟨_, _, _, (pS_nil), (pV_nil), f_61_0⟩
theorem qb_61_0 : ∀ u ∈ [u_61_0], pQ_61 u := pU_cons q_61_0 (pU_nil)
theorem ok_61 : sInOk pPT i_61 := sInst2 (M := pm_178) (cus := us_61) pOk pg_178 (by decide +kernel) ⟨_, _, _, (pS_cons ok_1 (pS_cons ok_20 (pS_cons ok_22 (pS_cons ok_32 (pS_cons ok_60 (pS_nil)))))), (pV_cons (List.mem_of_getElem? (i := 0) rfl) (pV_nil)), e_61⟩ (show ∀ u ∈ us_61, pQ_61 u from qb_61_0)
def pQ_62 (u : sCu) : Prop := ∃ (SM : List sIn) (cu : List sCu) (n : Nat), (∀ I ∈ SM, sInOk pPT I) ∧ (∀ v ∈ cu, v ∈ us_62) ∧ sWkU pPT SM i_62 (mR pm_179) cu n u = true
theorem q_62_0 : pQ_62 u_62_0 := ⟨_, _, _, (pS_nil), (pV_cons (List.mem_of_getElem? (i := 1) rfl) (pV_cons (List.mem_of_getElem? (i := 2) rfl) (pV_nil))), f_62_0⟩
theorem q_62_1 : pQ_62 u_62_1 := ⟨_, _, _, (pS_nil), (pV_nil), f_62_1⟩
theorem q_62_2 : pQ_62 u_62_2 := ⟨_, _, _, (pS_nil), (pV_cons (List.mem_of_getElem? (i := 3) rfl) (pV_nil)), f_62_2⟩
theorem q_62_3 : pQ_62 u_62_3 := ⟨_, _, _, (pS_cons ok_1 (pS_cons ok_61 (pS_nil))), (pV_cons (List.mem_of_getElem? (i := 0) rfl) (pV_nil)), f_62_3⟩
theorem qb_62_0 : ∀ u ∈ [u_62_0, u_62_1, u_62_2, u_62_3], pQ_62 u := pU_cons q_62_0 (pU_cons q_62_1 (pU_cons q_62_2 (pU_cons q_62_3 (pU_nil))))
theorem ok_62 : sInOk pPT i_62 := sInst2 (M := pm_179) (cus := us_62) pOk pg_179 (by decide +kernel) ⟨_, _, _, (pS_cons ok_61 (pS_nil)), (pV_cons (List.mem_of_getElem? (i := 0) rfl) (pV_nil)), e_62⟩ (show ∀ u ∈ us_62, pQ_62 u from qb_62_0)
def pQ_63 (u : sCu) : Prop := ∃ (SM : List sIn) (cu : List sCu) (n : Nat), (∀ I ∈ SM, sInOk pPT I) ∧ (∀ v ∈ cu, v ∈ us_63) ∧ sWkU pPT SM i_63 (mR pm_183) cu n u = true
theorem q_63_0 : pQ_63 u_63_0 := ⟨_, _, _, (pS_nil), (pV_cons (List.mem_of_getElem? (i := 1) rfl) (pV_cons (List.mem_of_getElem? (i := 2) rfl) (pV_nil))), f_63_0⟩
theorem q_63_1 : pQ_63 u_63_1 := ⟨_, _, _, (pS_nil), (pV_nil), f_63_1⟩
theorem q_63_2 : pQ_63 u_63_2 := ⟨_, _, _, (pS_nil), (pV_cons (List.mem_of_getElem? (i := 3) rfl) (pV_nil)), f_63_2⟩
theorem q_63_3 : pQ_63 u_63_3 := ⟨_, _, _, (pS_cons ok_1 (pS_cons ok_62 (pS_nil))), (pV_cons (List.mem_of_getElem? (i := 0) rfl) (pV_nil)), f_63_3⟩
theorem qb_63_0 : ∀ u ∈ [u_63_0, u_63_1, u_63_2, u_63_3], pQ_63 u := pU_cons q_63_0 (pU_cons q_63_1 (pU_cons q_63_2 (pU_cons q_63_3 (pU_nil))))
theorem ok_63 : sInOk pPT i_63 := sInst2 (M := pm_183) (cus := us_63) pOk pg_183 (by decide +kernel) ⟨_, _, _, (pS_cons ok_62 (pS_nil)), (pV_cons (List.mem_of_getElem? (i := 0) rfl) (pV_nil)), e_63⟩ (show ∀ u ∈ us_63, pQ_63 u from qb_63_0)
def pQ_64 (u : sCu) : Prop := ∃ (SM : List sIn) (cu : List sCu) (n : Nat), (∀ I ∈ SM, sInOk pPT I) ∧ (∀ v ∈ cu, v ∈ us_64) ∧ sWkU pPT SM i_64 (mR pm_184) cu n u = true
theorem q_64_0 : pQ_64 u_64_0 := ⟨_, _, _, (pS_cons ok_1 (pS_cons ok_63 (pS_nil))), (pV_cons (List.mem_of_getElem? (i := 1) rfl) (pV_nil)), f_64_0⟩
theorem q_64_1 : pQ_64 u_64_1 := ⟨_, _, _, (pS_nil), (pV_nil), f_64_1⟩
theorem qb_64_0 : ∀ u ∈ [u_64_0, u_64_1], pQ_64 u := pU_cons q_64_0 (pU_cons q_64_1 (pU_nil))
theorem ok_64 : sInOk pPT i_64 := sInst2 (M := pm_184) (cus := us_64) pOk pg_184 (by decide +kernel) ⟨_, _, _, (pS_cons ok_63 (pS_nil)), (pV_cons (List.mem_of_getElem? (i := 0) rfl) (pV_nil)), e_64⟩ (show ∀ u ∈ us_64, pQ_64 u from qb_64_0)
def pQ_65 (u : sCu) : Prop := ∃ (SM : List sIn) (cu : List sCu) (n : Nat), (∀ I ∈ SM, sInOk pPT I) ∧ (∀ v ∈ cu, v ∈ us_65) ∧ sWkU pPT SM i_65 (mR pm_177) cu n u = true
theorem q_65_0 : pQ_65 u_65_0 := ⟨_, _, _, (pS_cons ok_1 (pS_cons ok_11 (pS_nil))), (pV_cons (List.mem_of_getElem? (i := 1) rfl) (pV_cons (List.mem_of_getElem? (i := 0) rfl) (pV_nil))), f_65_0⟩
theorem q_65_1 : pQ_65 u_65_1 := ⟨_, _, _, (pS_cons ok_11 (pS_nil)), (pV_cons (List.mem_of_getElem? (i := 2) rfl) (pV_nil)), f_65_1⟩
theorem q_65_2 : pQ_65 u_65_2 := ⟨_, _, _, (pS_cons ok_64 (pS_nil)), (pV_cons (List.mem_of_getElem? (i := 3) rfl) (pV_nil)), f_65_2⟩
theorem q_65_3 : pQ_65 u_65_3 := ⟨_, _, _, (pS_nil), (pV_cons (List.mem_of_getElem? (i := 3) rfl) (pV_nil)), f_65_3⟩
theorem qb_65_0 : ∀ u ∈ [u_65_0, u_65_1, u_65_2, u_65_3], pQ_65 u := pU_cons q_65_0 (pU_cons q_65_1 (pU_cons q_65_2 (pU_cons q_65_3 (pU_nil))))
theorem ok_65 : sInOk pPT i_65 := sInst2 (M := pm_177) (cus := us_65) pOk pg_177 (by decide +kernel) ⟨_, _, _, (pS_nil), (pV_cons (List.mem_of_getElem? (i := 0) rfl) (pV_nil)), e_65⟩ (show ∀ u ∈ us_65, pQ_65 u from qb_65_0)
def pQ_66 (u : sCu) : Prop := ∃ (SM : List sIn) (cu : List sCu) (n : Nat), (∀ I ∈ SM, sInOk pPT I) ∧ (∀ v ∈ cu, v ∈ us_66) ∧ sWkU pPT SM i_66 (mR pm_173) cu n u = true
theorem q_66_0 : pQ_66 u_66_0 := ⟨_, _, _, (pS_cons ok_1 (pS_cons ok_28 (pS_cons ok_65 (pS_nil)))), (pV_cons (List.mem_of_getElem? (i := 1) rfl) (pV_cons (List.mem_of_getElem? (i := 0) rfl) (pV_nil))), f_66_0⟩
theorem q_66_1 : pQ_66 u_66_1 := ⟨_, _, _, (pS_nil), (pV_nil), f_66_1⟩
theorem qb_66_0 : ∀ u ∈ [u_66_0, u_66_1], pQ_66 u := pU_cons q_66_0 (pU_cons q_66_1 (pU_nil))
theorem ok_66 : sInOk pPT i_66 := sInst2 (M := pm_173) (cus := us_66) pOk pg_173 (by decide +kernel) ⟨_, _, _, (pS_cons ok_65 (pS_nil)), (pV_cons (List.mem_of_getElem? (i := 0) rfl) (pV_nil)), e_66⟩ (show ∀ u ∈ us_66, pQ_66 u from qb_66_0)
def pQ_67 (u : sCu) : Prop := ∃ (SM : List sIn) (cu : List sCu) (n : Nat), (∀ I ∈ SM, sInOk pPT I) ∧ (∀ v ∈ cu, v ∈ us_67) ∧ sWkU pPT SM i_67 (mR pm_174) cu n u = true
theorem q_67_0 : pQ_67 u_67_0 := ⟨_, _, _, (pS_cons ok_1 (pS_cons ok_30 (pS_cons ok_66 (pS_nil)))), (pV_cons (List.mem_of_getElem? (i := 1) rfl) (pV_cons (List.mem_of_getElem? (i := 0) rfl) (pV_nil))), f_67_0⟩
theorem q_67_1 : pQ_67 u_67_1 := ⟨_, _, _, (pS_nil), (pV_nil), f_67_1⟩
theorem qb_67_0 : ∀ u ∈ [u_67_0, u_67_1], pQ_67 u := pU_cons q_67_0 (pU_cons q_67_1 (pU_nil))
theorem ok_67 : sInOk pPT i_67 := sInst2 (M := pm_174) (cus := us_67) pOk pg_174 (by decide +kernel) ⟨_, _, _, (pS_cons ok_66 (pS_nil)), (pV_cons (List.mem_of_getElem? (i := 0) rfl) (pV_nil)), e_67⟩ (show ∀ u ∈ us_67, pQ_67 u from qb_67_0)
def pQ_68 (u : sCu) : Prop := ∃ (SM : List sIn) (cu : List sCu) (n : Nat), (∀ I ∈ SM, sInOk pPT I) ∧ (∀ v ∈ cu, v ∈ us_68) ∧ sWkU pPT SM i_68 (mR pm_156) cu n u = true
theorem q_68_0 : pQ_68 u_68_0 := ⟨_, _, _, (pS_nil), (pV_cons (List.mem_of_getElem? (i := 1) rfl) (pV_cons (List.mem_of_getElem? (i := 2) rfl) (pV_nil))), f_68_0⟩
theorem q_68_1 : pQ_68 u_68_1 := ⟨_, _, _, (pS_nil), (pV_cons (List.mem_of_getElem? (i := 3) rfl) (pV_cons (List.mem_of_getElem? (i := 2) rfl) (pV_nil))), f_68_1⟩
theorem q_68_2 : pQ_68 u_68_2 := ⟨_, _, _, (pS_nil), (pV_nil), f_68_2⟩
theorem q_68_3 : pQ_68 u_68_3 := ⟨_, _, _, (pS_nil), (pV_cons (List.mem_of_getElem? (i := 0) rfl) (pV_nil)), f_68_3⟩
theorem qb_68_0 : ∀ u ∈ [u_68_0, u_68_1, u_68_2, u_68_3], pQ_68 u := pU_cons q_68_0 (pU_cons q_68_1 (pU_cons q_68_2 (pU_cons q_68_3 (pU_nil))))
theorem ok_68 : sInOk pPT i_68 := sInst2 (M := pm_156) (cus := us_68) pOk pg_156 (by decide +kernel) ⟨_, _, _, (pS_nil), (pV_cons (List.mem_of_getElem? (i := 0) rfl) (pV_nil)), e_68⟩ (show ∀ u ∈ us_68, pQ_68 u from qb_68_0)
def pQ_69 (u : sCu) : Prop := ∃ (SM : List sIn) (cu : List sCu) (n : Nat), (∀ I ∈ SM, sInOk pPT I) ∧ (∀ v ∈ cu, v ∈ us_69) ∧ sWkU pPT SM i_69 (mR pm_175) cu n u = true
theorem q_69_0 : pQ_69 u_69_0 := ⟨_, _, _, (pS_nil), (pV_nil), f_69_0⟩
theorem qb_69_0 : ∀ u ∈ [u_69_0], pQ_69 u := pU_cons q_69_0 (pU_nil)
theorem ok_69 : sInOk pPT i_69 := sInst2 (M := pm_175) (cus := us_69) pOk pg_175 (by decide +kernel) ⟨_, _, _, (pS_cons ok_1 (pS_cons ok_22 (pS_cons ok_68 (pS_nil)))), (pV_cons (List.mem_of_getElem? (i := 0) rfl) (pV_nil)), e_69⟩ (show ∀ u ∈ us_69, pQ_69 u from qb_69_0)
theorem ok_70 : sInOk pPT i_70 := sInst2 (M := pm_180) (cus := []) pOk pg_180 (by decide +kernel) ⟨_, _, _, (pS_cons ok_1 (pS_cons ok_22 (pS_nil))), pV_nil, e_70⟩ pU_nil
def pQ_71 (u : sCu) : Prop := ∃ (SM : List sIn) (cu : List sCu) (n : Nat), (∀ I ∈ SM, sInOk pPT I) ∧ (∀ v ∈ cu, v ∈ us_71) ∧ sWkU pPT SM i_71 (mR pm_157) cu n u = true
theorem q_71_0 : pQ_71 u_71_0 := ⟨_, _, _, (pS_nil), (pV_cons (List.mem_of_getElem? (i := 1) rfl) (pV_nil)), f_71_0⟩
theorem q_71_1 : pQ_71 u_71_1 := ⟨_, _, _, (pS_nil), (pV_cons (List.mem_of_getElem? (i := 0) rfl) (pV_nil)), f_71_1⟩
theorem qb_71_0 : ∀ u ∈ [u_71_0, u_71_1], pQ_71 u := pU_cons q_71_0 (pU_cons q_71_1 (pU_nil))
theorem ok_71 : sInOk pPT i_71 := sInst2 (M := pm_157) (cus := us_71) pOk pg_157 (by decide +kernel) ⟨_, _, _, (pS_nil), (pV_cons (List.mem_of_getElem? (i := 0) rfl) (pV_nil)), e_71⟩ (show ∀ u ∈ us_71, pQ_71 u from qb_71_0)
def pQ_72 (u : sCu) : Prop := ∃ (SM : List sIn) (cu : List sCu) (n : Nat), (∀ I ∈ SM, sInOk pPT I) ∧ (∀ v ∈ cu, v ∈ us_72) ∧ sWkU pPT SM i_72 (mR pm_176) cu n u = true
theorem q_72_0 : pQ_72 u_72_0 := ⟨_, _, _, (pS_nil), (pV_nil), f_72_0⟩
theorem qb_72_0 : ∀ u ∈ [u_72_0], pQ_72 u := pU_cons q_72_0 (pU_nil)
theorem ok_72 : sInOk pPT i_72 := sInst2 (M := pm_176) (cus := us_72) pOk pg_176 (by decide +kernel) ⟨_, _, _, (pS_cons ok_1 (pS_cons ok_22 (pS_cons ok_71 (pS_nil)))), (pV_cons (List.mem_of_getElem? (i := 0) rfl) (pV_nil)), e_72⟩ (show ∀ u ∈ us_72, pQ_72 u from qb_72_0)
theorem ok_73 : sInOk pPT i_73 := sInst2 (M := pm_172) (cus := []) pOk pg_172 (by decide +kernel) ⟨_, _, _, (pS_cons ok_1 (pS_cons ok_22 (pS_nil))), pV_nil, e_73⟩ pU_nil
theorem ok_74 : sInOk pPT i_74 := sInst2 (M := pm_182) (cus := []) pOk pg_182 (by decide +kernel) ⟨_, _, _, (pS_cons ok_1 (pS_cons ok_2 (pS_cons ok_3 (pS_cons ok_4 (pS_cons ok_5 (pS_cons ok_6 (pS_cons ok_7 (pS_cons ok_8 (pS_cons ok_9 (pS_cons ok_10 (pS_cons ok_32 (pS_cons ok_67 (pS_cons ok_69 (pS_cons ok_70 (pS_cons ok_72 (pS_cons ok_73 (pS_nil))))))))))))))))), pV_nil, e_74⟩ pU_nil
def pQ_75 (u : sCu) : Prop := ∃ (SM : List sIn) (cu : List sCu) (n : Nat), (∀ I ∈ SM, sInOk pPT I) ∧ (∀ v ∈ cu, v ∈ us_75) ∧ sWkU pPT SM i_75 (mR pm_171) cu n u = true
theorem q_75_0 : pQ_75 u_75_0 := ⟨_, _, _, (pS_cons ok_74 (pS_nil)), (pV_cons (List.mem_of_getElem? (i := 1) rfl) (pV_cons (List.mem_of_getElem? (i := 0) rfl) (pV_nil))), f_75_0⟩
theorem q_75_1 : pQ_75 u_75_1 := ⟨_, _, _, (pS_nil), (pV_nil), f_75_1⟩
theorem qb_75_0 : ∀ u ∈ [u_75_0, u_75_1], pQ_75 u := pU_cons q_75_0 (pU_cons q_75_1 (pU_nil))
theorem ok_75 : sInOk pPT i_75 := sInst2 (M := pm_171) (cus := us_75) pOk pg_171 (by decide +kernel) ⟨_, _, _, (pS_cons ok_1 (pS_nil)), (pV_cons (List.mem_of_getElem? (i := 0) rfl) (pV_nil)), e_75⟩ (show ∀ u ∈ us_75, pQ_75 u from qb_75_0)
theorem ok_76 : sInOk pPT i_76 := sInst2 (M := pm_153) (cus := []) pOk pg_153 (by decide +kernel) ⟨_, _, _, (pS_nil), pV_nil, e_76⟩ pU_nil
def pQ_77 (u : sCu) : Prop := ∃ (SM : List sIn) (cu : List sCu) (n : Nat), (∀ I ∈ SM, sInOk pPT I) ∧ (∀ v ∈ cu, v ∈ us_77) ∧ sWkU pPT SM i_77 (mR pm_145) cu n u = true
theorem q_77_0 : pQ_77 u_77_0 := ⟨_, _, _, (pS_nil), (pV_cons (List.mem_of_getElem? (i := 1) rfl) (pV_cons (List.mem_of_getElem? (i := 0) rfl) (pV_nil))), f_77_0⟩
theorem q_77_1 : pQ_77 u_77_1 := ⟨_, _, _, (pS_nil), (pV_cons (List.mem_of_getElem? (i := 2) rfl) (pV_cons (List.mem_of_getElem? (i := 3) rfl) (pV_nil))), f_77_1⟩
theorem q_77_2 : pQ_77 u_77_2 := ⟨_, _, _, (pS_nil), (pV_cons (List.mem_of_getElem? (i := 1) rfl) (pV_nil)), f_77_2⟩
theorem q_77_3 : pQ_77 u_77_3 := ⟨_, _, _, (pS_nil), (pV_cons (List.mem_of_getElem? (i := 2) rfl) (pV_nil)), f_77_3⟩
theorem qb_77_0 : ∀ u ∈ [u_77_0, u_77_1, u_77_2, u_77_3], pQ_77 u := pU_cons q_77_0 (pU_cons q_77_1 (pU_cons q_77_2 (pU_cons q_77_3 (pU_nil))))
theorem ok_77 : sInOk pPT i_77 := sInst2 (M := pm_145) (cus := us_77) pOk pg_145 (by decide +kernel) ⟨_, _, _, (pS_nil), (pV_cons (List.mem_of_getElem? (i := 0) rfl) (pV_nil)), e_77⟩ (show ∀ u ∈ us_77, pQ_77 u from qb_77_0)
def pQ_78 (u : sCu) : Prop := ∃ (SM : List sIn) (cu : List sCu) (n : Nat), (∀ I ∈ SM, sInOk pPT I) ∧ (∀ v ∈ cu, v ∈ us_78) ∧ sWkU pPT SM i_78 (mR pm_133) cu n u = true
theorem q_78_0 : pQ_78 u_78_0 := ⟨_, _, _, (pS_nil), (pV_cons (List.mem_of_getElem? (i := 1) rfl) (pV_cons (List.mem_of_getElem? (i := 2) rfl) (pV_nil))), f_78_0⟩
theorem q_78_1 : pQ_78 u_78_1 := ⟨_, _, _, (pS_nil), (pV_cons (List.mem_of_getElem? (i := 0) rfl) (pV_nil)), f_78_1⟩
theorem q_78_2 : pQ_78 u_78_2 := ⟨_, _, _, (pS_nil), (pV_cons (List.mem_of_getElem? (i := 1) rfl) (pV_nil)), f_78_2⟩
theorem qb_78_0 : ∀ u ∈ [u_78_0, u_78_1, u_78_2], pQ_78 u := pU_cons q_78_0 (pU_cons q_78_1 (pU_cons q_78_2 (pU_nil)))
theorem ok_78 : sInOk pPT i_78 := sInst2 (M := pm_133) (cus := us_78) pOk pg_133 (by decide +kernel) ⟨_, _, _, (pS_nil), (pV_cons (List.mem_of_getElem? (i := 0) rfl) (pV_nil)), e_78⟩ (show ∀ u ∈ us_78, pQ_78 u from qb_78_0)
def pQ_79 (u : sCu) : Prop := ∃ (SM : List sIn) (cu : List sCu) (n : Nat), (∀ I ∈ SM, sInOk pPT I) ∧ (∀ v ∈ cu, v ∈ us_79) ∧ sWkU pPT SM i_79 (mR pm_192) cu n u = true
theorem q_79_0 : pQ_79 u_79_0 := ⟨_, _, _, (pS_nil), (pV_cons (List.mem_of_getElem? (i := 1) rfl) (pV_cons (List.mem_of_getElem? (i := 4) rfl) (pV_cons (List.mem_of_getElem? (i := 5) rfl) (pV_cons (List.mem_of_getElem? (i := 6) rfl) (pV_cons (List.mem_of_getElem? (i := 7) rfl) (pV_cons (List.mem_of_getElem? (i := 8) rfl) (pV_cons (List.mem_of_getElem? (i := 9) rfl) (pV_cons (List.mem_of_getElem? (i := 10) rfl) (pV_cons (List.mem_of_getElem? (i := 3) rfl) (pV_cons (List.mem_of_getElem? (i := 2) rfl) (pV_nil))))))))))), f_79_0⟩
theorem q_79_1 : pQ_79 u_79_1 := ⟨_, _, _, (pS_nil), (pV_cons (List.mem_of_getElem? (i := 0) rfl) (pV_nil)), f_79_1⟩
theorem q_79_2 : pQ_79 u_79_2 := ⟨_, _, _, (pS_nil), (pV_cons (List.mem_of_getElem? (i := 1) rfl) (pV_nil)), f_79_2⟩
theorem q_79_3 : pQ_79 u_79_3 := ⟨_, _, _, (pS_nil), (pV_cons (List.mem_of_getElem? (i := 1) rfl) (pV_nil)), f_79_3⟩
theorem q_79_4 : pQ_79 u_79_4 := ⟨_, _, _, (pS_nil), (pV_cons (List.mem_of_getElem? (i := 1) rfl) (pV_nil)), f_79_4⟩
theorem q_79_5 : pQ_79 u_79_5 := ⟨_, _, _, (pS_nil), (pV_cons (List.mem_of_getElem? (i := 1) rfl) (pV_nil)), f_79_5⟩
theorem q_79_6 : pQ_79 u_79_6 := ⟨_, _, _, (pS_nil), (pV_cons (List.mem_of_getElem? (i := 1) rfl) (pV_nil)), f_79_6⟩
theorem q_79_7 : pQ_79 u_79_7 := ⟨_, _, _, (pS_nil), (pV_cons (List.mem_of_getElem? (i := 8) rfl) (pV_nil)), f_79_7⟩
theorem q_79_8 : pQ_79 u_79_8 := ⟨_, _, _, (pS_nil), (pV_cons (List.mem_of_getElem? (i := 1) rfl) (pV_nil)), f_79_8⟩
theorem q_79_9 : pQ_79 u_79_9 := ⟨_, _, _, (pS_nil), (pV_cons (List.mem_of_getElem? (i := 10) rfl) (pV_nil)), f_79_9⟩
theorem q_79_10 : pQ_79 u_79_10 := ⟨_, _, _, (pS_nil), (pV_cons (List.mem_of_getElem? (i := 1) rfl) (pV_nil)), f_79_10⟩
theorem qb_79_0 : ∀ u ∈ [u_79_0, u_79_1, u_79_2, u_79_3, u_79_4, u_79_5, u_79_6, u_79_7, u_79_8, u_79_9], pQ_79 u := pU_cons q_79_0 (pU_cons q_79_1 (pU_cons q_79_2 (pU_cons q_79_3 (pU_cons q_79_4 (pU_cons q_79_5 (pU_cons q_79_6 (pU_cons q_79_7 (pU_cons q_79_8 (pU_cons q_79_9 (pU_nil))))))))))
theorem qb_79_1 : ∀ u ∈ [u_79_10], pQ_79 u := pU_cons q_79_10 (pU_nil)
theorem ok_79 : sInOk pPT i_79 := sInst2 (M := pm_192) (cus := us_79) pOk pg_192 (by decide +kernel) ⟨_, _, _, (pS_nil), (pV_cons (List.mem_of_getElem? (i := 0) rfl) (pV_nil)), e_79⟩ (show ∀ u ∈ us_79, pQ_79 u from (pU_app qb_79_0 qb_79_1))
def pQ_80 (u : sCu) : Prop := ∃ (SM : List sIn) (cu : List sCu) (n : Nat), (∀ I ∈ SM, sInOk pPT I) ∧ (∀ v ∈ cu, v ∈ us_80) ∧ sWkU pPT SM i_80 (mR pm_151) cu n u = true
theorem q_80_0 : pQ_80 u_80_0 := ⟨_, _, _, (pS_nil), (pV_cons (List.mem_of_getElem? (i := 1) rfl) (pV_nil)), f_80_0⟩
theorem q_80_1 : pQ_80 u_80_1 := ⟨_, _, _, (pS_nil), (pV_cons (List.mem_of_getElem? (i := 2) rfl) (pV_nil)), f_80_1⟩
theorem q_80_2 : pQ_80 u_80_2 := ⟨_, _, _, (pS_nil), (pV_cons (List.mem_of_getElem? (i := 3) rfl) (pV_cons (List.mem_of_getElem? (i := 4) rfl) (pV_nil))), f_80_2⟩
theorem q_80_3 : pQ_80 u_80_3 := ⟨_, _, _, (pS_nil), (pV_cons (List.mem_of_getElem? (i := 4) rfl) (pV_nil)), f_80_3⟩
theorem q_80_4 : pQ_80 u_80_4 := ⟨_, _, _, (pS_nil), (pV_cons (List.mem_of_getElem? (i := 5) rfl) (pV_nil)), f_80_4⟩
theorem q_80_5 : pQ_80 u_80_5 := ⟨_, _, _, (pS_nil), (pV_cons (List.mem_of_getElem? (i := 6) rfl) (pV_nil)), f_80_5⟩
theorem q_80_6 : pQ_80 u_80_6 := ⟨_, _, _, (pS_cons ok_79 (pS_nil)), (pV_nil), f_80_6⟩
theorem qb_80_0 : ∀ u ∈ [u_80_0, u_80_1, u_80_2, u_80_3, u_80_4, u_80_5, u_80_6], pQ_80 u := pU_cons q_80_0 (pU_cons q_80_1 (pU_cons q_80_2 (pU_cons q_80_3 (pU_cons q_80_4 (pU_cons q_80_5 (pU_cons q_80_6 (pU_nil)))))))
theorem ok_80 : sInOk pPT i_80 := sInst2 (M := pm_151) (cus := us_80) pOk pg_151 (by decide +kernel) ⟨_, _, _, (pS_nil), (pV_cons (List.mem_of_getElem? (i := 0) rfl) (pV_cons (List.mem_of_getElem? (i := 1) rfl) (pV_nil))), e_80⟩ (show ∀ u ∈ us_80, pQ_80 u from qb_80_0)
def pQ_81 (u : sCu) : Prop := ∃ (SM : List sIn) (cu : List sCu) (n : Nat), (∀ I ∈ SM, sInOk pPT I) ∧ (∀ v ∈ cu, v ∈ us_81) ∧ sWkU pPT SM i_81 (mR pm_148) cu n u = true
theorem q_81_0 : pQ_81 u_81_0 := ⟨_, _, _, (pS_nil), (pV_cons (List.mem_of_getElem? (i := 1) rfl) (pV_nil)), f_81_0⟩
theorem q_81_1 : pQ_81 u_81_1 := ⟨_, _, _, (pS_nil), (pV_cons (List.mem_of_getElem? (i := 2) rfl) (pV_cons (List.mem_of_getElem? (i := 3) rfl) (pV_nil))), f_81_1⟩
theorem q_81_2 : pQ_81 u_81_2 := ⟨_, _, _, (pS_nil), (pV_cons (List.mem_of_getElem? (i := 3) rfl) (pV_nil)), f_81_2⟩
theorem q_81_3 : pQ_81 u_81_3 := ⟨_, _, _, (pS_nil), (pV_cons (List.mem_of_getElem? (i := 4) rfl) (pV_nil)), f_81_3⟩
theorem q_81_4 : pQ_81 u_81_4 := ⟨_, _, _, (pS_cons ok_80 (pS_nil)), (pV_nil), f_81_4⟩
theorem qb_81_0 : ∀ u ∈ [u_81_0, u_81_1, u_81_2, u_81_3, u_81_4], pQ_81 u := pU_cons q_81_0 (pU_cons q_81_1 (pU_cons q_81_2 (pU_cons q_81_3 (pU_cons q_81_4 (pU_nil)))))
theorem ok_81 : sInOk pPT i_81 := sInst2 (M := pm_148) (cus := us_81) pOk pg_148 (by decide +kernel) ⟨_, _, _, (pS_nil), (pV_cons (List.mem_of_getElem? (i := 0) rfl) (pV_cons (List.mem_of_getElem? (i := 1) rfl) (pV_nil))), e_81⟩ (show ∀ u ∈ us_81, pQ_81 u from qb_81_0)
def pQ_82 (u : sCu) : Prop := ∃ (SM : List sIn) (cu : List sCu) (n : Nat), (∀ I ∈ SM, sInOk pPT I) ∧ (∀ v ∈ cu, v ∈ us_82) ∧ sWkU pPT SM i_82 (mR pm_147) cu n u = true
theorem q_82_0 : pQ_82 u_82_0 := ⟨_, _, _, (pS_cons ok_81 (pS_nil)), (pV_cons (List.mem_of_getElem? (i := 1) rfl) (pV_nil)), f_82_0⟩
theorem q_82_1 : pQ_82 u_82_1 := ⟨_, _, _, (pS_nil), (pV_cons (List.mem_of_getElem? (i := 0) rfl) (pV_nil)), f_82_1⟩
theorem qb_82_0 : ∀ u ∈ [u_82_0, u_82_1], pQ_82 u := pU_cons q_82_0 (pU_cons q_82_1 (pU_nil))
theorem ok_82 : sInOk pPT i_82 := sInst2 (M := pm_147) (cus := us_82) pOk pg_147 (by decide +kernel) ⟨_, _, _, (pS_nil), (pV_cons (List.mem_of_getElem? (i := 0) rfl) (pV_nil)), e_82⟩ (show ∀ u ∈ us_82, pQ_82 u from qb_82_0)
def pQ_83 (u : sCu) : Prop := ∃ (SM : List sIn) (cu : List sCu) (n : Nat), (∀ I ∈ SM, sInOk pPT I) ∧ (∀ v ∈ cu, v ∈ us_83) ∧ sWkU pPT SM i_83 (mR pm_143) cu n u = true
theorem q_83_0 : pQ_83 u_83_0 := ⟨_, _, _, (pS_cons ok_78 (pS_cons ok_82 (pS_nil))), (pV_cons (List.mem_of_getElem? (i := 1) rfl) (pV_nil)), f_83_0⟩
theorem q_83_1 : pQ_83 u_83_1 := ⟨_, _, _, (pS_nil), (pV_cons (List.mem_of_getElem? (i := 0) rfl) (pV_nil)), f_83_1⟩
theorem qb_83_0 : ∀ u ∈ [u_83_0, u_83_1], pQ_83 u := pU_cons q_83_0 (pU_cons q_83_1 (pU_nil))
theorem ok_83 : sInOk pPT i_83 := sInst2 (M := pm_143) (cus := us_83) pOk pg_143 (by decide +kernel) ⟨_, _, _, (pS_cons ok_77 (pS_nil)), (pV_cons (List.mem_of_getElem? (i := 0) rfl) (pV_nil)), e_83⟩ (show ∀ u ∈ us_83, pQ_83 u from qb_83_0)
def pQ_84 (u : sCu) : Prop := ∃ (SM : List sIn) (cu : List sCu) (n : Nat), (∀ I ∈ SM, sInOk pPT I) ∧ (∀ v ∈ cu, v ∈ us_84) ∧ sWkU pPT SM i_84 (mR pm_144) cu n u = true
theorem q_84_0 : pQ_84 u_84_0 := ⟨_, _, _, (pS_cons ok_83 (pS_nil)), (pV_cons (List.mem_of_getElem? (i := 0) rfl) (pV_nil)), f_84_0⟩
theorem qb_84_0 : ∀ u ∈ [u_84_0], pQ_84 u := pU_cons q_84_0 (pU_nil)
theorem ok_84 : sInOk pPT i_84 := sInst2 (M := pm_144) (cus := us_84) pOk pg_144 (by decide +kernel) ⟨_, _, _, (pS_nil), (pV_cons (List.mem_of_getElem? (i := 0) rfl) (pV_nil)), e_84⟩ (show ∀ u ∈ us_84, pQ_84 u from qb_84_0)
theorem ok_85 : sInOk pPT i_85 := sInst2 (M := pm_257) (cus := []) pOk pg_257 (by decide +kernel) ⟨_, _, _, (pS_cons ok_75 (pS_cons ok_76 (pS_cons ok_84 (pS_nil)))), pV_nil, e_85⟩ pU_nil
theorem ok_86 : sInOk pPT i_86 := sInst2 (M := pm_15) (cus := []) pOk pg_15 (by decide +kernel) ⟨_, _, _, (pS_cons ok_85 (pS_nil)), pV_nil, e_86⟩ pU_nil
def pQ_87 (u : sCu) : Prop := ∃ (SM : List sIn) (cu : List sCu) (n : Nat), (∀ I ∈ SM, sInOk pPT I) ∧ (∀ v ∈ cu, v ∈ us_87) ∧ sWkU pPT SM i_87 (mR pm_110) cu n u = true
theorem q_87_0 : pQ_87 u_87_0 := ⟨_, _, _, (pS_nil), (pV_nil), f_87_0⟩
theorem q_87_1 : pQ_87 u_87_1 := ⟨_, _, _, (pS_nil), (pV_cons (List.mem_of_getElem? (i := 0) rfl) (pV_nil)), f_87_1⟩
theorem q_87_2 : pQ_87 u_87_2 := ⟨_, _, _, (pS_nil), (pV_cons (List.mem_of_getElem? (i := 5) rfl) (pV_nil)), f_87_2⟩
theorem q_87_3 : pQ_87 u_87_3 := ⟨_, _, _, (pS_nil), (pV_cons (List.mem_of_getElem? (i := 6) rfl) (pV_nil)), f_87_3⟩
theorem q_87_4 : pQ_87 u_87_4 := ⟨_, _, _, (pS_nil), (pV_cons (List.mem_of_getElem? (i := 7) rfl) (pV_nil)), f_87_4⟩
theorem q_87_5 : pQ_87 u_87_5 := ⟨_, _, _, (pS_nil), (pV_cons (List.mem_of_getElem? (i := 0) rfl) (pV_cons (List.mem_of_getElem? (i := 5) rfl) (pV_nil))), f_87_5⟩
theorem q_87_6 : pQ_87 u_87_6 := ⟨_, _, _, (pS_nil), (pV_cons (List.mem_of_getElem? (i := 0) rfl) (pV_cons (List.mem_of_getElem? (i := 6) rfl) (pV_nil))), f_87_6⟩
theorem q_87_7 : pQ_87 u_87_7 := ⟨_, _, _, (pS_nil), (pV_cons (List.mem_of_getElem? (i := 0) rfl) (pV_cons (List.mem_of_getElem? (i := 4) rfl) (pV_cons (List.mem_of_getElem? (i := 1) rfl) (pV_cons (List.mem_of_getElem? (i := 2) rfl) (pV_cons (List.mem_of_getElem? (i := 3) rfl) (pV_nil)))))), f_87_7⟩
theorem qb_87_0 : ∀ u ∈ [u_87_0, u_87_1, u_87_2, u_87_3, u_87_4, u_87_5, u_87_6, u_87_7], pQ_87 u := pU_cons q_87_0 (pU_cons q_87_1 (pU_cons q_87_2 (pU_cons q_87_3 (pU_cons q_87_4 (pU_cons q_87_5 (pU_cons q_87_6 (pU_cons q_87_7 (pU_nil))))))))
theorem ok_87 : sInOk pPT i_87 := sInst2 (M := pm_110) (cus := us_87) pOk pg_110 (by decide +kernel) ⟨_, _, _, (pS_nil), (pV_cons (List.mem_of_getElem? (i := 0) rfl) (pV_cons (List.mem_of_getElem? (i := 4) rfl) (pV_cons (List.mem_of_getElem? (i := 1) rfl) (pV_cons (List.mem_of_getElem? (i := 2) rfl) (pV_cons (List.mem_of_getElem? (i := 3) rfl) (pV_nil)))))), e_87⟩ (show ∀ u ∈ us_87, pQ_87 u from qb_87_0)
theorem ok_88 : sInOk pPT i_88 := sInst2 (M := pm_111) (cus := []) pOk pg_111 (by decide +kernel) ⟨_, _, _, (pS_nil), pV_nil, e_88⟩ pU_nil
def pQ_89 (u : sCu) : Prop := ∃ (SM : List sIn) (cu : List sCu) (n : Nat), (∀ I ∈ SM, sInOk pPT I) ∧ (∀ v ∈ cu, v ∈ us_89) ∧ sWkU pPT SM i_89 (mR pm_111) cu n u = true
theorem q_89_0 : pQ_89 u_89_0 := ⟨_, _, _, (pS_nil), (pV_cons (List.mem_of_getElem? (i := 0) rfl) (pV_nil)), f_89_0⟩
theorem qb_89_0 : ∀ u ∈ [u_89_0], pQ_89 u := pU_cons q_89_0 (pU_nil)
theorem ok_89 : sInOk pPT i_89 := sInst2 (M := pm_111) (cus := us_89) pOk pg_111 (by decide +kernel) ⟨_, _, _, (pS_nil), (pV_cons (List.mem_of_getElem? (i := 0) rfl) (pV_nil)), e_89⟩ (show ∀ u ∈ us_89, pQ_89 u from qb_89_0)
def pQ_90 (u : sCu) : Prop := ∃ (SM : List sIn) (cu : List sCu) (n : Nat), (∀ I ∈ SM, sInOk pPT I) ∧ (∀ v ∈ cu, v ∈ us_90) ∧ sWkU pPT SM i_90 (mR pm_111) cu n u = true
theorem q_90_0 : pQ_90 u_90_0 := ⟨_, _, _, (pS_nil), (pV_cons (List.mem_of_getElem? (i := 0) rfl) (pV_nil)), f_90_0⟩
theorem qb_90_0 : ∀ u ∈ [u_90_0], pQ_90 u := pU_cons q_90_0 (pU_nil)
theorem ok_90 : sInOk pPT i_90 := sInst2 (M := pm_111) (cus := us_90) pOk pg_111 (by decide +kernel) ⟨_, _, _, (pS_nil), (pV_cons (List.mem_of_getElem? (i := 0) rfl) (pV_nil)), e_90⟩ (show ∀ u ∈ us_90, pQ_90 u from qb_90_0)
def pQ_91 (u : sCu) : Prop := ∃ (SM : List sIn) (cu : List sCu) (n : Nat), (∀ I ∈ SM, sInOk pPT I) ∧ (∀ v ∈ cu, v ∈ us_91) ∧ sWkU pPT SM i_91 (mR pm_111) cu n u = true
theorem q_91_0 : pQ_91 u_91_0 := ⟨_, _, _, (pS_nil), (pV_cons (List.mem_of_getElem? (i := 0) rfl) (pV_nil)), f_91_0⟩
theorem qb_91_0 : ∀ u ∈ [u_91_0], pQ_91 u := pU_cons q_91_0 (pU_nil)
theorem ok_91 : sInOk pPT i_91 := sInst2 (M := pm_111) (cus := us_91) pOk pg_111 (by decide +kernel) ⟨_, _, _, (pS_nil), (pV_cons (List.mem_of_getElem? (i := 0) rfl) (pV_nil)), e_91⟩ (show ∀ u ∈ us_91, pQ_91 u from qb_91_0)
def pQ_92 (u : sCu) : Prop := ∃ (SM : List sIn) (cu : List sCu) (n : Nat), (∀ I ∈ SM, sInOk pPT I) ∧ (∀ v ∈ cu, v ∈ us_92) ∧ sWkU pPT SM i_92 (mR pm_111) cu n u = true
theorem q_92_0 : pQ_92 u_92_0 := ⟨_, _, _, (pS_nil), (pV_cons (List.mem_of_getElem? (i := 0) rfl) (pV_nil)), f_92_0⟩
theorem qb_92_0 : ∀ u ∈ [u_92_0], pQ_92 u := pU_cons q_92_0 (pU_nil)
theorem ok_92 : sInOk pPT i_92 := sInst2 (M := pm_111) (cus := us_92) pOk pg_111 (by decide +kernel) ⟨_, _, _, (pS_nil), (pV_cons (List.mem_of_getElem? (i := 0) rfl) (pV_nil)), e_92⟩ (show ∀ u ∈ us_92, pQ_92 u from qb_92_0)
def pQ_93 (u : sCu) : Prop := ∃ (SM : List sIn) (cu : List sCu) (n : Nat), (∀ I ∈ SM, sInOk pPT I) ∧ (∀ v ∈ cu, v ∈ us_93) ∧ sWkU pPT SM i_93 (mR pm_111) cu n u = true
theorem q_93_0 : pQ_93 u_93_0 := ⟨_, _, _, (pS_nil), (pV_cons (List.mem_of_getElem? (i := 0) rfl) (pV_nil)), f_93_0⟩
theorem qb_93_0 : ∀ u ∈ [u_93_0], pQ_93 u := pU_cons q_93_0 (pU_nil)
theorem ok_93 : sInOk pPT i_93 := sInst2 (M := pm_111) (cus := us_93) pOk pg_111 (by decide +kernel) ⟨_, _, _, (pS_nil), (pV_cons (List.mem_of_getElem? (i := 0) rfl) (pV_nil)), e_93⟩ (show ∀ u ∈ us_93, pQ_93 u from qb_93_0)
def pQ_94 (u : sCu) : Prop := ∃ (SM : List sIn) (cu : List sCu) (n : Nat), (∀ I ∈ SM, sInOk pPT I) ∧ (∀ v ∈ cu, v ∈ us_94) ∧ sWkU pPT SM i_94 (mR pm_111) cu n u = true
theorem q_94_0 : pQ_94 u_94_0 := ⟨_, _, _, (pS_nil), (pV_cons (List.mem_of_getElem? (i := 0) rfl) (pV_nil)), f_94_0⟩
theorem qb_94_0 : ∀ u ∈ [u_94_0], pQ_94 u := pU_cons q_94_0 (pU_nil)
theorem ok_94 : sInOk pPT i_94 := sInst2 (M := pm_111) (cus := us_94) pOk pg_111 (by decide +kernel) ⟨_, _, _, (pS_nil), (pV_cons (List.mem_of_getElem? (i := 0) rfl) (pV_nil)), e_94⟩ (show ∀ u ∈ us_94, pQ_94 u from qb_94_0)
def pQ_95 (u : sCu) : Prop := ∃ (SM : List sIn) (cu : List sCu) (n : Nat), (∀ I ∈ SM, sInOk pPT I) ∧ (∀ v ∈ cu, v ∈ us_95) ∧ sWkU pPT SM i_95 (mR pm_111) cu n u = true
theorem q_95_0 : pQ_95 u_95_0 := ⟨_, _, _, (pS_nil), (pV_cons (List.mem_of_getElem? (i := 0) rfl) (pV_nil)), f_95_0⟩
theorem qb_95_0 : ∀ u ∈ [u_95_0], pQ_95 u := pU_cons q_95_0 (pU_nil)
theorem ok_95 : sInOk pPT i_95 := sInst2 (M := pm_111) (cus := us_95) pOk pg_111 (by decide +kernel) ⟨_, _, _, (pS_nil), (pV_cons (List.mem_of_getElem? (i := 0) rfl) (pV_nil)), e_95⟩ (show ∀ u ∈ us_95, pQ_95 u from qb_95_0)
def pQ_96 (u : sCu) : Prop := ∃ (SM : List sIn) (cu : List sCu) (n : Nat), (∀ I ∈ SM, sInOk pPT I) ∧ (∀ v ∈ cu, v ∈ us_96) ∧ sWkU pPT SM i_96 (mR pm_111) cu n u = true
theorem q_96_0 : pQ_96 u_96_0 := ⟨_, _, _, (pS_nil), (pV_cons (List.mem_of_getElem? (i := 0) rfl) (pV_nil)), f_96_0⟩
theorem qb_96_0 : ∀ u ∈ [u_96_0], pQ_96 u := pU_cons q_96_0 (pU_nil)
theorem ok_96 : sInOk pPT i_96 := sInst2 (M := pm_111) (cus := us_96) pOk pg_111 (by decide +kernel) ⟨_, _, _, (pS_nil), (pV_cons (List.mem_of_getElem? (i := 0) rfl) (pV_nil)), e_96⟩ (show ∀ u ∈ us_96, pQ_96 u from qb_96_0)
def pQ_97 (u : sCu) : Prop := ∃ (SM : List sIn) (cu : List sCu) (n : Nat), (∀ I ∈ SM, sInOk pPT I) ∧ (∀ v ∈ cu, v ∈ us_97) ∧ sWkU pPT SM i_97 (mR pm_111) cu n u = true
theorem q_97_0 : pQ_97 u_97_0 := ⟨_, _, _, (pS_nil), (pV_cons (List.mem_of_getElem? (i := 0) rfl) (pV_nil)), f_97_0⟩
theorem qb_97_0 : ∀ u ∈ [u_97_0], pQ_97 u := pU_cons q_97_0 (pU_nil)
theorem ok_97 : sInOk pPT i_97 := sInst2 (M := pm_111) (cus := us_97) pOk pg_111 (by decide +kernel) ⟨_, _, _, (pS_nil), (pV_cons (List.mem_of_getElem? (i := 0) rfl) (pV_nil)), e_97⟩ (show ∀ u ∈ us_97, pQ_97 u from qb_97_0)
def pQ_98 (u : sCu) : Prop := ∃ (SM : List sIn) (cu : List sCu) (n : Nat), (∀ I ∈ SM, sInOk pPT I) ∧ (∀ v ∈ cu, v ∈ us_98) ∧ sWkU pPT SM i_98 (mR pm_111) cu n u = true
theorem q_98_0 : pQ_98 u_98_0 := ⟨_, _, _, (pS_nil), (pV_cons (List.mem_of_getElem? (i := 0) rfl) (pV_nil)), f_98_0⟩
theorem qb_98_0 : ∀ u ∈ [u_98_0], pQ_98 u := pU_cons q_98_0 (pU_nil)
theorem ok_98 : sInOk pPT i_98 := sInst2 (M := pm_111) (cus := us_98) pOk pg_111 (by decide +kernel) ⟨_, _, _, (pS_nil), (pV_cons (List.mem_of_getElem? (i := 0) rfl) (pV_nil)), e_98⟩ (show ∀ u ∈ us_98, pQ_98 u from qb_98_0)
def pQ_99 (u : sCu) : Prop := ∃ (SM : List sIn) (cu : List sCu) (n : Nat), (∀ I ∈ SM, sInOk pPT I) ∧ (∀ v ∈ cu, v ∈ us_99) ∧ sWkU pPT SM i_99 (mR pm_111) cu n u = true
theorem q_99_0 : pQ_99 u_99_0 := ⟨_, _, _, (pS_nil), (pV_cons (List.mem_of_getElem? (i := 0) rfl) (pV_nil)), f_99_0⟩
theorem qb_99_0 : ∀ u ∈ [u_99_0], pQ_99 u := pU_cons q_99_0 (pU_nil)
theorem ok_99 : sInOk pPT i_99 := sInst2 (M := pm_111) (cus := us_99) pOk pg_111 (by decide +kernel) ⟨_, _, _, (pS_nil), (pV_cons (List.mem_of_getElem? (i := 0) rfl) (pV_nil)), e_99⟩ (show ∀ u ∈ us_99, pQ_99 u from qb_99_0)
theorem ok_100 : sInOk pPT i_100 := sInst2 (M := pm_112) (cus := []) pOk pg_112 (by decide +kernel) ⟨_, _, _, (pS_cons ok_88 (pS_cons ok_89 (pS_cons ok_90 (pS_cons ok_91 (pS_cons ok_92 (pS_cons ok_93 (pS_cons ok_94 (pS_cons ok_95 (pS_cons ok_96 (pS_cons ok_97 (pS_cons ok_98 (pS_cons ok_99 (pS_nil))))))))))))), pV_nil, e_100⟩ pU_nil
def pQ_101 (u : sCu) : Prop := ∃ (SM : List sIn) (cu : List sCu) (n : Nat), (∀ I ∈ SM, sInOk pPT I) ∧ (∀ v ∈ cu, v ∈ us_101) ∧ sWkU pPT SM i_101 (mR pm_30) cu n u = true
theorem q_101_0 : pQ_101 u_101_0 := ⟨_, _, _, (pS_cons ok_87 (pS_nil)), (pV_nil), f_101_0⟩
theorem q_101_1 : pQ_101 u_101_1 := ⟨_, _, _, (pS_nil), (pV_nil), f_101_1⟩
theorem qb_101_0 : ∀ u ∈ [u_101_0, u_101_1], pQ_101 u := pU_cons q_101_0 (pU_cons q_101_1 (pU_nil))
theorem ok_101 : sInOk pPT i_101 := sInst2 (M := pm_30) (cus := us_101) pOk pg_30 (by decide +kernel) ⟨_, _, _, (pS_nil), (pV_cons (List.mem_of_getElem? (i := 0) rfl) (pV_cons (List.mem_of_getElem? (i := 1) rfl) (pV_nil))), e_101⟩ (show ∀ u ∈ us_101, pQ_101 u from qb_101_0)
def pQ_102 (u : sCu) : Prop := ∃ (SM : List sIn) (cu : List sCu) (n : Nat), (∀ I ∈ SM, sInOk pPT I) ∧ (∀ v ∈ cu, v ∈ us_102) ∧ sWkU pPT SM i_102 (mR pm_95) cu n u = true
theorem q_102_0 : pQ_102 u_102_0 := ⟨_, _, _, (pS_nil), (pV_nil), f_102_0⟩
theorem q_102_1 : pQ_102 u_102_1 := ⟨_, _, _, (pS_nil), (pV_nil), f_102_1⟩
theorem qb_102_0 : ∀ u ∈ [u_102_0, u_102_1], pQ_102 u := pU_cons q_102_0 (pU_cons q_102_1 (pU_nil))
theorem ok_102 : sInOk pPT i_102 := sInst2 (M := pm_95) (cus := us_102) pOk pg_95 (by decide +kernel) ⟨_, _, _, (pS_cons ok_87 (pS_nil)), (pV_cons (List.mem_of_getElem? (i := 0) rfl) (pV_cons (List.mem_of_getElem? (i := 1) rfl) (pV_nil))), e_102⟩ (show ∀ u ∈ us_102, pQ_102 u from qb_102_0)
def pQ_103 (u : sCu) : Prop := ∃ (SM : List sIn) (cu : List sCu) (n : Nat), (∀ I ∈ SM, sInOk pPT I) ∧ (∀ v ∈ cu, v ∈ us_103) ∧ sWkU pPT SM i_103 (mR pm_95) cu n u = true
theorem q_103_0 : pQ_103 u_103_0 := ⟨_, _, _, (pS_nil), (pV_nil), f_103_0⟩
theorem qb_103_0 : ∀ u ∈ [u_103_0], pQ_103 u := pU_cons q_103_0 (pU_nil)
theorem ok_103 : sInOk pPT i_103 := sInst2 (M := pm_95) (cus := us_103) pOk pg_95 (by decide +kernel) ⟨_, _, _, (pS_nil), (pV_cons (List.mem_of_getElem? (i := 0) rfl) (pV_nil)), e_103⟩ (show ∀ u ∈ us_103, pQ_103 u from qb_103_0)
def pQ_104 (u : sCu) : Prop := ∃ (SM : List sIn) (cu : List sCu) (n : Nat), (∀ I ∈ SM, sInOk pPT I) ∧ (∀ v ∈ cu, v ∈ us_104) ∧ sWkU pPT SM i_104 (mR pm_95) cu n u = true
theorem q_104_0 : pQ_104 u_104_0 := ⟨_, _, _, (pS_nil), (pV_nil), f_104_0⟩
theorem q_104_1 : pQ_104 u_104_1 := ⟨_, _, _, (pS_nil), (pV_nil), f_104_1⟩
theorem qb_104_0 : ∀ u ∈ [u_104_0, u_104_1], pQ_104 u := pU_cons q_104_0 (pU_cons q_104_1 (pU_nil))
theorem ok_104 : sInOk pPT i_104 := sInst2 (M := pm_95) (cus := us_104) pOk pg_95 (by decide +kernel) ⟨_, _, _, (pS_cons ok_87 (pS_nil)), (pV_cons (List.mem_of_getElem? (i := 0) rfl) (pV_cons (List.mem_of_getElem? (i := 1) rfl) (pV_nil))), e_104⟩ (show ∀ u ∈ us_104, pQ_104 u from qb_104_0)
def pQ_105 (u : sCu) : Prop := ∃ (SM : List sIn) (cu : List sCu) (n : Nat), (∀ I ∈ SM, sInOk pPT I) ∧ (∀ v ∈ cu, v ∈ us_105) ∧ sWkU pPT SM i_105 (mR pm_95) cu n u = true
theorem q_105_0 : pQ_105 u_105_0 := ⟨_, _, _, (pS_nil), (pV_nil), f_105_0⟩
theorem qb_105_0 : ∀ u ∈ [u_105_0], pQ_105 u := pU_cons q_105_0 (pU_nil)
theorem ok_105 : sInOk pPT i_105 := sInst2 (M := pm_95) (cus := us_105) pOk pg_95 (by decide +kernel) ⟨_, _, _, (pS_nil), (pV_cons (List.mem_of_getElem? (i := 0) rfl) (pV_nil)), e_105⟩ (show ∀ u ∈ us_105, pQ_105 u from qb_105_0)
theorem ok_106 : sInOk pPT i_106 := sInst2 (M := pm_103) (cus := []) pOk pg_103 (by decide +kernel) ⟨_, _, _, (pS_cons ok_101 (pS_cons ok_102 (pS_cons ok_103 (pS_cons ok_104 (pS_cons ok_105 (pS_nil)))))), pV_nil, e_106⟩ pU_nil
def pQ_107 (u : sCu) : Prop := ∃ (SM : List sIn) (cu : List sCu) (n : Nat), (∀ I ∈ SM, sInOk pPT I) ∧ (∀ v ∈ cu, v ∈ us_107) ∧ sWkU pPT SM i_107 (mR pm_30) cu n u = true
theorem q_107_0 : pQ_107 u_107_0 := ⟨_, _, _, (pS_cons ok_87 (pS_nil)), (pV_nil), f_107_0⟩
theorem q_107_1 : pQ_107 u_107_1 := ⟨_, _, _, (pS_nil), (pV_nil), f_107_1⟩
theorem qb_107_0 : ∀ u ∈ [u_107_0, u_107_1], pQ_107 u := pU_cons q_107_0 (pU_cons q_107_1 (pU_nil))
theorem ok_107 : sInOk pPT i_107 := sInst2 (M := pm_30) (cus := us_107) pOk pg_30 (by decide +kernel) ⟨_, _, _, (pS_nil), (pV_cons (List.mem_of_getElem? (i := 0) rfl) (pV_cons (List.mem_of_getElem? (i := 1) rfl) (pV_nil))), e_107⟩ (show ∀ u ∈ us_107, pQ_107 u from qb_107_0)
def pQ_108 (u : sCu) : Prop := ∃ (SM : List sIn) (cu : List sCu) (n : Nat), (∀ I ∈ SM, sInOk pPT I) ∧ (∀ v ∈ cu, v ∈ us_108) ∧ sWkU pPT SM i_108 (mR pm_90) cu n u = true
theorem q_108_0 : pQ_108 u_108_0 := ⟨_, _, _, (pS_nil), (pV_nil), f_108_0⟩
theorem q_108_1 : pQ_108 u_108_1 := ⟨_, _, _, (pS_nil), (pV_nil), f_108_1⟩
theorem qb_108_0 : ∀ u ∈ [u_108_0, u_108_1], pQ_108 u := pU_cons q_108_0 (pU_cons q_108_1 (pU_nil))
theorem ok_108 : sInOk pPT i_108 := sInst2 (M := pm_90) (cus := us_108) pOk pg_90 (by decide +kernel) ⟨_, _, _, (pS_cons ok_87 (pS_nil)), (pV_cons (List.mem_of_getElem? (i := 0) rfl) (pV_cons (List.mem_of_getElem? (i := 1) rfl) (pV_nil))), e_108⟩ (show ∀ u ∈ us_108, pQ_108 u from qb_108_0)
def pQ_109 (u : sCu) : Prop := ∃ (SM : List sIn) (cu : List sCu) (n : Nat), (∀ I ∈ SM, sInOk pPT I) ∧ (∀ v ∈ cu, v ∈ us_109) ∧ sWkU pPT SM i_109 (mR pm_104) cu n u = true
theorem q_109_0 : pQ_109 u_109_0 := ⟨_, _, _, (pS_nil), (pV_cons (List.mem_of_getElem? (i := 2) rfl) (pV_nil)), f_109_0⟩
theorem q_109_1 : pQ_109 u_109_1 := ⟨_, _, _, (pS_nil), (pV_cons (List.mem_of_getElem? (i := 3) rfl) (pV_nil)), f_109_1⟩
theorem q_109_2 : pQ_109 u_109_2 := ⟨_, _, _, (pS_nil), (pV_cons (List.mem_of_getElem? (i := 4) rfl) (pV_cons (List.mem_of_getElem? (i := 5) rfl) (pV_cons (List.mem_of_getElem? (i := 6) rfl) (pV_nil)))), f_109_2⟩
theorem q_109_3 : pQ_109 u_109_3 := ⟨_, _, _, (pS_nil), (pV_cons (List.mem_of_getElem? (i := 7) rfl) (pV_cons (List.mem_of_getElem? (i := 4) rfl) (pV_cons (List.mem_of_getElem? (i := 8) rfl) (pV_cons (List.mem_of_getElem? (i := 9) rfl) (pV_nil))))), f_109_3⟩
theorem q_109_4 : pQ_109 u_109_4 := ⟨_, _, _, (pS_nil), (pV_cons (List.mem_of_getElem? (i := 10) rfl) (pV_nil)), f_109_4⟩
theorem q_109_5 : pQ_109 u_109_5 := ⟨_, _, _, (pS_nil), (pV_cons (List.mem_of_getElem? (i := 11) rfl) (pV_nil)), f_109_5⟩
theorem q_109_6 : pQ_109 u_109_6 := ⟨_, _, _, (pS_nil), (pV_cons (List.mem_of_getElem? (i := 12) rfl) (pV_cons (List.mem_of_getElem? (i := 5) rfl) (pV_nil))), f_109_6⟩
theorem q_109_7 : pQ_109 u_109_7 := ⟨_, _, _, (pS_cons ok_87 (pS_nil)), (pV_cons (List.mem_of_getElem? (i := 13) rfl) (pV_nil)), f_109_7⟩
theorem q_109_8 : pQ_109 u_109_8 := ⟨_, _, _, (pS_nil), (pV_cons (List.mem_of_getElem? (i := 14) rfl) (pV_nil)), f_109_8⟩
theorem q_109_9 : pQ_109 u_109_9 := ⟨_, _, _, (pS_nil), (pV_cons (List.mem_of_getElem? (i := 15) rfl) (pV_cons (List.mem_of_getElem? (i := 8) rfl) (pV_nil))), f_109_9⟩
theorem q_109_10 : pQ_109 u_109_10 := ⟨_, _, _, (pS_nil), (pV_nil), f_109_10⟩
theorem q_109_11 : pQ_109 u_109_11 := ⟨_, _, _, (pS_nil), (pV_cons (List.mem_of_getElem? (i := 2) rfl) (pV_nil)), f_109_11⟩
theorem q_109_12 : pQ_109 u_109_12 := ⟨_, _, _, (pS_nil), (pV_cons (List.mem_of_getElem? (i := 11) rfl) (pV_nil)), f_109_12⟩
theorem q_109_13 : pQ_109 u_109_13 := ⟨_, _, _, (pS_nil), (pV_nil), f_109_13⟩
theorem q_109_14 : pQ_109 u_109_14 := ⟨_, _, _, (pS_nil), (pV_cons (List.mem_of_getElem? (i := 3) rfl) (pV_nil)), f_109_14⟩
theorem q_109_15 : pQ_109 u_109_15 := ⟨_, _, _, (pS_nil), (pV_cons (List.mem_of_getElem? (i := 14) rfl) (pV_nil)), f_109_15⟩
theorem qb_109_0 : ∀ u ∈ [u_109_0, u_109_1, u_109_2, u_109_3, u_109_4, u_109_5, u_109_6, u_109_7, u_109_8, u_109_9], pQ_109 u := pU_cons q_109_0 (pU_cons q_109_1 (pU_cons q_109_2 (pU_cons q_109_3 (pU_cons q_109_4 (pU_cons q_109_5 (pU_cons q_109_6 (pU_cons q_109_7 (pU_cons q_109_8 (pU_cons q_109_9 (pU_nil))))))))))
theorem qb_109_1 : ∀ u ∈ [u_109_10, u_109_11, u_109_12, u_109_13, u_109_14, u_109_15], pQ_109 u := pU_cons q_109_10 (pU_cons q_109_11 (pU_cons q_109_12 (pU_cons q_109_13 (pU_cons q_109_14 (pU_cons q_109_15 (pU_nil))))))
theorem ok_109 : sInOk pPT i_109 := sInst2 (M := pm_104) (cus := us_109) pOk pg_104 (by decide +kernel) ⟨_, _, _, (pS_cons ok_107 (pS_cons ok_108 (pS_nil))), (pV_cons (List.mem_of_getElem? (i := 0) rfl) (pV_cons (List.mem_of_getElem? (i := 1) rfl) (pV_nil))), e_109⟩ (show ∀ u ∈ us_109, pQ_109 u from (pU_app qb_109_0 qb_109_1))
def pQ_110 (u : sCu) : Prop := ∃ (SM : List sIn) (cu : List sCu) (n : Nat), (∀ I ∈ SM, sInOk pPT I) ∧ (∀ v ∈ cu, v ∈ us_110) ∧ sWkU pPT SM i_110 (mR pm_30) cu n u = true
theorem q_110_0 : pQ_110 u_110_0 := ⟨_, _, _, (pS_cons ok_87 (pS_nil)), (pV_nil), f_110_0⟩
theorem q_110_1 : pQ_110 u_110_1 := ⟨_, _, _, (pS_nil), (pV_nil), f_110_1⟩
theorem qb_110_0 : ∀ u ∈ [u_110_0, u_110_1], pQ_110 u := pU_cons q_110_0 (pU_cons q_110_1 (pU_nil))
theorem ok_110 : sInOk pPT i_110 := sInst2 (M := pm_30) (cus := us_110) pOk pg_30 (by decide +kernel) ⟨_, _, _, (pS_nil), (pV_cons (List.mem_of_getElem? (i := 0) rfl) (pV_cons (List.mem_of_getElem? (i := 1) rfl) (pV_nil))), e_110⟩ (show ∀ u ∈ us_110, pQ_110 u from qb_110_0)
def pQ_111 (u : sCu) : Prop := ∃ (SM : List sIn) (cu : List sCu) (n : Nat), (∀ I ∈ SM, sInOk pPT I) ∧ (∀ v ∈ cu, v ∈ us_111) ∧ sWkU pPT SM i_111 (mR pm_95) cu n u = true
theorem q_111_0 : pQ_111 u_111_0 := ⟨_, _, _, (pS_nil), (pV_nil), f_111_0⟩
theorem q_111_1 : pQ_111 u_111_1 := ⟨_, _, _, (pS_nil), (pV_nil), f_111_1⟩
theorem qb_111_0 : ∀ u ∈ [u_111_0, u_111_1], pQ_111 u := pU_cons q_111_0 (pU_cons q_111_1 (pU_nil))
theorem ok_111 : sInOk pPT i_111 := sInst2 (M := pm_95) (cus := us_111) pOk pg_95 (by decide +kernel) ⟨_, _, _, (pS_cons ok_87 (pS_nil)), (pV_cons (List.mem_of_getElem? (i := 0) rfl) (pV_cons (List.mem_of_getElem? (i := 1) rfl) (pV_nil))), e_111⟩ (show ∀ u ∈ us_111, pQ_111 u from qb_111_0)
def pQ_112 (u : sCu) : Prop := ∃ (SM : List sIn) (cu : List sCu) (n : Nat), (∀ I ∈ SM, sInOk pPT I) ∧ (∀ v ∈ cu, v ∈ us_112) ∧ sWkU pPT SM i_112 (mR pm_95) cu n u = true
theorem q_112_0 : pQ_112 u_112_0 := ⟨_, _, _, (pS_nil), (pV_nil), f_112_0⟩
theorem qb_112_0 : ∀ u ∈ [u_112_0], pQ_112 u := pU_cons q_112_0 (pU_nil)
theorem ok_112 : sInOk pPT i_112 := sInst2 (M := pm_95) (cus := us_112) pOk pg_95 (by decide +kernel) ⟨_, _, _, (pS_nil), (pV_cons (List.mem_of_getElem? (i := 0) rfl) (pV_nil)), e_112⟩ (show ∀ u ∈ us_112, pQ_112 u from qb_112_0)
def pQ_113 (u : sCu) : Prop := ∃ (SM : List sIn) (cu : List sCu) (n : Nat), (∀ I ∈ SM, sInOk pPT I) ∧ (∀ v ∈ cu, v ∈ us_113) ∧ sWkU pPT SM i_113 (mR pm_105) cu n u = true
theorem q_113_0 : pQ_113 u_113_0 := ⟨_, _, _, (pS_nil), (pV_cons (List.mem_of_getElem? (i := 2) rfl) (pV_nil)), f_113_0⟩
theorem q_113_1 : pQ_113 u_113_1 := ⟨_, _, _, (pS_nil), (pV_cons (List.mem_of_getElem? (i := 3) rfl) (pV_nil)), f_113_1⟩
theorem q_113_2 : pQ_113 u_113_2 := ⟨_, _, _, (pS_nil), (pV_cons (List.mem_of_getElem? (i := 4) rfl) (pV_cons (List.mem_of_getElem? (i := 5) rfl) (pV_cons (List.mem_of_getElem? (i := 6) rfl) (pV_nil)))), f_113_2⟩
theorem q_113_3 : pQ_113 u_113_3 := ⟨_, _, _, (pS_nil), (pV_cons (List.mem_of_getElem? (i := 7) rfl) (pV_cons (List.mem_of_getElem? (i := 4) rfl) (pV_cons (List.mem_of_getElem? (i := 8) rfl) (pV_cons (List.mem_of_getElem? (i := 9) rfl) (pV_nil))))), f_113_3⟩
theorem q_113_4 : pQ_113 u_113_4 := ⟨_, _, _, (pS_nil), (pV_cons (List.mem_of_getElem? (i := 10) rfl) (pV_nil)), f_113_4⟩
theorem q_113_5 : pQ_113 u_113_5 := ⟨_, _, _, (pS_nil), (pV_cons (List.mem_of_getElem? (i := 11) rfl) (pV_nil)), f_113_5⟩
theorem q_113_6 : pQ_113 u_113_6 := ⟨_, _, _, (pS_nil), (pV_cons (List.mem_of_getElem? (i := 11) rfl) (pV_nil)), f_113_6⟩
theorem q_113_7 : pQ_113 u_113_7 := ⟨_, _, _, (pS_cons ok_87 (pS_nil)), (pV_cons (List.mem_of_getElem? (i := 12) rfl) (pV_nil)), f_113_7⟩
theorem q_113_8 : pQ_113 u_113_8 := ⟨_, _, _, (pS_nil), (pV_cons (List.mem_of_getElem? (i := 13) rfl) (pV_nil)), f_113_8⟩
theorem q_113_9 : pQ_113 u_113_9 := ⟨_, _, _, (pS_nil), (pV_cons (List.mem_of_getElem? (i := 13) rfl) (pV_nil)), f_113_9⟩
theorem q_113_10 : pQ_113 u_113_10 := ⟨_, _, _, (pS_cons ok_112 (pS_nil)), (pV_nil), f_113_10⟩
theorem q_113_11 : pQ_113 u_113_11 := ⟨_, _, _, (pS_nil), (pV_cons (List.mem_of_getElem? (i := 2) rfl) (pV_nil)), f_113_11⟩
theorem q_113_12 : pQ_113 u_113_12 := ⟨_, _, _, (pS_cons ok_111 (pS_nil)), (pV_nil), f_113_12⟩
theorem q_113_13 : pQ_113 u_113_13 := ⟨_, _, _, (pS_nil), (pV_cons (List.mem_of_getElem? (i := 3) rfl) (pV_nil)), f_113_13⟩
theorem qb_113_0 : ∀ u ∈ [u_113_0, u_113_1, u_113_2, u_113_3, u_113_4, u_113_5, u_113_6, u_113_7, u_113_8, u_113_9], pQ_113 u := pU_cons q_113_0 (pU_cons q_113_1 (pU_cons q_113_2 (pU_cons q_113_3 (pU_cons q_113_4 (pU_cons q_113_5 (pU_cons q_113_6 (pU_cons q_113_7 (pU_cons q_113_8 (pU_cons q_113_9 (pU_nil))))))))))
theorem qb_113_1 : ∀ u ∈ [u_113_10, u_113_11, u_113_12, u_113_13], pQ_113 u := pU_cons q_113_10 (pU_cons q_113_11 (pU_cons q_113_12 (pU_cons q_113_13 (pU_nil))))
theorem ok_113 : sInOk pPT i_113 := sInst2 (M := pm_105) (cus := us_113) pOk pg_105 (by decide +kernel) ⟨_, _, _, (pS_cons ok_108 (pS_cons ok_110 (pS_nil))), (pV_cons (List.mem_of_getElem? (i := 0) rfl) (pV_cons (List.mem_of_getElem? (i := 1) rfl) (pV_nil))), e_113⟩ (show ∀ u ∈ us_113, pQ_113 u from (pU_app qb_113_0 qb_113_1))
def pQ_114 (u : sCu) : Prop := ∃ (SM : List sIn) (cu : List sCu) (n : Nat), (∀ I ∈ SM, sInOk pPT I) ∧ (∀ v ∈ cu, v ∈ us_114) ∧ sWkU pPT SM i_114 (mR pm_30) cu n u = true
theorem q_114_0 : pQ_114 u_114_0 := ⟨_, _, _, (pS_cons ok_87 (pS_nil)), (pV_nil), f_114_0⟩
theorem q_114_1 : pQ_114 u_114_1 := ⟨_, _, _, (pS_nil), (pV_nil), f_114_1⟩
theorem qb_114_0 : ∀ u ∈ [u_114_0, u_114_1], pQ_114 u := pU_cons q_114_0 (pU_cons q_114_1 (pU_nil))
theorem ok_114 : sInOk pPT i_114 := sInst2 (M := pm_30) (cus := us_114) pOk pg_30 (by decide +kernel) ⟨_, _, _, (pS_nil), (pV_cons (List.mem_of_getElem? (i := 0) rfl) (pV_cons (List.mem_of_getElem? (i := 1) rfl) (pV_nil))), e_114⟩ (show ∀ u ∈ us_114, pQ_114 u from qb_114_0)
def pQ_115 (u : sCu) : Prop := ∃ (SM : List sIn) (cu : List sCu) (n : Nat), (∀ I ∈ SM, sInOk pPT I) ∧ (∀ v ∈ cu, v ∈ us_115) ∧ sWkU pPT SM i_115 (mR pm_90) cu n u = true
theorem q_115_0 : pQ_115 u_115_0 := ⟨_, _, _, (pS_nil), (pV_nil), f_115_0⟩
theorem qb_115_0 : ∀ u ∈ [u_115_0], pQ_115 u := pU_cons q_115_0 (pU_nil)
theorem ok_115 : sInOk pPT i_115 := sInst2 (M := pm_90) (cus := us_115) pOk pg_90 (by decide +kernel) ⟨_, _, _, (pS_nil), (pV_cons (List.mem_of_getElem? (i := 0) rfl) (pV_nil)), e_115⟩ (show ∀ u ∈ us_115, pQ_115 u from qb_115_0)
def pQ_116 (u : sCu) : Prop := ∃ (SM : List sIn) (cu : List sCu) (n : Nat), (∀ I ∈ SM, sInOk pPT I) ∧ (∀ v ∈ cu, v ∈ us_116) ∧ sWkU pPT SM i_116 (mR pm_95) cu n u = true
theorem q_116_0 : pQ_116 u_116_0 := ⟨_, _, _, (pS_nil), (pV_nil), f_116_0⟩
theorem q_116_1 : pQ_116 u_116_1 := ⟨_, _, _, (pS_nil), (pV_nil), f_116_1⟩
theorem qb_116_0 : ∀ u ∈ [u_116_0, u_116_1], pQ_116 u := pU_cons q_116_0 (pU_cons q_116_1 (pU_nil))
theorem ok_116 : sInOk pPT i_116 := sInst2 (M := pm_95) (cus := us_116) pOk pg_95 (by decide +kernel) ⟨_, _, _, (pS_cons ok_87 (pS_nil)), (pV_cons (List.mem_of_getElem? (i := 0) rfl) (pV_cons (List.mem_of_getElem? (i := 1) rfl) (pV_nil))), e_116⟩ (show ∀ u ∈ us_116, pQ_116 u from qb_116_0)
theorem ok_117 : sInOk pPT i_117 := sInst2 (M := pm_106) (cus := []) pOk pg_106 (by decide +kernel) ⟨_, _, _, (pS_cons ok_102 (pS_cons ok_103 (pS_cons ok_108 (pS_cons ok_114 (pS_cons ok_115 (pS_cons ok_116 (pS_nil))))))), pV_nil, e_117⟩ pU_nil
theorem ok_118 : sInOk pPT i_118 := sInst2 (M := pm_58) (cus := []) pOk pg_58 (by decide +kernel) ⟨_, _, _, (pS_nil), pV_nil, e_118⟩ pU_nil
theorem ok_119 : sInOk pPT i_119 := sInst2 (M := pm_58) (cus := []) pOk pg_58 (by decide +kernel) ⟨_, _, _, (pS_nil), pV_nil, e_119⟩ pU_nil
theorem ok_120 : sInOk pPT i_120 := sInst2 (M := pm_58) (cus := []) pOk pg_58 (by decide +kernel) ⟨_, _, _, (pS_nil), pV_nil, e_120⟩ pU_nil
theorem ok_121 : sInOk pPT i_121 := sInst2 (M := pm_58) (cus := []) pOk pg_58 (by decide +kernel) ⟨_, _, _, (pS_nil), pV_nil, e_121⟩ pU_nil
theorem ok_122 : sInOk pPT i_122 := sInst2 (M := pm_58) (cus := []) pOk pg_58 (by decide +kernel) ⟨_, _, _, (pS_nil), pV_nil, e_122⟩ pU_nil
theorem ok_123 : sInOk pPT i_123 := sInst2 (M := pm_124) (cus := []) pOk pg_124 (by decide +kernel) ⟨_, _, _, (pS_cons ok_118 (pS_cons ok_119 (pS_cons ok_120 (pS_cons ok_121 (pS_cons ok_122 (pS_nil)))))), pV_nil, e_123⟩ pU_nil
theorem ok_124 : sInOk pPT i_124 := sInst2 (M := pm_58) (cus := []) pOk pg_58 (by decide +kernel) ⟨_, _, _, (pS_nil), pV_nil, e_124⟩ pU_nil
theorem ok_125 : sInOk pPT i_125 := sInst2 (M := pm_58) (cus := []) pOk pg_58 (by decide +kernel) ⟨_, _, _, (pS_nil), pV_nil, e_125⟩ pU_nil
theorem ok_126 : sInOk pPT i_126 := sInst2 (M := pm_58) (cus := []) pOk pg_58 (by decide +kernel) ⟨_, _, _, (pS_nil), pV_nil, e_126⟩ pU_nil
theorem ok_127 : sInOk pPT i_127 := sInst2 (M := pm_58) (cus := []) pOk pg_58 (by decide +kernel) ⟨_, _, _, (pS_nil), pV_nil, e_127⟩ pU_nil
def pQ_128 (u : sCu) : Prop := ∃ (SM : List sIn) (cu : List sCu) (n : Nat), (∀ I ∈ SM, sInOk pPT I) ∧ (∀ v ∈ cu, v ∈ us_128) ∧ sWkU pPT SM i_128 (mR pm_79) cu n u = true
theorem q_128_0 : pQ_128 u_128_0 := ⟨_, _, _, (pS_nil), (pV_nil), f_128_0⟩
theorem q_128_1 : pQ_128 u_128_1 := ⟨_, _, _, (pS_cons ok_87 (pS_nil)), (pV_nil), f_128_1⟩
theorem qb_128_0 : ∀ u ∈ [u_128_0, u_128_1], pQ_128 u := pU_cons q_128_0 (pU_cons q_128_1 (pU_nil))
theorem ok_128 : sInOk pPT i_128 := sInst2 (M := pm_79) (cus := us_128) pOk pg_79 (by decide +kernel) ⟨_, _, _, (pS_nil), (pV_cons (List.mem_of_getElem? (i := 0) rfl) (pV_cons (List.mem_of_getElem? (i := 1) rfl) (pV_nil))), e_128⟩ (show ∀ u ∈ us_128, pQ_128 u from qb_128_0)
def pQ_129 (u : sCu) : Prop := ∃ (SM : List sIn) (cu : List sCu) (n : Nat), (∀ I ∈ SM, sInOk pPT I) ∧ (∀ v ∈ cu, v ∈ us_129) ∧ sWkU pPT SM i_129 (mR pm_79) cu n u = true
theorem q_129_0 : pQ_129 u_129_0 := ⟨_, _, _, (pS_nil), (pV_nil), f_129_0⟩
theorem qb_129_0 : ∀ u ∈ [u_129_0], pQ_129 u := pU_cons q_129_0 (pU_nil)
theorem ok_129 : sInOk pPT i_129 := sInst2 (M := pm_79) (cus := us_129) pOk pg_79 (by decide +kernel) ⟨_, _, _, (pS_nil), (pV_cons (List.mem_of_getElem? (i := 0) rfl) (pV_nil)), e_129⟩ (show ∀ u ∈ us_129, pQ_129 u from qb_129_0)
theorem ok_130 : sInOk pPT i_130 := sInst2 (M := pm_58) (cus := []) pOk pg_58 (by decide +kernel) ⟨_, _, _, (pS_nil), pV_nil, e_130⟩ pU_nil
theorem ok_131 : sInOk pPT i_131 := sInst2 (M := pm_58) (cus := []) pOk pg_58 (by decide +kernel) ⟨_, _, _, (pS_nil), pV_nil, e_131⟩ pU_nil
theorem ok_132 : sInOk pPT i_132 := sInst2 (M := pm_58) (cus := []) pOk pg_58 (by decide +kernel) ⟨_, _, _, (pS_nil), pV_nil, e_132⟩ pU_nil
theorem ok_133 : sInOk pPT i_133 := sInst2 (M := pm_58) (cus := []) pOk pg_58 (by decide +kernel) ⟨_, _, _, (pS_nil), pV_nil, e_133⟩ pU_nil
theorem ok_134 : sInOk pPT i_134 := sInst2 (M := pm_58) (cus := []) pOk pg_58 (by decide +kernel) ⟨_, _, _, (pS_nil), pV_nil, e_134⟩ pU_nil
theorem ok_135 : sInOk pPT i_135 := sInst2 (M := pm_58) (cus := []) pOk pg_58 (by decide +kernel) ⟨_, _, _, (pS_nil), pV_nil, e_135⟩ pU_nil
theorem ok_136 : sInOk pPT i_136 := sInst2 (M := pm_58) (cus := []) pOk pg_58 (by decide +kernel) ⟨_, _, _, (pS_nil), pV_nil, e_136⟩ pU_nil
theorem ok_137 : sInOk pPT i_137 := sInst2 (M := pm_58) (cus := []) pOk pg_58 (by decide +kernel) ⟨_, _, _, (pS_nil), pV_nil, e_137⟩ pU_nil
theorem ok_138 : sInOk pPT i_138 := sInst2 (M := pm_58) (cus := []) pOk pg_58 (by decide +kernel) ⟨_, _, _, (pS_nil), pV_nil, e_138⟩ pU_nil
theorem ok_139 : sInOk pPT i_139 := sInst2 (M := pm_58) (cus := []) pOk pg_58 (by decide +kernel) ⟨_, _, _, (pS_nil), pV_nil, e_139⟩ pU_nil
theorem ok_140 : sInOk pPT i_140 := sInst2 (M := pm_58) (cus := []) pOk pg_58 (by decide +kernel) ⟨_, _, _, (pS_nil), pV_nil, e_140⟩ pU_nil
theorem ok_141 : sInOk pPT i_141 := sInst2 (M := pm_58) (cus := []) pOk pg_58 (by decide +kernel) ⟨_, _, _, (pS_nil), pV_nil, e_141⟩ pU_nil
theorem ok_142 : sInOk pPT i_142 := sInst2 (M := pm_58) (cus := []) pOk pg_58 (by decide +kernel) ⟨_, _, _, (pS_nil), pV_nil, e_142⟩ pU_nil
theorem ok_143 : sInOk pPT i_143 := sInst2 (M := pm_58) (cus := []) pOk pg_58 (by decide +kernel) ⟨_, _, _, (pS_nil), pV_nil, e_143⟩ pU_nil
theorem ok_144 : sInOk pPT i_144 := sInst2 (M := pm_124) (cus := []) pOk pg_124 (by decide +kernel) ⟨_, _, _, (pS_cons ok_136 (pS_cons ok_137 (pS_cons ok_138 (pS_cons ok_139 (pS_cons ok_140 (pS_cons ok_141 (pS_cons ok_142 (pS_cons ok_143 (pS_nil))))))))), pV_nil, e_144⟩ pU_nil
def pQ_145 (u : sCu) : Prop := ∃ (SM : List sIn) (cu : List sCu) (n : Nat), (∀ I ∈ SM, sInOk pPT I) ∧ (∀ v ∈ cu, v ∈ us_145) ∧ sWkU pPT SM i_145 (mR pm_79) cu n u = true
theorem q_145_0 : pQ_145 u_145_0 := ⟨_, _, _, (pS_nil), (pV_nil), f_145_0⟩
theorem q_145_1 : pQ_145 u_145_1 := ⟨_, _, _, (pS_cons ok_87 (pS_nil)), (pV_nil), f_145_1⟩
theorem qb_145_0 : ∀ u ∈ [u_145_0, u_145_1], pQ_145 u := pU_cons q_145_0 (pU_cons q_145_1 (pU_nil))
theorem ok_145 : sInOk pPT i_145 := sInst2 (M := pm_79) (cus := us_145) pOk pg_79 (by decide +kernel) ⟨_, _, _, (pS_nil), (pV_cons (List.mem_of_getElem? (i := 0) rfl) (pV_cons (List.mem_of_getElem? (i := 1) rfl) (pV_nil))), e_145⟩ (show ∀ u ∈ us_145, pQ_145 u from qb_145_0)
def pQ_146 (u : sCu) : Prop := ∃ (SM : List sIn) (cu : List sCu) (n : Nat), (∀ I ∈ SM, sInOk pPT I) ∧ (∀ v ∈ cu, v ∈ us_146) ∧ sWkU pPT SM i_146 (mR pm_79) cu n u = true
theorem q_146_0 : pQ_146 u_146_0 := ⟨_, _, _, (pS_nil), (pV_nil), f_146_0⟩
theorem q_146_1 : pQ_146 u_146_1 := ⟨_, _, _, (pS_cons ok_87 (pS_nil)), (pV_nil), f_146_1⟩
theorem qb_146_0 : ∀ u ∈ [u_146_0, u_146_1], pQ_146 u := pU_cons q_146_0 (pU_cons q_146_1 (pU_nil))
theorem ok_146 : sInOk pPT i_146 := sInst2 (M := pm_79) (cus := us_146) pOk pg_79 (by decide +kernel) ⟨_, _, _, (pS_nil), (pV_cons (List.mem_of_getElem? (i := 0) rfl) (pV_cons (List.mem_of_getElem? (i := 1) rfl) (pV_nil))), e_146⟩ (show ∀ u ∈ us_146, pQ_146 u from qb_146_0)
def pQ_147 (u : sCu) : Prop := ∃ (SM : List sIn) (cu : List sCu) (n : Nat), (∀ I ∈ SM, sInOk pPT I) ∧ (∀ v ∈ cu, v ∈ us_147) ∧ sWkU pPT SM i_147 (mR pm_79) cu n u = true
theorem q_147_0 : pQ_147 u_147_0 := ⟨_, _, _, (pS_nil), (pV_nil), f_147_0⟩
theorem qb_147_0 : ∀ u ∈ [u_147_0], pQ_147 u := pU_cons q_147_0 (pU_nil)
theorem ok_147 : sInOk pPT i_147 := sInst2 (M := pm_79) (cus := us_147) pOk pg_79 (by decide +kernel) ⟨_, _, _, (pS_nil), (pV_cons (List.mem_of_getElem? (i := 0) rfl) (pV_nil)), e_147⟩ (show ∀ u ∈ us_147, pQ_147 u from qb_147_0)
theorem ok_148 : sInOk pPT i_148 := sInst2 (M := pm_96) (cus := []) pOk pg_96 (by decide +kernel) ⟨_, _, _, (pS_nil), pV_nil, e_148⟩ pU_nil
def pQ_149 (u : sCu) : Prop := ∃ (SM : List sIn) (cu : List sCu) (n : Nat), (∀ I ∈ SM, sInOk pPT I) ∧ (∀ v ∈ cu, v ∈ us_149) ∧ sWkU pPT SM i_149 (mR pm_97) cu n u = true
theorem q_149_0 : pQ_149 u_149_0 := ⟨_, _, _, (pS_nil), (pV_nil), f_149_0⟩
theorem qb_149_0 : ∀ u ∈ [u_149_0], pQ_149 u := pU_cons q_149_0 (pU_nil)
theorem ok_149 : sInOk pPT i_149 := sInst2 (M := pm_97) (cus := us_149) pOk pg_97 (by decide +kernel) ⟨_, _, _, (pS_cons ok_148 (pS_nil)), (pV_cons (List.mem_of_getElem? (i := 0) rfl) (pV_nil)), e_149⟩ (show ∀ u ∈ us_149, pQ_149 u from qb_149_0)
def pQ_150 (u : sCu) : Prop := ∃ (SM : List sIn) (cu : List sCu) (n : Nat), (∀ I ∈ SM, sInOk pPT I) ∧ (∀ v ∈ cu, v ∈ us_150) ∧ sWkU pPT SM i_150 (mR pm_98) cu n u = true
theorem q_150_0 : pQ_150 u_150_0 := ⟨_, _, _, (pS_nil), (pV_nil), f_150_0⟩
theorem qb_150_0 : ∀ u ∈ [u_150_0], pQ_150 u := pU_cons q_150_0 (pU_nil)
theorem ok_150 : sInOk pPT i_150 := sInst2 (M := pm_98) (cus := us_150) pOk pg_98 (by decide +kernel) ⟨_, _, _, (pS_cons ok_149 (pS_nil)), (pV_cons (List.mem_of_getElem? (i := 0) rfl) (pV_nil)), e_150⟩ (show ∀ u ∈ us_150, pQ_150 u from qb_150_0)
def pQ_151 (u : sCu) : Prop := ∃ (SM : List sIn) (cu : List sCu) (n : Nat), (∀ I ∈ SM, sInOk pPT I) ∧ (∀ v ∈ cu, v ∈ us_151) ∧ sWkU pPT SM i_151 (mR pm_94) cu n u = true
theorem q_151_0 : pQ_151 u_151_0 := ⟨_, _, _, (pS_cons ok_135 (pS_cons ok_150 (pS_nil))), (pV_cons (List.mem_of_getElem? (i := 1) rfl) (pV_nil)), f_151_0⟩
theorem q_151_1 : pQ_151 u_151_1 := ⟨_, _, _, (pS_nil), (pV_cons (List.mem_of_getElem? (i := 2) rfl) (pV_nil)), f_151_1⟩
theorem q_151_2 : pQ_151 u_151_2 := ⟨_, _, _, (pS_nil), (pV_nil), f_151_2⟩
theorem qb_151_0 : ∀ u ∈ [u_151_0, u_151_1, u_151_2], pQ_151 u := pU_cons q_151_0 (pU_cons q_151_1 (pU_cons q_151_2 (pU_nil)))
theorem ok_151 : sInOk pPT i_151 := sInst2 (M := pm_94) (cus := us_151) pOk pg_94 (by decide +kernel) ⟨_, _, _, (pS_nil), (pV_cons (List.mem_of_getElem? (i := 0) rfl) (pV_nil)), e_151⟩ (show ∀ u ∈ us_151, pQ_151 u from qb_151_0)
def pQ_152 (u : sCu) : Prop := ∃ (SM : List sIn) (cu : List sCu) (n : Nat), (∀ I ∈ SM, sInOk pPT I) ∧ (∀ v ∈ cu, v ∈ us_152) ∧ sWkU pPT SM i_152 (mR pm_91) cu n u = true
theorem q_152_0 : pQ_152 u_152_0 := ⟨_, _, _, (pS_cons ok_133 (pS_nil)), (pV_nil), f_152_0⟩
theorem qb_152_0 : ∀ u ∈ [u_152_0], pQ_152 u := pU_cons q_152_0 (pU_nil)
theorem ok_152 : sInOk pPT i_152 := sInst2 (M := pm_91) (cus := us_152) pOk pg_91 (by decide +kernel) ⟨_, _, _, (pS_cons ok_151 (pS_nil)), (pV_cons (List.mem_of_getElem? (i := 0) rfl) (pV_nil)), e_152⟩ (show ∀ u ∈ us_152, pQ_152 u from qb_152_0)
def pQ_153 (u : sCu) : Prop := ∃ (SM : List sIn) (cu : List sCu) (n : Nat), (∀ I ∈ SM, sInOk pPT I) ∧ (∀ v ∈ cu, v ∈ us_153) ∧ sWkU pPT SM i_153 (mR pm_92) cu n u = true
theorem q_153_0 : pQ_153 u_153_0 := ⟨_, _, _, (pS_nil), (pV_cons (List.mem_of_getElem? (i := 1) rfl) (pV_nil)), f_153_0⟩
theorem q_153_1 : pQ_153 u_153_1 := ⟨_, _, _, (pS_nil), (pV_cons (List.mem_of_getElem? (i := 2) rfl) (pV_nil)), f_153_1⟩
theorem q_153_2 : pQ_153 u_153_2 := ⟨_, _, _, (pS_cons ok_152 (pS_nil)), (pV_cons (List.mem_of_getElem? (i := 3) rfl) (pV_nil)), f_153_2⟩
theorem q_153_3 : pQ_153 u_153_3 := ⟨_, _, _, (pS_cons ok_131 (pS_nil)), (pV_nil), f_153_3⟩
theorem qb_153_0 : ∀ u ∈ [u_153_0, u_153_1, u_153_2, u_153_3], pQ_153 u := pU_cons q_153_0 (pU_cons q_153_1 (pU_cons q_153_2 (pU_cons q_153_3 (pU_nil))))
theorem ok_153 : sInOk pPT i_153 := sInst2 (M := pm_92) (cus := us_153) pOk pg_92 (by decide +kernel) ⟨_, _, _, (pS_nil), (pV_cons (List.mem_of_getElem? (i := 0) rfl) (pV_cons (List.mem_of_getElem? (i := 1) rfl) (pV_nil))), e_153⟩ (show ∀ u ∈ us_153, pQ_153 u from qb_153_0)
theorem ok_154 : sInOk pPT i_154 := sInst2 (M := pm_92) (cus := []) pOk pg_92 (by decide +kernel) ⟨_, _, _, (pS_nil), pV_nil, e_154⟩ pU_nil
def pQ_155 (u : sCu) : Prop := ∃ (SM : List sIn) (cu : List sCu) (n : Nat), (∀ I ∈ SM, sInOk pPT I) ∧ (∀ v ∈ cu, v ∈ us_155) ∧ sWkU pPT SM i_155 (mR pm_95) cu n u = true
theorem q_155_0 : pQ_155 u_155_0 := ⟨_, _, _, (pS_nil), (pV_nil), f_155_0⟩
theorem q_155_1 : pQ_155 u_155_1 := ⟨_, _, _, (pS_nil), (pV_nil), f_155_1⟩
theorem qb_155_0 : ∀ u ∈ [u_155_0, u_155_1], pQ_155 u := pU_cons q_155_0 (pU_cons q_155_1 (pU_nil))
theorem ok_155 : sInOk pPT i_155 := sInst2 (M := pm_95) (cus := us_155) pOk pg_95 (by decide +kernel) ⟨_, _, _, (pS_cons ok_87 (pS_nil)), (pV_cons (List.mem_of_getElem? (i := 0) rfl) (pV_cons (List.mem_of_getElem? (i := 1) rfl) (pV_nil))), e_155⟩ (show ∀ u ∈ us_155, pQ_155 u from qb_155_0)
def pQ_156 (u : sCu) : Prop := ∃ (SM : List sIn) (cu : List sCu) (n : Nat), (∀ I ∈ SM, sInOk pPT I) ∧ (∀ v ∈ cu, v ∈ us_156) ∧ sWkU pPT SM i_156 (mR pm_96) cu n u = true
theorem q_156_0 : pQ_156 u_156_0 := ⟨_, _, _, (pS_cons ok_87 (pS_nil)), (pV_nil), f_156_0⟩
theorem q_156_1 : pQ_156 u_156_1 := ⟨_, _, _, (pS_nil), (pV_nil), f_156_1⟩
theorem qb_156_0 : ∀ u ∈ [u_156_0, u_156_1], pQ_156 u := pU_cons q_156_0 (pU_cons q_156_1 (pU_nil))
theorem ok_156 : sInOk pPT i_156 := sInst2 (M := pm_96) (cus := us_156) pOk pg_96 (by decide +kernel) ⟨_, _, _, (pS_cons ok_144 (pS_cons ok_145 (pS_cons ok_147 (pS_cons ok_153 (pS_cons ok_154 (pS_cons ok_155 (pS_nil))))))), (pV_cons (List.mem_of_getElem? (i := 0) rfl) (pV_cons (List.mem_of_getElem? (i := 1) rfl) (pV_nil))), e_156⟩ (show ∀ u ∈ us_156, pQ_156 u from qb_156_0)
def pQ_157 (u : sCu) : Prop := ∃ (SM : List sIn) (cu : List sCu) (n : Nat), (∀ I ∈ SM, sInOk pPT I) ∧ (∀ v ∈ cu, v ∈ us_157) ∧ sWkU pPT SM i_157 (mR pm_97) cu n u = true
theorem q_157_0 : pQ_157 u_157_0 := ⟨_, _, _, (pS_nil), (pV_nil), f_157_0⟩
theorem q_157_1 : pQ_157 u_157_1 := ⟨_, _, _, (pS_nil), (pV_cons (List.mem_of_getElem? (i := 2) rfl) (pV_nil)), f_157_1⟩
theorem q_157_2 : pQ_157 u_157_2 := ⟨_, _, _, (pS_nil), (pV_cons (List.mem_of_getElem? (i := 3) rfl) (pV_nil)), f_157_2⟩
theorem q_157_3 : pQ_157 u_157_3 := ⟨_, _, _, (pS_cons ok_87 (pS_cons ok_156 (pS_nil))), (pV_cons (List.mem_of_getElem? (i := 0) rfl) (pV_cons (List.mem_of_getElem? (i := 1) rfl) (pV_nil))), f_157_3⟩
theorem qb_157_0 : ∀ u ∈ [u_157_0, u_157_1, u_157_2, u_157_3], pQ_157 u := pU_cons q_157_0 (pU_cons q_157_1 (pU_cons q_157_2 (pU_cons q_157_3 (pU_nil))))
theorem ok_157 : sInOk pPT i_157 := sInst2 (M := pm_97) (cus := us_157) pOk pg_97 (by decide +kernel) ⟨_, _, _, (pS_cons ok_156 (pS_nil)), (pV_cons (List.mem_of_getElem? (i := 0) rfl) (pV_cons (List.mem_of_getElem? (i := 1) rfl) (pV_nil))), e_157⟩ (show ∀ u ∈ us_157, pQ_157 u from qb_157_0)
def pQ_158 (u : sCu) : Prop := ∃ (SM : List sIn) (cu : List sCu) (n : Nat), (∀ I ∈ SM, sInOk pPT I) ∧ (∀ v ∈ cu, v ∈ us_158) ∧ sWkU pPT SM i_158 (mR pm_98) cu n u = true
theorem q_158_0 : pQ_158 u_158_0 := ⟨_, _, _, (pS_nil), (pV_nil), f_158_0⟩
theorem q_158_1 : pQ_158 u_158_1 := ⟨_, _, _, (pS_nil), (pV_cons (List.mem_of_getElem? (i := 2) rfl) (pV_nil)), f_158_1⟩
theorem q_158_2 : pQ_158 u_158_2 := ⟨_, _, _, (pS_nil), (pV_cons (List.mem_of_getElem? (i := 3) rfl) (pV_nil)), f_158_2⟩
theorem q_158_3 : pQ_158 u_158_3 := ⟨_, _, _, (pS_cons ok_87 (pS_cons ok_157 (pS_nil))), (pV_cons (List.mem_of_getElem? (i := 0) rfl) (pV_cons (List.mem_of_getElem? (i := 1) rfl) (pV_nil))), f_158_3⟩
theorem qb_158_0 : ∀ u ∈ [u_158_0, u_158_1, u_158_2, u_158_3], pQ_158 u := pU_cons q_158_0 (pU_cons q_158_1 (pU_cons q_158_2 (pU_cons q_158_3 (pU_nil))))
theorem ok_158 : sInOk pPT i_158 := sInst2 (M := pm_98) (cus := us_158) pOk pg_98 (by decide +kernel) ⟨_, _, _, (pS_cons ok_157 (pS_nil)), (pV_cons (List.mem_of_getElem? (i := 0) rfl) (pV_cons (List.mem_of_getElem? (i := 1) rfl) (pV_nil))), e_158⟩ (show ∀ u ∈ us_158, pQ_158 u from qb_158_0)
theorem ok_159 : sInOk pPT i_159 := sInst2 (M := pm_96) (cus := []) pOk pg_96 (by decide +kernel) ⟨_, _, _, (pS_nil), pV_nil, e_159⟩ pU_nil
def pQ_160 (u : sCu) : Prop := ∃ (SM : List sIn) (cu : List sCu) (n : Nat), (∀ I ∈ SM, sInOk pPT I) ∧ (∀ v ∈ cu, v ∈ us_160) ∧ sWkU pPT SM i_160 (mR pm_97) cu n u = true
theorem q_160_0 : pQ_160 u_160_0 := ⟨_, _, _, (pS_nil), (pV_nil), f_160_0⟩
theorem qb_160_0 : ∀ u ∈ [u_160_0], pQ_160 u := pU_cons q_160_0 (pU_nil)
theorem ok_160 : sInOk pPT i_160 := sInst2 (M := pm_97) (cus := us_160) pOk pg_97 (by decide +kernel) ⟨_, _, _, (pS_cons ok_159 (pS_nil)), (pV_cons (List.mem_of_getElem? (i := 0) rfl) (pV_nil)), e_160⟩ (show ∀ u ∈ us_160, pQ_160 u from qb_160_0)
def pQ_161 (u : sCu) : Prop := ∃ (SM : List sIn) (cu : List sCu) (n : Nat), (∀ I ∈ SM, sInOk pPT I) ∧ (∀ v ∈ cu, v ∈ us_161) ∧ sWkU pPT SM i_161 (mR pm_98) cu n u = true
theorem q_161_0 : pQ_161 u_161_0 := ⟨_, _, _, (pS_nil), (pV_nil), f_161_0⟩
theorem qb_161_0 : ∀ u ∈ [u_161_0], pQ_161 u := pU_cons q_161_0 (pU_nil)
theorem ok_161 : sInOk pPT i_161 := sInst2 (M := pm_98) (cus := us_161) pOk pg_98 (by decide +kernel) ⟨_, _, _, (pS_cons ok_160 (pS_nil)), (pV_cons (List.mem_of_getElem? (i := 0) rfl) (pV_nil)), e_161⟩ (show ∀ u ∈ us_161, pQ_161 u from qb_161_0)
def pQ_162 (u : sCu) : Prop := ∃ (SM : List sIn) (cu : List sCu) (n : Nat), (∀ I ∈ SM, sInOk pPT I) ∧ (∀ v ∈ cu, v ∈ us_162) ∧ sWkU pPT SM i_162 (mR pm_94) cu n u = true
theorem q_162_0 : pQ_162 u_162_0 := ⟨_, _, _, (pS_cons ok_134 (pS_cons ok_158 (pS_nil))), (pV_cons (List.mem_of_getElem? (i := 1) rfl) (pV_cons (List.mem_of_getElem? (i := 2) rfl) (pV_cons (List.mem_of_getElem? (i := 3) rfl) (pV_cons (List.mem_of_getElem? (i := 4) rfl) (pV_nil))))), f_162_0⟩
theorem q_162_1 : pQ_162 u_162_1 := ⟨_, _, _, (pS_nil), (pV_cons (List.mem_of_getElem? (i := 5) rfl) (pV_nil)), f_162_1⟩
theorem q_162_2 : pQ_162 u_162_2 := ⟨_, _, _, (pS_nil), (pV_cons (List.mem_of_getElem? (i := 6) rfl) (pV_nil)), f_162_2⟩
theorem q_162_3 : pQ_162 u_162_3 := ⟨_, _, _, (pS_nil), (pV_cons (List.mem_of_getElem? (i := 7) rfl) (pV_nil)), f_162_3⟩
theorem q_162_4 : pQ_162 u_162_4 := ⟨_, _, _, (pS_cons ok_87 (pS_nil)), (pV_cons (List.mem_of_getElem? (i := 8) rfl) (pV_nil)), f_162_4⟩
theorem q_162_5 : pQ_162 u_162_5 := ⟨_, _, _, (pS_nil), (pV_nil), f_162_5⟩
theorem q_162_6 : pQ_162 u_162_6 := ⟨_, _, _, (pS_nil), (pV_nil), f_162_6⟩
theorem q_162_7 : pQ_162 u_162_7 := ⟨_, _, _, (pS_cons ok_87 (pS_cons ok_158 (pS_nil))), (pV_cons (List.mem_of_getElem? (i := 1) rfl) (pV_cons (List.mem_of_getElem? (i := 2) rfl) (pV_nil))), f_162_7⟩
theorem q_162_8 : pQ_162 u_162_8 := ⟨_, _, _, (pS_cons ok_134 (pS_cons ok_158 (pS_nil))), (pV_cons (List.mem_of_getElem? (i := 11) rfl) (pV_cons (List.mem_of_getElem? (i := 12) rfl) (pV_cons (List.mem_of_getElem? (i := 13) rfl) (pV_cons (List.mem_of_getElem? (i := 14) rfl) (pV_nil))))), f_162_8⟩
theorem q_162_9 : pQ_162 u_162_9 := ⟨_, _, _, (pS_nil), (pV_cons (List.mem_of_getElem? (i := 5) rfl) (pV_nil)), f_162_9⟩
theorem q_162_10 : pQ_162 u_162_10 := ⟨_, _, _, (pS_nil), (pV_cons (List.mem_of_getElem? (i := 6) rfl) (pV_nil)), f_162_10⟩
theorem q_162_11 : pQ_162 u_162_11 := ⟨_, _, _, (pS_nil), (pV_cons (List.mem_of_getElem? (i := 15) rfl) (pV_nil)), f_162_11⟩
theorem q_162_12 : pQ_162 u_162_12 := ⟨_, _, _, (pS_nil), (pV_cons (List.mem_of_getElem? (i := 16) rfl) (pV_nil)), f_162_12⟩
theorem q_162_13 : pQ_162 u_162_13 := ⟨_, _, _, (pS_nil), (pV_cons (List.mem_of_getElem? (i := 17) rfl) (pV_nil)), f_162_13⟩
theorem q_162_14 : pQ_162 u_162_14 := ⟨_, _, _, (pS_cons ok_87 (pS_nil)), (pV_cons (List.mem_of_getElem? (i := 18) rfl) (pV_nil)), f_162_14⟩
theorem q_162_15 : pQ_162 u_162_15 := ⟨_, _, _, (pS_nil), (pV_cons (List.mem_of_getElem? (i := 19) rfl) (pV_nil)), f_162_15⟩
theorem q_162_16 : pQ_162 u_162_16 := ⟨_, _, _, (pS_nil), (pV_cons (List.mem_of_getElem? (i := 20) rfl) (pV_nil)), f_162_16⟩
theorem q_162_17 : pQ_162 u_162_17 := ⟨_, _, _, (pS_cons ok_87 (pS_cons ok_158 (pS_nil))), (pV_cons (List.mem_of_getElem? (i := 11) rfl) (pV_cons (List.mem_of_getElem? (i := 12) rfl) (pV_nil))), f_162_17⟩
theorem q_162_18 : pQ_162 u_162_18 := ⟨_, _, _, (pS_cons ok_134 (pS_cons ok_158 (pS_nil))), (pV_cons (List.mem_of_getElem? (i := 23) rfl) (pV_cons (List.mem_of_getElem? (i := 24) rfl) (pV_cons (List.mem_of_getElem? (i := 25) rfl) (pV_cons (List.mem_of_getElem? (i := 26) rfl) (pV_nil))))), f_162_18⟩
theorem q_162_19 : pQ_162 u_162_19 := ⟨_, _, _, (pS_nil), (pV_nil), f_162_19⟩
theorem q_162_20 : pQ_162 u_162_20 := ⟨_, _, _, (pS_nil), (pV_nil), f_162_20⟩
theorem q_162_21 : pQ_162 u_162_21 := ⟨_, _, _, (pS_nil), (pV_cons (List.mem_of_getElem? (i := 15) rfl) (pV_nil)), f_162_21⟩
theorem q_162_22 : pQ_162 u_162_22 := ⟨_, _, _, (pS_nil), (pV_cons (List.mem_of_getElem? (i := 16) rfl) (pV_nil)), f_162_22⟩
theorem q_162_23 : pQ_162 u_162_23 := ⟨_, _, _, (pS_nil), (pV_cons (List.mem_of_getElem? (i := 27) rfl) (pV_nil)), f_162_23⟩
theorem q_162_24 : pQ_162 u_162_24 := ⟨_, _, _, (pS_nil), (pV_cons (List.mem_of_getElem? (i := 28) rfl) (pV_nil)), f_162_24⟩
theorem q_162_25 : pQ_162 u_162_25 := ⟨_, _, _, (pS_nil), (pV_cons (List.mem_of_getElem? (i := 29) rfl) (pV_nil)), f_162_25⟩
theorem q_162_26 : pQ_162 u_162_26 := ⟨_, _, _, (pS_cons ok_87 (pS_nil)), (pV_cons (List.mem_of_getElem? (i := 30) rfl) (pV_nil)), f_162_26⟩
theorem q_162_27 : pQ_162 u_162_27 := ⟨_, _, _, (pS_nil), (pV_cons (List.mem_of_getElem? (i := 31) rfl) (pV_nil)), f_162_27⟩
theorem q_162_28 : pQ_162 u_162_28 := ⟨_, _, _, (pS_nil), (pV_cons (List.mem_of_getElem? (i := 32) rfl) (pV_nil)), f_162_28⟩
theorem q_162_29 : pQ_162 u_162_29 := ⟨_, _, _, (pS_cons ok_87 (pS_cons ok_158 (pS_nil))), (pV_cons (List.mem_of_getElem? (i := 23) rfl) (pV_cons (List.mem_of_getElem? (i := 24) rfl) (pV_nil))), f_162_29⟩
theorem q_162_30 : pQ_162 u_162_30 := ⟨_, _, _, (pS_cons ok_134 (pS_cons ok_158 (pS_nil))), (pV_cons (List.mem_of_getElem? (i := 35) rfl) (pV_cons (List.mem_of_getElem? (i := 36) rfl) (pV_cons (List.mem_of_getElem? (i := 37) rfl) (pV_cons (List.mem_of_getElem? (i := 38) rfl) (pV_nil))))), f_162_30⟩
theorem q_162_31 : pQ_162 u_162_31 := ⟨_, _, _, (pS_nil), (pV_cons (List.mem_of_getElem? (i := 39) rfl) (pV_nil)), f_162_31⟩
theorem q_162_32 : pQ_162 u_162_32 := ⟨_, _, _, (pS_nil), (pV_cons (List.mem_of_getElem? (i := 40) rfl) (pV_nil)), f_162_32⟩
theorem q_162_33 : pQ_162 u_162_33 := ⟨_, _, _, (pS_nil), (pV_cons (List.mem_of_getElem? (i := 27) rfl) (pV_nil)), f_162_33⟩
theorem q_162_34 : pQ_162 u_162_34 := ⟨_, _, _, (pS_nil), (pV_cons (List.mem_of_getElem? (i := 28) rfl) (pV_nil)), f_162_34⟩
theorem q_162_35 : pQ_162 u_162_35 := ⟨_, _, _, (pS_nil), (pV_cons (List.mem_of_getElem? (i := 41) rfl) (pV_nil)), f_162_35⟩
theorem q_162_36 : pQ_162 u_162_36 := ⟨_, _, _, (pS_nil), (pV_cons (List.mem_of_getElem? (i := 42) rfl) (pV_nil)), f_162_36⟩
theorem q_162_37 : pQ_162 u_162_37 := ⟨_, _, _, (pS_nil), (pV_cons (List.mem_of_getElem? (i := 43) rfl) (pV_nil)), f_162_37⟩
theorem q_162_38 : pQ_162 u_162_38 := ⟨_, _, _, (pS_cons ok_87 (pS_nil)), (pV_cons (List.mem_of_getElem? (i := 44) rfl) (pV_nil)), f_162_38⟩
theorem q_162_39 : pQ_162 u_162_39 := ⟨_, _, _, (pS_nil), (pV_nil), f_162_39⟩
theorem q_162_40 : pQ_162 u_162_40 := ⟨_, _, _, (pS_nil), (pV_nil), f_162_40⟩
theorem q_162_41 : pQ_162 u_162_41 := ⟨_, _, _, (pS_nil), (pV_cons (List.mem_of_getElem? (i := 45) rfl) (pV_nil)), f_162_41⟩
theorem q_162_42 : pQ_162 u_162_42 := ⟨_, _, _, (pS_nil), (pV_cons (List.mem_of_getElem? (i := 46) rfl) (pV_nil)), f_162_42⟩
theorem q_162_43 : pQ_162 u_162_43 := ⟨_, _, _, (pS_cons ok_87 (pS_cons ok_158 (pS_nil))), (pV_cons (List.mem_of_getElem? (i := 35) rfl) (pV_cons (List.mem_of_getElem? (i := 36) rfl) (pV_nil))), f_162_43⟩
theorem q_162_44 : pQ_162 u_162_44 := ⟨_, _, _, (pS_cons ok_134 (pS_cons ok_158 (pS_nil))), (pV_cons (List.mem_of_getElem? (i := 49) rfl) (pV_cons (List.mem_of_getElem? (i := 50) rfl) (pV_cons (List.mem_of_getElem? (i := 51) rfl) (pV_cons (List.mem_of_getElem? (i := 52) rfl) (pV_nil))))), f_162_44⟩
theorem q_162_45 : pQ_162 u_162_45 := ⟨_, _, _, (pS_nil), (pV_cons (List.mem_of_getElem? (i := 53) rfl) (pV_nil)), f_162_45⟩
theorem q_162_46 : pQ_162 u_162_46 := ⟨_, _, _, (pS_nil), (pV_cons (List.mem_of_getElem? (i := 54) rfl) (pV_nil)), f_162_46⟩
theorem q_162_47 : pQ_162 u_162_47 := ⟨_, _, _, (pS_nil), (pV_cons (List.mem_of_getElem? (i := 41) rfl) (pV_nil)), f_162_47⟩
theorem q_162_48 : pQ_162 u_162_48 := ⟨_, _, _, (pS_nil), (pV_cons (List.mem_of_getElem? (i := 42) rfl) (pV_nil)), f_162_48⟩
theorem q_162_49 : pQ_162 u_162_49 := ⟨_, _, _, (pS_nil), (pV_cons (List.mem_of_getElem? (i := 55) rfl) (pV_nil)), f_162_49⟩
theorem q_162_50 : pQ_162 u_162_50 := ⟨_, _, _, (pS_nil), (pV_cons (List.mem_of_getElem? (i := 56) rfl) (pV_nil)), f_162_50⟩
theorem q_162_51 : pQ_162 u_162_51 := ⟨_, _, _, (pS_nil), (pV_cons (List.mem_of_getElem? (i := 57) rfl) (pV_nil)), f_162_51⟩
theorem q_162_52 : pQ_162 u_162_52 := ⟨_, _, _, (pS_cons ok_87 (pS_nil)), (pV_cons (List.mem_of_getElem? (i := 58) rfl) (pV_nil)), f_162_52⟩
theorem q_162_53 : pQ_162 u_162_53 := ⟨_, _, _, (pS_nil), (pV_cons (List.mem_of_getElem? (i := 59) rfl) (pV_nil)), f_162_53⟩
theorem q_162_54 : pQ_162 u_162_54 := ⟨_, _, _, (pS_nil), (pV_cons (List.mem_of_getElem? (i := 60) rfl) (pV_nil)), f_162_54⟩
theorem q_162_55 : pQ_162 u_162_55 := ⟨_, _, _, (pS_nil), (pV_cons (List.mem_of_getElem? (i := 61) rfl) (pV_nil)), f_162_55⟩
theorem q_162_56 : pQ_162 u_162_56 := ⟨_, _, _, (pS_nil), (pV_cons (List.mem_of_getElem? (i := 62) rfl) (pV_nil)), f_162_56⟩
theorem q_162_57 : pQ_162 u_162_57 := ⟨_, _, _, (pS_cons ok_87 (pS_cons ok_158 (pS_nil))), (pV_cons (List.mem_of_getElem? (i := 49) rfl) (pV_cons (List.mem_of_getElem? (i := 50) rfl) (pV_nil))), f_162_57⟩
theorem q_162_58 : pQ_162 u_162_58 := ⟨_, _, _, (pS_cons ok_134 (pS_cons ok_158 (pS_nil))), (pV_cons (List.mem_of_getElem? (i := 65) rfl) (pV_cons (List.mem_of_getElem? (i := 66) rfl) (pV_cons (List.mem_of_getElem? (i := 67) rfl) (pV_cons (List.mem_of_getElem? (i := 68) rfl) (pV_nil))))), f_162_58⟩
theorem q_162_59 : pQ_162 u_162_59 := ⟨_, _, _, (pS_nil), (pV_nil), f_162_59⟩
theorem q_162_60 : pQ_162 u_162_60 := ⟨_, _, _, (pS_nil), (pV_nil), f_162_60⟩
theorem q_162_61 : pQ_162 u_162_61 := ⟨_, _, _, (pS_nil), (pV_cons (List.mem_of_getElem? (i := 69) rfl) (pV_nil)), f_162_61⟩
theorem q_162_62 : pQ_162 u_162_62 := ⟨_, _, _, (pS_nil), (pV_cons (List.mem_of_getElem? (i := 70) rfl) (pV_nil)), f_162_62⟩
theorem q_162_63 : pQ_162 u_162_63 := ⟨_, _, _, (pS_nil), (pV_cons (List.mem_of_getElem? (i := 55) rfl) (pV_nil)), f_162_63⟩
theorem q_162_64 : pQ_162 u_162_64 := ⟨_, _, _, (pS_nil), (pV_cons (List.mem_of_getElem? (i := 56) rfl) (pV_nil)), f_162_64⟩
theorem q_162_65 : pQ_162 u_162_65 := ⟨_, _, _, (pS_nil), (pV_cons (List.mem_of_getElem? (i := 71) rfl) (pV_nil)), f_162_65⟩
theorem q_162_66 : pQ_162 u_162_66 := ⟨_, _, _, (pS_nil), (pV_cons (List.mem_of_getElem? (i := 72) rfl) (pV_nil)), f_162_66⟩
theorem q_162_67 : pQ_162 u_162_67 := ⟨_, _, _, (pS_nil), (pV_cons (List.mem_of_getElem? (i := 73) rfl) (pV_nil)), f_162_67⟩
theorem q_162_68 : pQ_162 u_162_68 := ⟨_, _, _, (pS_cons ok_87 (pS_nil)), (pV_cons (List.mem_of_getElem? (i := 74) rfl) (pV_nil)), f_162_68⟩
theorem q_162_69 : pQ_162 u_162_69 := ⟨_, _, _, (pS_nil), (pV_cons (List.mem_of_getElem? (i := 75) rfl) (pV_nil)), f_162_69⟩
theorem q_162_70 : pQ_162 u_162_70 := ⟨_, _, _, (pS_nil), (pV_cons (List.mem_of_getElem? (i := 76) rfl) (pV_nil)), f_162_70⟩
theorem q_162_71 : pQ_162 u_162_71 := ⟨_, _, _, (pS_nil), (pV_cons (List.mem_of_getElem? (i := 77) rfl) (pV_nil)), f_162_71⟩
theorem q_162_72 : pQ_162 u_162_72 := ⟨_, _, _, (pS_nil), (pV_cons (List.mem_of_getElem? (i := 78) rfl) (pV_nil)), f_162_72⟩
theorem q_162_73 : pQ_162 u_162_73 := ⟨_, _, _, (pS_cons ok_87 (pS_cons ok_158 (pS_nil))), (pV_cons (List.mem_of_getElem? (i := 65) rfl) (pV_cons (List.mem_of_getElem? (i := 66) rfl) (pV_nil))), f_162_73⟩
theorem q_162_74 : pQ_162 u_162_74 := ⟨_, _, _, (pS_cons ok_134 (pS_cons ok_158 (pS_nil))), (pV_cons (List.mem_of_getElem? (i := 81) rfl) (pV_cons (List.mem_of_getElem? (i := 82) rfl) (pV_cons (List.mem_of_getElem? (i := 83) rfl) (pV_cons (List.mem_of_getElem? (i := 84) rfl) (pV_nil))))), f_162_74⟩
theorem q_162_75 : pQ_162 u_162_75 := ⟨_, _, _, (pS_nil), (pV_cons (List.mem_of_getElem? (i := 85) rfl) (pV_nil)), f_162_75⟩
theorem q_162_76 : pQ_162 u_162_76 := ⟨_, _, _, (pS_nil), (pV_cons (List.mem_of_getElem? (i := 86) rfl) (pV_nil)), f_162_76⟩
theorem q_162_77 : pQ_162 u_162_77 := ⟨_, _, _, (pS_nil), (pV_cons (List.mem_of_getElem? (i := 87) rfl) (pV_nil)), f_162_77⟩
theorem q_162_78 : pQ_162 u_162_78 := ⟨_, _, _, (pS_nil), (pV_cons (List.mem_of_getElem? (i := 88) rfl) (pV_nil)), f_162_78⟩
theorem q_162_79 : pQ_162 u_162_79 := ⟨_, _, _, (pS_nil), (pV_cons (List.mem_of_getElem? (i := 71) rfl) (pV_nil)), f_162_79⟩
theorem q_162_80 : pQ_162 u_162_80 := ⟨_, _, _, (pS_nil), (pV_cons (List.mem_of_getElem? (i := 72) rfl) (pV_nil)), f_162_80⟩
theorem q_162_81 : pQ_162 u_162_81 := ⟨_, _, _, (pS_nil), (pV_cons (List.mem_of_getElem? (i := 89) rfl) (pV_nil)), f_162_81⟩
theorem q_162_82 : pQ_162 u_162_82 := ⟨_, _, _, (pS_nil), (pV_cons (List.mem_of_getElem? (i := 90) rfl) (pV_nil)), f_162_82⟩
theorem q_162_83 : pQ_162 u_162_83 := ⟨_, _, _, (pS_nil), (pV_cons (List.mem_of_getElem? (i := 91) rfl) (pV_nil)), f_162_83⟩
theorem q_162_84 : pQ_162 u_162_84 := ⟨_, _, _, (pS_nil), (pV_cons (List.mem_of_getElem? (i := 92) rfl) (pV_nil)), f_162_84⟩
theorem q_162_85 : pQ_162 u_162_85 := ⟨_, _, _, (pS_nil), (pV_nil), f_162_85⟩
theorem q_162_86 : pQ_162 u_162_86 := ⟨_, _, _, (pS_nil), (pV_nil), f_162_86⟩
theorem q_162_87 : pQ_162 u_162_87 := ⟨_, _, _, (pS_nil), (pV_cons (List.mem_of_getElem? (i := 93) rfl) (pV_nil)), f_162_87⟩
theorem q_162_88 : pQ_162 u_162_88 := ⟨_, _, _, (pS_nil), (pV_cons (List.mem_of_getElem? (i := 94) rfl) (pV_nil)), f_162_88⟩
theorem q_162_89 : pQ_162 u_162_89 := ⟨_, _, _, (pS_nil), (pV_cons (List.mem_of_getElem? (i := 95) rfl) (pV_nil)), f_162_89⟩
theorem q_162_90 : pQ_162 u_162_90 := ⟨_, _, _, (pS_nil), (pV_cons (List.mem_of_getElem? (i := 96) rfl) (pV_nil)), f_162_90⟩
theorem q_162_91 : pQ_162 u_162_91 := ⟨_, _, _, (pS_cons ok_87 (pS_cons ok_158 (pS_nil))), (pV_cons (List.mem_of_getElem? (i := 81) rfl) (pV_cons (List.mem_of_getElem? (i := 82) rfl) (pV_nil))), f_162_91⟩
theorem q_162_92 : pQ_162 u_162_92 := ⟨_, _, _, (pS_cons ok_135 (pS_cons ok_161 (pS_nil))), (pV_cons (List.mem_of_getElem? (i := 99) rfl) (pV_nil)), f_162_92⟩
theorem q_162_93 : pQ_162 u_162_93 := ⟨_, _, _, (pS_nil), (pV_cons (List.mem_of_getElem? (i := 100) rfl) (pV_nil)), f_162_93⟩
theorem q_162_94 : pQ_162 u_162_94 := ⟨_, _, _, (pS_nil), (pV_cons (List.mem_of_getElem? (i := 101) rfl) (pV_nil)), f_162_94⟩
theorem q_162_95 : pQ_162 u_162_95 := ⟨_, _, _, (pS_nil), (pV_cons (List.mem_of_getElem? (i := 102) rfl) (pV_nil)), f_162_95⟩
theorem q_162_96 : pQ_162 u_162_96 := ⟨_, _, _, (pS_nil), (pV_cons (List.mem_of_getElem? (i := 103) rfl) (pV_nil)), f_162_96⟩
theorem q_162_97 : pQ_162 u_162_97 := ⟨_, _, _, (pS_nil), (pV_cons (List.mem_of_getElem? (i := 89) rfl) (pV_nil)), f_162_97⟩
theorem q_162_98 : pQ_162 u_162_98 := ⟨_, _, _, (pS_nil), (pV_cons (List.mem_of_getElem? (i := 90) rfl) (pV_nil)), f_162_98⟩
theorem q_162_99 : pQ_162 u_162_99 := ⟨_, _, _, (pS_nil), (pV_cons (List.mem_of_getElem? (i := 104) rfl) (pV_nil)), f_162_99⟩
theorem q_162_100 : pQ_162 u_162_100 := ⟨_, _, _, (pS_nil), (pV_cons (List.mem_of_getElem? (i := 105) rfl) (pV_nil)), f_162_100⟩
theorem q_162_101 : pQ_162 u_162_101 := ⟨_, _, _, (pS_nil), (pV_cons (List.mem_of_getElem? (i := 106) rfl) (pV_nil)), f_162_101⟩
theorem q_162_102 : pQ_162 u_162_102 := ⟨_, _, _, (pS_nil), (pV_cons (List.mem_of_getElem? (i := 107) rfl) (pV_nil)), f_162_102⟩
theorem q_162_103 : pQ_162 u_162_103 := ⟨_, _, _, (pS_nil), (pV_cons (List.mem_of_getElem? (i := 108) rfl) (pV_nil)), f_162_103⟩
theorem q_162_104 : pQ_162 u_162_104 := ⟨_, _, _, (pS_nil), (pV_cons (List.mem_of_getElem? (i := 109) rfl) (pV_nil)), f_162_104⟩
theorem q_162_105 : pQ_162 u_162_105 := ⟨_, _, _, (pS_nil), (pV_nil), f_162_105⟩
theorem q_162_106 : pQ_162 u_162_106 := ⟨_, _, _, (pS_nil), (pV_nil), f_162_106⟩
theorem q_162_107 : pQ_162 u_162_107 := ⟨_, _, _, (pS_nil), (pV_cons (List.mem_of_getElem? (i := 110) rfl) (pV_nil)), f_162_107⟩
theorem q_162_108 : pQ_162 u_162_108 := ⟨_, _, _, (pS_nil), (pV_cons (List.mem_of_getElem? (i := 111) rfl) (pV_nil)), f_162_108⟩
theorem q_162_109 : pQ_162 u_162_109 := ⟨_, _, _, (pS_nil), (pV_cons (List.mem_of_getElem? (i := 112) rfl) (pV_nil)), f_162_109⟩
theorem q_162_110 : pQ_162 u_162_110 := ⟨_, _, _, (pS_nil), (pV_cons (List.mem_of_getElem? (i := 113) rfl) (pV_nil)), f_162_110⟩
theorem q_162_111 : pQ_162 u_162_111 := ⟨_, _, _, (pS_nil), (pV_cons (List.mem_of_getElem? (i := 114) rfl) (pV_nil)), f_162_111⟩
theorem q_162_112 : pQ_162 u_162_112 := ⟨_, _, _, (pS_nil), (pV_cons (List.mem_of_getElem? (i := 115) rfl) (pV_nil)), f_162_112⟩
theorem q_162_113 : pQ_162 u_162_113 := ⟨_, _, _, (pS_nil), (pV_cons (List.mem_of_getElem? (i := 116) rfl) (pV_nil)), f_162_113⟩
theorem q_162_114 : pQ_162 u_162_114 := ⟨_, _, _, (pS_nil), (pV_cons (List.mem_of_getElem? (i := 117) rfl) (pV_nil)), f_162_114⟩
theorem q_162_115 : pQ_162 u_162_115 := ⟨_, _, _, (pS_nil), (pV_cons (List.mem_of_getElem? (i := 118) rfl) (pV_nil)), f_162_115⟩
theorem q_162_116 : pQ_162 u_162_116 := ⟨_, _, _, (pS_nil), (pV_nil), f_162_116⟩
theorem q_162_117 : pQ_162 u_162_117 := ⟨_, _, _, (pS_nil), (pV_nil), f_162_117⟩
theorem q_162_118 : pQ_162 u_162_118 := ⟨_, _, _, (pS_nil), (pV_cons (List.mem_of_getElem? (i := 119) rfl) (pV_nil)), f_162_118⟩
theorem q_162_119 : pQ_162 u_162_119 := ⟨_, _, _, (pS_nil), (pV_cons (List.mem_of_getElem? (i := 120) rfl) (pV_nil)), f_162_119⟩
theorem q_162_120 : pQ_162 u_162_120 := ⟨_, _, _, (pS_nil), (pV_cons (List.mem_of_getElem? (i := 121) rfl) (pV_nil)), f_162_120⟩
theorem q_162_121 : pQ_162 u_162_121 := ⟨_, _, _, (pS_nil), (pV_nil), f_162_121⟩
theorem qb_162_0 : ∀ u ∈ [u_162_0, u_162_1, u_162_2, u_162_3, u_162_4, u_162_5, u_162_6, u_162_7, u_162_8, u_162_9], pQ_162 u := pU_cons q_162_0 (pU_cons q_162_1 (pU_cons q_162_2 (pU_cons q_162_3 (pU_cons q_162_4 (pU_cons q_162_5 (pU_cons q_162_6 (pU_cons q_162_7 (pU_cons q_162_8 (pU_cons q_162_9 (pU_nil))))))))))
theorem qb_162_1 : ∀ u ∈ [u_162_10, u_162_11, u_162_12, u_162_13, u_162_14, u_162_15, u_162_16, u_162_17, u_162_18, u_162_19], pQ_162 u := pU_cons q_162_10 (pU_cons q_162_11 (pU_cons q_162_12 (pU_cons q_162_13 (pU_cons q_162_14 (pU_cons q_162_15 (pU_cons q_162_16 (pU_cons q_162_17 (pU_cons q_162_18 (pU_cons q_162_19 (pU_nil))))))))))
theorem qb_162_2 : ∀ u ∈ [u_162_20, u_162_21, u_162_22, u_162_23, u_162_24, u_162_25, u_162_26, u_162_27, u_162_28, u_162_29], pQ_162 u := pU_cons q_162_20 (pU_cons q_162_21 (pU_cons q_162_22 (pU_cons q_162_23 (pU_cons q_162_24 (pU_cons q_162_25 (pU_cons q_162_26 (pU_cons q_162_27 (pU_cons q_162_28 (pU_cons q_162_29 (pU_nil))))))))))
theorem qb_162_3 : ∀ u ∈ [u_162_30, u_162_31, u_162_32, u_162_33, u_162_34, u_162_35, u_162_36, u_162_37, u_162_38, u_162_39], pQ_162 u := pU_cons q_162_30 (pU_cons q_162_31 (pU_cons q_162_32 (pU_cons q_162_33 (pU_cons q_162_34 (pU_cons q_162_35 (pU_cons q_162_36 (pU_cons q_162_37 (pU_cons q_162_38 (pU_cons q_162_39 (pU_nil))))))))))
theorem qb_162_4 : ∀ u ∈ [u_162_40, u_162_41, u_162_42, u_162_43, u_162_44, u_162_45, u_162_46, u_162_47, u_162_48, u_162_49], pQ_162 u := pU_cons q_162_40 (pU_cons q_162_41 (pU_cons q_162_42 (pU_cons q_162_43 (pU_cons q_162_44 (pU_cons q_162_45 (pU_cons q_162_46 (pU_cons q_162_47 (pU_cons q_162_48 (pU_cons q_162_49 (pU_nil))))))))))
theorem qb_162_5 : ∀ u ∈ [u_162_50, u_162_51, u_162_52, u_162_53, u_162_54, u_162_55, u_162_56, u_162_57, u_162_58, u_162_59], pQ_162 u := pU_cons q_162_50 (pU_cons q_162_51 (pU_cons q_162_52 (pU_cons q_162_53 (pU_cons q_162_54 (pU_cons q_162_55 (pU_cons q_162_56 (pU_cons q_162_57 (pU_cons q_162_58 (pU_cons q_162_59 (pU_nil))))))))))
theorem qb_162_6 : ∀ u ∈ [u_162_60, u_162_61, u_162_62, u_162_63, u_162_64, u_162_65, u_162_66, u_162_67, u_162_68, u_162_69], pQ_162 u := pU_cons q_162_60 (pU_cons q_162_61 (pU_cons q_162_62 (pU_cons q_162_63 (pU_cons q_162_64 (pU_cons q_162_65 (pU_cons q_162_66 (pU_cons q_162_67 (pU_cons q_162_68 (pU_cons q_162_69 (pU_nil))))))))))
theorem qb_162_7 : ∀ u ∈ [u_162_70, u_162_71, u_162_72, u_162_73, u_162_74, u_162_75, u_162_76, u_162_77, u_162_78, u_162_79], pQ_162 u := pU_cons q_162_70 (pU_cons q_162_71 (pU_cons q_162_72 (pU_cons q_162_73 (pU_cons q_162_74 (pU_cons q_162_75 (pU_cons q_162_76 (pU_cons q_162_77 (pU_cons q_162_78 (pU_cons q_162_79 (pU_nil))))))))))
theorem qb_162_8 : ∀ u ∈ [u_162_80, u_162_81, u_162_82, u_162_83, u_162_84, u_162_85, u_162_86, u_162_87, u_162_88, u_162_89], pQ_162 u := pU_cons q_162_80 (pU_cons q_162_81 (pU_cons q_162_82 (pU_cons q_162_83 (pU_cons q_162_84 (pU_cons q_162_85 (pU_cons q_162_86 (pU_cons q_162_87 (pU_cons q_162_88 (pU_cons q_162_89 (pU_nil))))))))))
theorem qb_162_9 : ∀ u ∈ [u_162_90, u_162_91, u_162_92, u_162_93, u_162_94, u_162_95, u_162_96, u_162_97, u_162_98, u_162_99], pQ_162 u := pU_cons q_162_90 (pU_cons q_162_91 (pU_cons q_162_92 (pU_cons q_162_93 (pU_cons q_162_94 (pU_cons q_162_95 (pU_cons q_162_96 (pU_cons q_162_97 (pU_cons q_162_98 (pU_cons q_162_99 (pU_nil))))))))))
theorem qb_162_10 : ∀ u ∈ [u_162_100, u_162_101, u_162_102, u_162_103, u_162_104, u_162_105, u_162_106, u_162_107, u_162_108, u_162_109], pQ_162 u := pU_cons q_162_100 (pU_cons q_162_101 (pU_cons q_162_102 (pU_cons q_162_103 (pU_cons q_162_104 (pU_cons q_162_105 (pU_cons q_162_106 (pU_cons q_162_107 (pU_cons q_162_108 (pU_cons q_162_109 (pU_nil))))))))))
theorem qb_162_11 : ∀ u ∈ [u_162_110, u_162_111, u_162_112, u_162_113, u_162_114, u_162_115, u_162_116, u_162_117, u_162_118, u_162_119], pQ_162 u := pU_cons q_162_110 (pU_cons q_162_111 (pU_cons q_162_112 (pU_cons q_162_113 (pU_cons q_162_114 (pU_cons q_162_115 (pU_cons q_162_116 (pU_cons q_162_117 (pU_cons q_162_118 (pU_cons q_162_119 (pU_nil))))))))))
theorem qb_162_12 : ∀ u ∈ [u_162_120, u_162_121], pQ_162 u := pU_cons q_162_120 (pU_cons q_162_121 (pU_nil))
theorem ok_162 : sInOk pPT i_162 := sInst2 (M := pm_94) (cus := us_162) pOk pg_94 (by decide +kernel) ⟨_, _, _, (pS_nil), (pV_cons (List.mem_of_getElem? (i := 0) rfl) (pV_nil)), e_162⟩ (show ∀ u ∈ us_162, pQ_162 u from (pU_app qb_162_0 (pU_app qb_162_1 (pU_app qb_162_2 (pU_app qb_162_3 (pU_app qb_162_4 (pU_app qb_162_5 (pU_app qb_162_6 (pU_app qb_162_7 (pU_app qb_162_8 (pU_app qb_162_9 (pU_app qb_162_10 (pU_app qb_162_11 qb_162_12)))))))))))))
def pQ_163 (u : sCu) : Prop := ∃ (SM : List sIn) (cu : List sCu) (n : Nat), (∀ I ∈ SM, sInOk pPT I) ∧ (∀ v ∈ cu, v ∈ us_163) ∧ sWkU pPT SM i_163 (mR pm_91) cu n u = true
theorem q_163_0 : pQ_163 u_163_0 := ⟨_, _, _, (pS_cons ok_133 (pS_nil)), (pV_nil), f_163_0⟩
theorem q_163_1 : pQ_163 u_163_1 := ⟨_, _, _, (pS_cons ok_87 (pS_cons ok_132 (pS_cons ok_162 (pS_nil)))), (pV_cons (List.mem_of_getElem? (i := 0) rfl) (pV_cons (List.mem_of_getElem? (i := 1) rfl) (pV_nil))), f_163_1⟩
theorem qb_163_0 : ∀ u ∈ [u_163_0, u_163_1], pQ_163 u := pU_cons q_163_0 (pU_cons q_163_1 (pU_nil))
theorem ok_163 : sInOk pPT i_163 := sInst2 (M := pm_91) (cus := us_163) pOk pg_91 (by decide +kernel) ⟨_, _, _, (pS_cons ok_162 (pS_nil)), (pV_cons (List.mem_of_getElem? (i := 0) rfl) (pV_cons (List.mem_of_getElem? (i := 1) rfl) (pV_nil))), e_163⟩ (show ∀ u ∈ us_163, pQ_163 u from qb_163_0)
def pQ_164 (u : sCu) : Prop := ∃ (SM : List sIn) (cu : List sCu) (n : Nat), (∀ I ∈ SM, sInOk pPT I) ∧ (∀ v ∈ cu, v ∈ us_164) ∧ sWkU pPT SM i_164 (mR pm_94) cu n u = true
theorem q_164_0 : pQ_164 u_164_0 := ⟨_, _, _, (pS_cons ok_135 (pS_cons ok_161 (pS_nil))), (pV_cons (List.mem_of_getElem? (i := 1) rfl) (pV_nil)), f_164_0⟩
theorem q_164_1 : pQ_164 u_164_1 := ⟨_, _, _, (pS_nil), (pV_cons (List.mem_of_getElem? (i := 2) rfl) (pV_nil)), f_164_1⟩
theorem q_164_2 : pQ_164 u_164_2 := ⟨_, _, _, (pS_nil), (pV_nil), f_164_2⟩
theorem qb_164_0 : ∀ u ∈ [u_164_0, u_164_1, u_164_2], pQ_164 u := pU_cons q_164_0 (pU_cons q_164_1 (pU_cons q_164_2 (pU_nil)))
theorem ok_164 : sInOk pPT i_164 := sInst2 (M := pm_94) (cus := us_164) pOk pg_94 (by decide +kernel) ⟨_, _, _, (pS_nil), (pV_cons (List.mem_of_getElem? (i := 0) rfl) (pV_nil)), e_164⟩ (show ∀ u ∈ us_164, pQ_164 u from qb_164_0)
def pQ_165 (u : sCu) : Prop := ∃ (SM : List sIn) (cu : List sCu) (n : Nat), (∀ I ∈ SM, sInOk pPT I) ∧ (∀ v ∈ cu, v ∈ us_165) ∧ sWkU pPT SM i_165 (mR pm_91) cu n u = true
theorem q_165_0 : pQ_165 u_165_0 := ⟨_, _, _, (pS_cons ok_133 (pS_nil)), (pV_nil), f_165_0⟩
theorem qb_165_0 : ∀ u ∈ [u_165_0], pQ_165 u := pU_cons q_165_0 (pU_nil)
theorem ok_165 : sInOk pPT i_165 := sInst2 (M := pm_91) (cus := us_165) pOk pg_91 (by decide +kernel) ⟨_, _, _, (pS_cons ok_164 (pS_nil)), (pV_cons (List.mem_of_getElem? (i := 0) rfl) (pV_nil)), e_165⟩ (show ∀ u ∈ us_165, pQ_165 u from qb_165_0)
def pQ_166 (u : sCu) : Prop := ∃ (SM : List sIn) (cu : List sCu) (n : Nat), (∀ I ∈ SM, sInOk pPT I) ∧ (∀ v ∈ cu, v ∈ us_166) ∧ sWkU pPT SM i_166 (mR pm_92) cu n u = true
theorem q_166_0 : pQ_166 u_166_0 := ⟨_, _, _, (pS_nil), (pV_cons (List.mem_of_getElem? (i := 1) rfl) (pV_nil)), f_166_0⟩
theorem q_166_1 : pQ_166 u_166_1 := ⟨_, _, _, (pS_nil), (pV_cons (List.mem_of_getElem? (i := 2) rfl) (pV_cons (List.mem_of_getElem? (i := 3) rfl) (pV_nil))), f_166_1⟩
theorem q_166_2 : pQ_166 u_166_2 := ⟨_, _, _, (pS_cons ok_163 (pS_nil)), (pV_cons (List.mem_of_getElem? (i := 4) rfl) (pV_cons (List.mem_of_getElem? (i := 5) rfl) (pV_nil))), f_166_2⟩
theorem q_166_3 : pQ_166 u_166_3 := ⟨_, _, _, (pS_cons ok_165 (pS_nil)), (pV_cons (List.mem_of_getElem? (i := 4) rfl) (pV_nil)), f_166_3⟩
theorem q_166_4 : pQ_166 u_166_4 := ⟨_, _, _, (pS_cons ok_131 (pS_nil)), (pV_nil), f_166_4⟩
theorem q_166_5 : pQ_166 u_166_5 := ⟨_, _, _, (pS_cons ok_87 (pS_cons ok_130 (pS_cons ok_163 (pS_nil)))), (pV_cons (List.mem_of_getElem? (i := 4) rfl) (pV_cons (List.mem_of_getElem? (i := 5) rfl) (pV_nil))), f_166_5⟩
theorem qb_166_0 : ∀ u ∈ [u_166_0, u_166_1, u_166_2, u_166_3, u_166_4, u_166_5], pQ_166 u := pU_cons q_166_0 (pU_cons q_166_1 (pU_cons q_166_2 (pU_cons q_166_3 (pU_cons q_166_4 (pU_cons q_166_5 (pU_nil))))))
theorem ok_166 : sInOk pPT i_166 := sInst2 (M := pm_92) (cus := us_166) pOk pg_92 (by decide +kernel) ⟨_, _, _, (pS_nil), (pV_cons (List.mem_of_getElem? (i := 0) rfl) (pV_cons (List.mem_of_getElem? (i := 1) rfl) (pV_nil))), e_166⟩ (show ∀ u ∈ us_166, pQ_166 u from qb_166_0)
theorem ok_167 : sInOk pPT i_167 := sInst2 (M := pm_92) (cus := []) pOk pg_92 (by decide +kernel) ⟨_, _, _, (pS_nil), pV_nil, e_167⟩ pU_nil
def pQ_168 (u : sCu) : Prop := ∃ (SM : List sIn) (cu : List sCu) (n : Nat), (∀ I ∈ SM, sInOk pPT I) ∧ (∀ v ∈ cu, v ∈ us_168) ∧ sWkU pPT SM i_168 (mR pm_96) cu n u = true
theorem q_168_0 : pQ_168 u_168_0 := ⟨_, _, _, (pS_cons ok_87 (pS_nil)), (pV_nil), f_168_0⟩
theorem q_168_1 : pQ_168 u_168_1 := ⟨_, _, _, (pS_nil), (pV_nil), f_168_1⟩
theorem qb_168_0 : ∀ u ∈ [u_168_0, u_168_1], pQ_168 u := pU_cons q_168_0 (pU_cons q_168_1 (pU_nil))
theorem ok_168 : sInOk pPT i_168 := sInst2 (M := pm_96) (cus := us_168) pOk pg_96 (by decide +kernel) ⟨_, _, _, (pS_cons ok_144 (pS_cons ok_145 (pS_cons ok_146 (pS_cons ok_147 (pS_cons ok_155 (pS_cons ok_166 (pS_cons ok_167 (pS_nil)))))))), (pV_cons (List.mem_of_getElem? (i := 0) rfl) (pV_cons (List.mem_of_getElem? (i := 1) rfl) (pV_nil))), e_168⟩ (show ∀ u ∈ us_168, pQ_168 u from qb_168_0)
def pQ_169 (u : sCu) : Prop := ∃ (SM : List sIn) (cu : List sCu) (n : Nat), (∀ I ∈ SM, sInOk pPT I) ∧ (∀ v ∈ cu, v ∈ us_169) ∧ sWkU pPT SM i_169 (mR pm_97) cu n u = true
theorem q_169_0 : pQ_169 u_169_0 := ⟨_, _, _, (pS_nil), (pV_nil), f_169_0⟩
theorem q_169_1 : pQ_169 u_169_1 := ⟨_, _, _, (pS_nil), (pV_cons (List.mem_of_getElem? (i := 2) rfl) (pV_nil)), f_169_1⟩
theorem q_169_2 : pQ_169 u_169_2 := ⟨_, _, _, (pS_nil), (pV_cons (List.mem_of_getElem? (i := 3) rfl) (pV_nil)), f_169_2⟩
theorem q_169_3 : pQ_169 u_169_3 := ⟨_, _, _, (pS_cons ok_87 (pS_cons ok_168 (pS_nil))), (pV_cons (List.mem_of_getElem? (i := 0) rfl) (pV_cons (List.mem_of_getElem? (i := 1) rfl) (pV_nil))), f_169_3⟩
theorem qb_169_0 : ∀ u ∈ [u_169_0, u_169_1, u_169_2, u_169_3], pQ_169 u := pU_cons q_169_0 (pU_cons q_169_1 (pU_cons q_169_2 (pU_cons q_169_3 (pU_nil))))
theorem ok_169 : sInOk pPT i_169 := sInst2 (M := pm_97) (cus := us_169) pOk pg_97 (by decide +kernel) ⟨_, _, _, (pS_cons ok_168 (pS_nil)), (pV_cons (List.mem_of_getElem? (i := 0) rfl) (pV_cons (List.mem_of_getElem? (i := 1) rfl) (pV_nil))), e_169⟩ (show ∀ u ∈ us_169, pQ_169 u from qb_169_0)
def pQ_170 (u : sCu) : Prop := ∃ (SM : List sIn) (cu : List sCu) (n : Nat), (∀ I ∈ SM, sInOk pPT I) ∧ (∀ v ∈ cu, v ∈ us_170) ∧ sWkU pPT SM i_170 (mR pm_98) cu n u = true
theorem q_170_0 : pQ_170 u_170_0 := ⟨_, _, _, (pS_nil), (pV_nil), f_170_0⟩
theorem q_170_1 : pQ_170 u_170_1 := ⟨_, _, _, (pS_nil), (pV_cons (List.mem_of_getElem? (i := 2) rfl) (pV_nil)), f_170_1⟩
theorem q_170_2 : pQ_170 u_170_2 := ⟨_, _, _, (pS_nil), (pV_cons (List.mem_of_getElem? (i := 3) rfl) (pV_nil)), f_170_2⟩
theorem q_170_3 : pQ_170 u_170_3 := ⟨_, _, _, (pS_cons ok_87 (pS_cons ok_169 (pS_nil))), (pV_cons (List.mem_of_getElem? (i := 0) rfl) (pV_cons (List.mem_of_getElem? (i := 1) rfl) (pV_nil))), f_170_3⟩
theorem qb_170_0 : ∀ u ∈ [u_170_0, u_170_1, u_170_2, u_170_3], pQ_170 u := pU_cons q_170_0 (pU_cons q_170_1 (pU_cons q_170_2 (pU_cons q_170_3 (pU_nil))))
theorem ok_170 : sInOk pPT i_170 := sInst2 (M := pm_98) (cus := us_170) pOk pg_98 (by decide +kernel) ⟨_, _, _, (pS_cons ok_169 (pS_nil)), (pV_cons (List.mem_of_getElem? (i := 0) rfl) (pV_cons (List.mem_of_getElem? (i := 1) rfl) (pV_nil))), e_170⟩ (show ∀ u ∈ us_170, pQ_170 u from qb_170_0)
theorem ok_171 : sInOk pPT i_171 := sInst2 (M := pm_96) (cus := []) pOk pg_96 (by decide +kernel) ⟨_, _, _, (pS_nil), pV_nil, e_171⟩ pU_nil
def pQ_172 (u : sCu) : Prop := ∃ (SM : List sIn) (cu : List sCu) (n : Nat), (∀ I ∈ SM, sInOk pPT I) ∧ (∀ v ∈ cu, v ∈ us_172) ∧ sWkU pPT SM i_172 (mR pm_97) cu n u = true
theorem q_172_0 : pQ_172 u_172_0 := ⟨_, _, _, (pS_nil), (pV_nil), f_172_0⟩
theorem qb_172_0 : ∀ u ∈ [u_172_0], pQ_172 u := pU_cons q_172_0 (pU_nil)
theorem ok_172 : sInOk pPT i_172 := sInst2 (M := pm_97) (cus := us_172) pOk pg_97 (by decide +kernel) ⟨_, _, _, (pS_cons ok_171 (pS_nil)), (pV_cons (List.mem_of_getElem? (i := 0) rfl) (pV_nil)), e_172⟩ (show ∀ u ∈ us_172, pQ_172 u from qb_172_0)
def pQ_173 (u : sCu) : Prop := ∃ (SM : List sIn) (cu : List sCu) (n : Nat), (∀ I ∈ SM, sInOk pPT I) ∧ (∀ v ∈ cu, v ∈ us_173) ∧ sWkU pPT SM i_173 (mR pm_98) cu n u = true
theorem q_173_0 : pQ_173 u_173_0 := ⟨_, _, _, (pS_nil), (pV_nil), f_173_0⟩
theorem qb_173_0 : ∀ u ∈ [u_173_0], pQ_173 u := pU_cons q_173_0 (pU_nil)
theorem ok_173 : sInOk pPT i_173 := sInst2 (M := pm_98) (cus := us_173) pOk pg_98 (by decide +kernel) ⟨_, _, _, (pS_cons ok_172 (pS_nil)), (pV_cons (List.mem_of_getElem? (i := 0) rfl) (pV_nil)), e_173⟩ (show ∀ u ∈ us_173, pQ_173 u from qb_173_0)
def pQ_174 (u : sCu) : Prop := ∃ (SM : List sIn) (cu : List sCu) (n : Nat), (∀ I ∈ SM, sInOk pPT I) ∧ (∀ v ∈ cu, v ∈ us_174) ∧ sWkU pPT SM i_174 (mR pm_94) cu n u = true
theorem q_174_0 : pQ_174 u_174_0 := ⟨_, _, _, (pS_cons ok_134 (pS_cons ok_170 (pS_nil))), (pV_cons (List.mem_of_getElem? (i := 1) rfl) (pV_cons (List.mem_of_getElem? (i := 2) rfl) (pV_cons (List.mem_of_getElem? (i := 3) rfl) (pV_cons (List.mem_of_getElem? (i := 4) rfl) (pV_nil))))), f_174_0⟩
theorem q_174_1 : pQ_174 u_174_1 := ⟨_, _, _, (pS_nil), (pV_cons (List.mem_of_getElem? (i := 5) rfl) (pV_nil)), f_174_1⟩
theorem q_174_2 : pQ_174 u_174_2 := ⟨_, _, _, (pS_nil), (pV_cons (List.mem_of_getElem? (i := 6) rfl) (pV_nil)), f_174_2⟩
theorem q_174_3 : pQ_174 u_174_3 := ⟨_, _, _, (pS_nil), (pV_cons (List.mem_of_getElem? (i := 7) rfl) (pV_nil)), f_174_3⟩
theorem q_174_4 : pQ_174 u_174_4 := ⟨_, _, _, (pS_cons ok_87 (pS_nil)), (pV_cons (List.mem_of_getElem? (i := 8) rfl) (pV_nil)), f_174_4⟩
theorem q_174_5 : pQ_174 u_174_5 := ⟨_, _, _, (pS_nil), (pV_nil), f_174_5⟩
theorem q_174_6 : pQ_174 u_174_6 := ⟨_, _, _, (pS_nil), (pV_nil), f_174_6⟩
theorem q_174_7 : pQ_174 u_174_7 := ⟨_, _, _, (pS_cons ok_87 (pS_cons ok_170 (pS_nil))), (pV_cons (List.mem_of_getElem? (i := 1) rfl) (pV_cons (List.mem_of_getElem? (i := 2) rfl) (pV_nil))), f_174_7⟩
theorem q_174_8 : pQ_174 u_174_8 := ⟨_, _, _, (pS_cons ok_134 (pS_cons ok_170 (pS_nil))), (pV_cons (List.mem_of_getElem? (i := 11) rfl) (pV_cons (List.mem_of_getElem? (i := 12) rfl) (pV_cons (List.mem_of_getElem? (i := 13) rfl) (pV_cons (List.mem_of_getElem? (i := 14) rfl) (pV_nil))))), f_174_8⟩
theorem q_174_9 : pQ_174 u_174_9 := ⟨_, _, _, (pS_nil), (pV_cons (List.mem_of_getElem? (i := 5) rfl) (pV_nil)), f_174_9⟩
theorem q_174_10 : pQ_174 u_174_10 := ⟨_, _, _, (pS_nil), (pV_cons (List.mem_of_getElem? (i := 6) rfl) (pV_nil)), f_174_10⟩
theorem q_174_11 : pQ_174 u_174_11 := ⟨_, _, _, (pS_nil), (pV_cons (List.mem_of_getElem? (i := 15) rfl) (pV_nil)), f_174_11⟩
theorem q_174_12 : pQ_174 u_174_12 := ⟨_, _, _, (pS_nil), (pV_cons (List.mem_of_getElem? (i := 16) rfl) (pV_nil)), f_174_12⟩
theorem q_174_13 : pQ_174 u_174_13 := ⟨_, _, _, (pS_nil), (pV_cons (List.mem_of_getElem? (i := 17) rfl) (pV_nil)), f_174_13⟩
theorem q_174_14 : pQ_174 u_174_14 := ⟨_, _, _, (pS_cons ok_87 (pS_nil)), (pV_cons (List.mem_of_getElem? (i := 18) rfl) (pV_nil)), f_174_14⟩
theorem q_174_15 : pQ_174 u_174_15 := ⟨_, _, _, (pS_nil), (pV_cons (List.mem_of_getElem? (i := 19) rfl) (pV_nil)), f_174_15⟩
theorem q_174_16 : pQ_174 u_174_16 := ⟨_, _, _, (pS_nil), (pV_cons (List.mem_of_getElem? (i := 20) rfl) (pV_nil)), f_174_16⟩
theorem q_174_17 : pQ_174 u_174_17 := ⟨_, _, _, (pS_cons ok_87 (pS_cons ok_170 (pS_nil))), (pV_cons (List.mem_of_getElem? (i := 11) rfl) (pV_cons (List.mem_of_getElem? (i := 12) rfl) (pV_nil))), f_174_17⟩
theorem q_174_18 : pQ_174 u_174_18 := ⟨_, _, _, (pS_cons ok_134 (pS_cons ok_170 (pS_nil))), (pV_cons (List.mem_of_getElem? (i := 23) rfl) (pV_cons (List.mem_of_getElem? (i := 24) rfl) (pV_cons (List.mem_of_getElem? (i := 25) rfl) (pV_cons (List.mem_of_getElem? (i := 26) rfl) (pV_nil))))), f_174_18⟩
theorem q_174_19 : pQ_174 u_174_19 := ⟨_, _, _, (pS_nil), (pV_nil), f_174_19⟩
theorem q_174_20 : pQ_174 u_174_20 := ⟨_, _, _, (pS_nil), (pV_nil), f_174_20⟩
theorem q_174_21 : pQ_174 u_174_21 := ⟨_, _, _, (pS_nil), (pV_cons (List.mem_of_getElem? (i := 15) rfl) (pV_nil)), f_174_21⟩
theorem q_174_22 : pQ_174 u_174_22 := ⟨_, _, _, (pS_nil), (pV_cons (List.mem_of_getElem? (i := 16) rfl) (pV_nil)), f_174_22⟩
theorem q_174_23 : pQ_174 u_174_23 := ⟨_, _, _, (pS_nil), (pV_cons (List.mem_of_getElem? (i := 27) rfl) (pV_nil)), f_174_23⟩
theorem q_174_24 : pQ_174 u_174_24 := ⟨_, _, _, (pS_nil), (pV_cons (List.mem_of_getElem? (i := 28) rfl) (pV_nil)), f_174_24⟩
theorem q_174_25 : pQ_174 u_174_25 := ⟨_, _, _, (pS_nil), (pV_cons (List.mem_of_getElem? (i := 29) rfl) (pV_nil)), f_174_25⟩
theorem q_174_26 : pQ_174 u_174_26 := ⟨_, _, _, (pS_cons ok_87 (pS_nil)), (pV_cons (List.mem_of_getElem? (i := 30) rfl) (pV_nil)), f_174_26⟩
theorem q_174_27 : pQ_174 u_174_27 := ⟨_, _, _, (pS_nil), (pV_cons (List.mem_of_getElem? (i := 31) rfl) (pV_nil)), f_174_27⟩
theorem q_174_28 : pQ_174 u_174_28 := ⟨_, _, _, (pS_nil), (pV_cons (List.mem_of_getElem? (i := 32) rfl) (pV_nil)), f_174_28⟩
theorem q_174_29 : pQ_174 u_174_29 := ⟨_, _, _, (pS_cons ok_87 (pS_cons ok_170 (pS_nil))), (pV_cons (List.mem_of_getElem? (i := 23) rfl) (pV_cons (List.mem_of_getElem? (i := 24) rfl) (pV_nil))), f_174_29⟩
theorem q_174_30 : pQ_174 u_174_30 := ⟨_, _, _, (pS_cons ok_134 (pS_cons ok_170 (pS_nil))), (pV_cons (List.mem_of_getElem? (i := 35) rfl) (pV_cons (List.mem_of_getElem? (i := 36) rfl) (pV_cons (List.mem_of_getElem? (i := 37) rfl) (pV_cons (List.mem_of_getElem? (i := 38) rfl) (pV_nil))))), f_174_30⟩
theorem q_174_31 : pQ_174 u_174_31 := ⟨_, _, _, (pS_nil), (pV_cons (List.mem_of_getElem? (i := 39) rfl) (pV_nil)), f_174_31⟩
theorem q_174_32 : pQ_174 u_174_32 := ⟨_, _, _, (pS_nil), (pV_cons (List.mem_of_getElem? (i := 40) rfl) (pV_nil)), f_174_32⟩
theorem q_174_33 : pQ_174 u_174_33 := ⟨_, _, _, (pS_nil), (pV_cons (List.mem_of_getElem? (i := 27) rfl) (pV_nil)), f_174_33⟩
theorem q_174_34 : pQ_174 u_174_34 := ⟨_, _, _, (pS_nil), (pV_cons (List.mem_of_getElem? (i := 28) rfl) (pV_nil)), f_174_34⟩
theorem q_174_35 : pQ_174 u_174_35 := ⟨_, _, _, (pS_nil), (pV_cons (List.mem_of_getElem? (i := 41) rfl) (pV_nil)), f_174_35⟩
theorem q_174_36 : pQ_174 u_174_36 := ⟨_, _, _, (pS_nil), (pV_cons (List.mem_of_getElem? (i := 42) rfl) (pV_nil)), f_174_36⟩
theorem q_174_37 : pQ_174 u_174_37 := ⟨_, _, _, (pS_nil), (pV_cons (List.mem_of_getElem? (i := 43) rfl) (pV_nil)), f_174_37⟩
theorem q_174_38 : pQ_174 u_174_38 := ⟨_, _, _, (pS_cons ok_87 (pS_nil)), (pV_cons (List.mem_of_getElem? (i := 44) rfl) (pV_nil)), f_174_38⟩
theorem q_174_39 : pQ_174 u_174_39 := ⟨_, _, _, (pS_nil), (pV_nil), f_174_39⟩
theorem q_174_40 : pQ_174 u_174_40 := ⟨_, _, _, (pS_nil), (pV_nil), f_174_40⟩
theorem q_174_41 : pQ_174 u_174_41 := ⟨_, _, _, (pS_nil), (pV_cons (List.mem_of_getElem? (i := 45) rfl) (pV_nil)), f_174_41⟩
theorem q_174_42 : pQ_174 u_174_42 := ⟨_, _, _, (pS_nil), (pV_cons (List.mem_of_getElem? (i := 46) rfl) (pV_nil)), f_174_42⟩
theorem q_174_43 : pQ_174 u_174_43 := ⟨_, _, _, (pS_cons ok_87 (pS_cons ok_170 (pS_nil))), (pV_cons (List.mem_of_getElem? (i := 35) rfl) (pV_cons (List.mem_of_getElem? (i := 36) rfl) (pV_nil))), f_174_43⟩
theorem q_174_44 : pQ_174 u_174_44 := ⟨_, _, _, (pS_cons ok_134 (pS_cons ok_170 (pS_nil))), (pV_cons (List.mem_of_getElem? (i := 49) rfl) (pV_cons (List.mem_of_getElem? (i := 50) rfl) (pV_cons (List.mem_of_getElem? (i := 51) rfl) (pV_cons (List.mem_of_getElem? (i := 52) rfl) (pV_nil))))), f_174_44⟩
theorem q_174_45 : pQ_174 u_174_45 := ⟨_, _, _, (pS_nil), (pV_cons (List.mem_of_getElem? (i := 53) rfl) (pV_nil)), f_174_45⟩
theorem q_174_46 : pQ_174 u_174_46 := ⟨_, _, _, (pS_nil), (pV_cons (List.mem_of_getElem? (i := 54) rfl) (pV_nil)), f_174_46⟩
theorem q_174_47 : pQ_174 u_174_47 := ⟨_, _, _, (pS_nil), (pV_cons (List.mem_of_getElem? (i := 41) rfl) (pV_nil)), f_174_47⟩
theorem q_174_48 : pQ_174 u_174_48 := ⟨_, _, _, (pS_nil), (pV_cons (List.mem_of_getElem? (i := 42) rfl) (pV_nil)), f_174_48⟩
theorem q_174_49 : pQ_174 u_174_49 := ⟨_, _, _, (pS_nil), (pV_cons (List.mem_of_getElem? (i := 55) rfl) (pV_nil)), f_174_49⟩
theorem q_174_50 : pQ_174 u_174_50 := ⟨_, _, _, (pS_nil), (pV_cons (List.mem_of_getElem? (i := 56) rfl) (pV_nil)), f_174_50⟩
theorem q_174_51 : pQ_174 u_174_51 := ⟨_, _, _, (pS_nil), (pV_cons (List.mem_of_getElem? (i := 57) rfl) (pV_nil)), f_174_51⟩
theorem q_174_52 : pQ_174 u_174_52 := ⟨_, _, _, (pS_cons ok_87 (pS_nil)), (pV_cons (List.mem_of_getElem? (i := 58) rfl) (pV_nil)), f_174_52⟩
theorem q_174_53 : pQ_174 u_174_53 := ⟨_, _, _, (pS_nil), (pV_cons (List.mem_of_getElem? (i := 59) rfl) (pV_nil)), f_174_53⟩
theorem q_174_54 : pQ_174 u_174_54 := ⟨_, _, _, (pS_nil), (pV_cons (List.mem_of_getElem? (i := 60) rfl) (pV_nil)), f_174_54⟩
theorem q_174_55 : pQ_174 u_174_55 := ⟨_, _, _, (pS_nil), (pV_cons (List.mem_of_getElem? (i := 61) rfl) (pV_nil)), f_174_55⟩
theorem q_174_56 : pQ_174 u_174_56 := ⟨_, _, _, (pS_nil), (pV_cons (List.mem_of_getElem? (i := 62) rfl) (pV_nil)), f_174_56⟩
theorem q_174_57 : pQ_174 u_174_57 := ⟨_, _, _, (pS_cons ok_87 (pS_cons ok_170 (pS_nil))), (pV_cons (List.mem_of_getElem? (i := 49) rfl) (pV_cons (List.mem_of_getElem? (i := 50) rfl) (pV_nil))), f_174_57⟩
theorem q_174_58 : pQ_174 u_174_58 := ⟨_, _, _, (pS_cons ok_134 (pS_cons ok_170 (pS_nil))), (pV_cons (List.mem_of_getElem? (i := 65) rfl) (pV_cons (List.mem_of_getElem? (i := 66) rfl) (pV_cons (List.mem_of_getElem? (i := 67) rfl) (pV_cons (List.mem_of_getElem? (i := 68) rfl) (pV_nil))))), f_174_58⟩
theorem q_174_59 : pQ_174 u_174_59 := ⟨_, _, _, (pS_nil), (pV_nil), f_174_59⟩
theorem q_174_60 : pQ_174 u_174_60 := ⟨_, _, _, (pS_nil), (pV_nil), f_174_60⟩
theorem q_174_61 : pQ_174 u_174_61 := ⟨_, _, _, (pS_nil), (pV_cons (List.mem_of_getElem? (i := 69) rfl) (pV_nil)), f_174_61⟩
theorem q_174_62 : pQ_174 u_174_62 := ⟨_, _, _, (pS_nil), (pV_cons (List.mem_of_getElem? (i := 70) rfl) (pV_nil)), f_174_62⟩
theorem q_174_63 : pQ_174 u_174_63 := ⟨_, _, _, (pS_nil), (pV_cons (List.mem_of_getElem? (i := 55) rfl) (pV_nil)), f_174_63⟩
theorem q_174_64 : pQ_174 u_174_64 := ⟨_, _, _, (pS_nil), (pV_cons (List.mem_of_getElem? (i := 56) rfl) (pV_nil)), f_174_64⟩
theorem q_174_65 : pQ_174 u_174_65 := ⟨_, _, _, (pS_nil), (pV_cons (List.mem_of_getElem? (i := 71) rfl) (pV_nil)), f_174_65⟩
theorem q_174_66 : pQ_174 u_174_66 := ⟨_, _, _, (pS_nil), (pV_cons (List.mem_of_getElem? (i := 72) rfl) (pV_nil)), f_174_66⟩
theorem q_174_67 : pQ_174 u_174_67 := ⟨_, _, _, (pS_nil), (pV_cons (List.mem_of_getElem? (i := 73) rfl) (pV_nil)), f_174_67⟩
theorem q_174_68 : pQ_174 u_174_68 := ⟨_, _, _, (pS_cons ok_87 (pS_nil)), (pV_cons (List.mem_of_getElem? (i := 74) rfl) (pV_nil)), f_174_68⟩
theorem q_174_69 : pQ_174 u_174_69 := ⟨_, _, _, (pS_nil), (pV_cons (List.mem_of_getElem? (i := 75) rfl) (pV_nil)), f_174_69⟩
theorem q_174_70 : pQ_174 u_174_70 := ⟨_, _, _, (pS_nil), (pV_cons (List.mem_of_getElem? (i := 76) rfl) (pV_nil)), f_174_70⟩
theorem q_174_71 : pQ_174 u_174_71 := ⟨_, _, _, (pS_nil), (pV_cons (List.mem_of_getElem? (i := 77) rfl) (pV_nil)), f_174_71⟩
theorem q_174_72 : pQ_174 u_174_72 := ⟨_, _, _, (pS_nil), (pV_cons (List.mem_of_getElem? (i := 78) rfl) (pV_nil)), f_174_72⟩
theorem q_174_73 : pQ_174 u_174_73 := ⟨_, _, _, (pS_cons ok_87 (pS_cons ok_170 (pS_nil))), (pV_cons (List.mem_of_getElem? (i := 65) rfl) (pV_cons (List.mem_of_getElem? (i := 66) rfl) (pV_nil))), f_174_73⟩
theorem q_174_74 : pQ_174 u_174_74 := ⟨_, _, _, (pS_cons ok_134 (pS_cons ok_170 (pS_nil))), (pV_cons (List.mem_of_getElem? (i := 81) rfl) (pV_cons (List.mem_of_getElem? (i := 82) rfl) (pV_cons (List.mem_of_getElem? (i := 83) rfl) (pV_cons (List.mem_of_getElem? (i := 84) rfl) (pV_nil))))), f_174_74⟩
theorem q_174_75 : pQ_174 u_174_75 := ⟨_, _, _, (pS_nil), (pV_cons (List.mem_of_getElem? (i := 85) rfl) (pV_nil)), f_174_75⟩
theorem q_174_76 : pQ_174 u_174_76 := ⟨_, _, _, (pS_nil), (pV_cons (List.mem_of_getElem? (i := 86) rfl) (pV_nil)), f_174_76⟩
theorem q_174_77 : pQ_174 u_174_77 := ⟨_, _, _, (pS_nil), (pV_cons (List.mem_of_getElem? (i := 87) rfl) (pV_nil)), f_174_77⟩
theorem q_174_78 : pQ_174 u_174_78 := ⟨_, _, _, (pS_nil), (pV_cons (List.mem_of_getElem? (i := 88) rfl) (pV_nil)), f_174_78⟩
theorem q_174_79 : pQ_174 u_174_79 := ⟨_, _, _, (pS_nil), (pV_cons (List.mem_of_getElem? (i := 71) rfl) (pV_nil)), f_174_79⟩
theorem q_174_80 : pQ_174 u_174_80 := ⟨_, _, _, (pS_nil), (pV_cons (List.mem_of_getElem? (i := 72) rfl) (pV_nil)), f_174_80⟩
theorem q_174_81 : pQ_174 u_174_81 := ⟨_, _, _, (pS_nil), (pV_cons (List.mem_of_getElem? (i := 89) rfl) (pV_nil)), f_174_81⟩
theorem q_174_82 : pQ_174 u_174_82 := ⟨_, _, _, (pS_nil), (pV_cons (List.mem_of_getElem? (i := 90) rfl) (pV_nil)), f_174_82⟩
theorem q_174_83 : pQ_174 u_174_83 := ⟨_, _, _, (pS_nil), (pV_cons (List.mem_of_getElem? (i := 91) rfl) (pV_nil)), f_174_83⟩
theorem q_174_84 : pQ_174 u_174_84 := ⟨_, _, _, (pS_nil), (pV_cons (List.mem_of_getElem? (i := 92) rfl) (pV_nil)), f_174_84⟩
theorem q_174_85 : pQ_174 u_174_85 := ⟨_, _, _, (pS_nil), (pV_nil), f_174_85⟩
theorem q_174_86 : pQ_174 u_174_86 := ⟨_, _, _, (pS_nil), (pV_nil), f_174_86⟩
theorem q_174_87 : pQ_174 u_174_87 := ⟨_, _, _, (pS_nil), (pV_cons (List.mem_of_getElem? (i := 93) rfl) (pV_nil)), f_174_87⟩
theorem q_174_88 : pQ_174 u_174_88 := ⟨_, _, _, (pS_nil), (pV_cons (List.mem_of_getElem? (i := 94) rfl) (pV_nil)), f_174_88⟩
theorem q_174_89 : pQ_174 u_174_89 := ⟨_, _, _, (pS_nil), (pV_cons (List.mem_of_getElem? (i := 95) rfl) (pV_nil)), f_174_89⟩
theorem q_174_90 : pQ_174 u_174_90 := ⟨_, _, _, (pS_nil), (pV_cons (List.mem_of_getElem? (i := 96) rfl) (pV_nil)), f_174_90⟩
theorem q_174_91 : pQ_174 u_174_91 := ⟨_, _, _, (pS_cons ok_87 (pS_cons ok_170 (pS_nil))), (pV_cons (List.mem_of_getElem? (i := 81) rfl) (pV_cons (List.mem_of_getElem? (i := 82) rfl) (pV_nil))), f_174_91⟩
theorem q_174_92 : pQ_174 u_174_92 := ⟨_, _, _, (pS_cons ok_135 (pS_cons ok_173 (pS_nil))), (pV_cons (List.mem_of_getElem? (i := 99) rfl) (pV_nil)), f_174_92⟩
theorem q_174_93 : pQ_174 u_174_93 := ⟨_, _, _, (pS_nil), (pV_cons (List.mem_of_getElem? (i := 100) rfl) (pV_nil)), f_174_93⟩
theorem q_174_94 : pQ_174 u_174_94 := ⟨_, _, _, (pS_nil), (pV_cons (List.mem_of_getElem? (i := 101) rfl) (pV_nil)), f_174_94⟩
theorem q_174_95 : pQ_174 u_174_95 := ⟨_, _, _, (pS_nil), (pV_cons (List.mem_of_getElem? (i := 102) rfl) (pV_nil)), f_174_95⟩
theorem q_174_96 : pQ_174 u_174_96 := ⟨_, _, _, (pS_nil), (pV_cons (List.mem_of_getElem? (i := 103) rfl) (pV_nil)), f_174_96⟩
theorem q_174_97 : pQ_174 u_174_97 := ⟨_, _, _, (pS_nil), (pV_cons (List.mem_of_getElem? (i := 89) rfl) (pV_nil)), f_174_97⟩
theorem q_174_98 : pQ_174 u_174_98 := ⟨_, _, _, (pS_nil), (pV_cons (List.mem_of_getElem? (i := 90) rfl) (pV_nil)), f_174_98⟩
theorem q_174_99 : pQ_174 u_174_99 := ⟨_, _, _, (pS_nil), (pV_cons (List.mem_of_getElem? (i := 104) rfl) (pV_nil)), f_174_99⟩
theorem q_174_100 : pQ_174 u_174_100 := ⟨_, _, _, (pS_nil), (pV_cons (List.mem_of_getElem? (i := 105) rfl) (pV_nil)), f_174_100⟩
theorem q_174_101 : pQ_174 u_174_101 := ⟨_, _, _, (pS_nil), (pV_cons (List.mem_of_getElem? (i := 106) rfl) (pV_nil)), f_174_101⟩
theorem q_174_102 : pQ_174 u_174_102 := ⟨_, _, _, (pS_nil), (pV_cons (List.mem_of_getElem? (i := 107) rfl) (pV_nil)), f_174_102⟩
theorem q_174_103 : pQ_174 u_174_103 := ⟨_, _, _, (pS_nil), (pV_cons (List.mem_of_getElem? (i := 108) rfl) (pV_nil)), f_174_103⟩
theorem q_174_104 : pQ_174 u_174_104 := ⟨_, _, _, (pS_nil), (pV_cons (List.mem_of_getElem? (i := 109) rfl) (pV_nil)), f_174_104⟩
theorem q_174_105 : pQ_174 u_174_105 := ⟨_, _, _, (pS_nil), (pV_nil), f_174_105⟩
theorem q_174_106 : pQ_174 u_174_106 := ⟨_, _, _, (pS_nil), (pV_nil), f_174_106⟩
theorem q_174_107 : pQ_174 u_174_107 := ⟨_, _, _, (pS_nil), (pV_cons (List.mem_of_getElem? (i := 110) rfl) (pV_nil)), f_174_107⟩
theorem q_174_108 : pQ_174 u_174_108 := ⟨_, _, _, (pS_nil), (pV_cons (List.mem_of_getElem? (i := 111) rfl) (pV_nil)), f_174_108⟩
theorem q_174_109 : pQ_174 u_174_109 := ⟨_, _, _, (pS_nil), (pV_cons (List.mem_of_getElem? (i := 112) rfl) (pV_nil)), f_174_109⟩
theorem q_174_110 : pQ_174 u_174_110 := ⟨_, _, _, (pS_nil), (pV_cons (List.mem_of_getElem? (i := 113) rfl) (pV_nil)), f_174_110⟩
theorem q_174_111 : pQ_174 u_174_111 := ⟨_, _, _, (pS_nil), (pV_cons (List.mem_of_getElem? (i := 114) rfl) (pV_nil)), f_174_111⟩
theorem q_174_112 : pQ_174 u_174_112 := ⟨_, _, _, (pS_nil), (pV_cons (List.mem_of_getElem? (i := 115) rfl) (pV_nil)), f_174_112⟩
theorem q_174_113 : pQ_174 u_174_113 := ⟨_, _, _, (pS_nil), (pV_cons (List.mem_of_getElem? (i := 116) rfl) (pV_nil)), f_174_113⟩
theorem q_174_114 : pQ_174 u_174_114 := ⟨_, _, _, (pS_nil), (pV_cons (List.mem_of_getElem? (i := 117) rfl) (pV_nil)), f_174_114⟩
theorem q_174_115 : pQ_174 u_174_115 := ⟨_, _, _, (pS_nil), (pV_cons (List.mem_of_getElem? (i := 118) rfl) (pV_nil)), f_174_115⟩
theorem q_174_116 : pQ_174 u_174_116 := ⟨_, _, _, (pS_nil), (pV_nil), f_174_116⟩
theorem q_174_117 : pQ_174 u_174_117 := ⟨_, _, _, (pS_nil), (pV_nil), f_174_117⟩
theorem q_174_118 : pQ_174 u_174_118 := ⟨_, _, _, (pS_nil), (pV_cons (List.mem_of_getElem? (i := 119) rfl) (pV_nil)), f_174_118⟩
theorem q_174_119 : pQ_174 u_174_119 := ⟨_, _, _, (pS_nil), (pV_cons (List.mem_of_getElem? (i := 120) rfl) (pV_nil)), f_174_119⟩
theorem q_174_120 : pQ_174 u_174_120 := ⟨_, _, _, (pS_nil), (pV_cons (List.mem_of_getElem? (i := 121) rfl) (pV_nil)), f_174_120⟩
theorem q_174_121 : pQ_174 u_174_121 := ⟨_, _, _, (pS_nil), (pV_nil), f_174_121⟩
theorem qb_174_0 : ∀ u ∈ [u_174_0, u_174_1, u_174_2, u_174_3, u_174_4, u_174_5, u_174_6, u_174_7, u_174_8, u_174_9], pQ_174 u := pU_cons q_174_0 (pU_cons q_174_1 (pU_cons q_174_2 (pU_cons q_174_3 (pU_cons q_174_4 (pU_cons q_174_5 (pU_cons q_174_6 (pU_cons q_174_7 (pU_cons q_174_8 (pU_cons q_174_9 (pU_nil))))))))))
theorem qb_174_1 : ∀ u ∈ [u_174_10, u_174_11, u_174_12, u_174_13, u_174_14, u_174_15, u_174_16, u_174_17, u_174_18, u_174_19], pQ_174 u := pU_cons q_174_10 (pU_cons q_174_11 (pU_cons q_174_12 (pU_cons q_174_13 (pU_cons q_174_14 (pU_cons q_174_15 (pU_cons q_174_16 (pU_cons q_174_17 (pU_cons q_174_18 (pU_cons q_174_19 (pU_nil))))))))))
theorem qb_174_2 : ∀ u ∈ [u_174_20, u_174_21, u_174_22, u_174_23, u_174_24, u_174_25, u_174_26, u_174_27, u_174_28, u_174_29], pQ_174 u := pU_cons q_174_20 (pU_cons q_174_21 (pU_cons q_174_22 (pU_cons q_174_23 (pU_cons q_174_24 (pU_cons q_174_25 (pU_cons q_174_26 (pU_cons q_174_27 (pU_cons q_174_28 (pU_cons q_174_29 (pU_nil))))))))))
theorem qb_174_3 : ∀ u ∈ [u_174_30, u_174_31, u_174_32, u_174_33, u_174_34, u_174_35, u_174_36, u_174_37, u_174_38, u_174_39], pQ_174 u := pU_cons q_174_30 (pU_cons q_174_31 (pU_cons q_174_32 (pU_cons q_174_33 (pU_cons q_174_34 (pU_cons q_174_35 (pU_cons q_174_36 (pU_cons q_174_37 (pU_cons q_174_38 (pU_cons q_174_39 (pU_nil))))))))))
theorem qb_174_4 : ∀ u ∈ [u_174_40, u_174_41, u_174_42, u_174_43, u_174_44, u_174_45, u_174_46, u_174_47, u_174_48, u_174_49], pQ_174 u := pU_cons q_174_40 (pU_cons q_174_41 (pU_cons q_174_42 (pU_cons q_174_43 (pU_cons q_174_44 (pU_cons q_174_45 (pU_cons q_174_46 (pU_cons q_174_47 (pU_cons q_174_48 (pU_cons q_174_49 (pU_nil))))))))))
theorem qb_174_5 : ∀ u ∈ [u_174_50, u_174_51, u_174_52, u_174_53, u_174_54, u_174_55, u_174_56, u_174_57, u_174_58, u_174_59], pQ_174 u := pU_cons q_174_50 (pU_cons q_174_51 (pU_cons q_174_52 (pU_cons q_174_53 (pU_cons q_174_54 (pU_cons q_174_55 (pU_cons q_174_56 (pU_cons q_174_57 (pU_cons q_174_58 (pU_cons q_174_59 (pU_nil))))))))))
theorem qb_174_6 : ∀ u ∈ [u_174_60, u_174_61, u_174_62, u_174_63, u_174_64, u_174_65, u_174_66, u_174_67, u_174_68, u_174_69], pQ_174 u := pU_cons q_174_60 (pU_cons q_174_61 (pU_cons q_174_62 (pU_cons q_174_63 (pU_cons q_174_64 (pU_cons q_174_65 (pU_cons q_174_66 (pU_cons q_174_67 (pU_cons q_174_68 (pU_cons q_174_69 (pU_nil))))))))))
theorem qb_174_7 : ∀ u ∈ [u_174_70, u_174_71, u_174_72, u_174_73, u_174_74, u_174_75, u_174_76, u_174_77, u_174_78, u_174_79], pQ_174 u := pU_cons q_174_70 (pU_cons q_174_71 (pU_cons q_174_72 (pU_cons q_174_73 (pU_cons q_174_74 (pU_cons q_174_75 (pU_cons q_174_76 (pU_cons q_174_77 (pU_cons q_174_78 (pU_cons q_174_79 (pU_nil))))))))))
theorem qb_174_8 : ∀ u ∈ [u_174_80, u_174_81, u_174_82, u_174_83, u_174_84, u_174_85, u_174_86, u_174_87, u_174_88, u_174_89], pQ_174 u := pU_cons q_174_80 (pU_cons q_174_81 (pU_cons q_174_82 (pU_cons q_174_83 (pU_cons q_174_84 (pU_cons q_174_85 (pU_cons q_174_86 (pU_cons q_174_87 (pU_cons q_174_88 (pU_cons q_174_89 (pU_nil))))))))))
theorem qb_174_9 : ∀ u ∈ [u_174_90, u_174_91, u_174_92, u_174_93, u_174_94, u_174_95, u_174_96, u_174_97, u_174_98, u_174_99], pQ_174 u := pU_cons q_174_90 (pU_cons q_174_91 (pU_cons q_174_92 (pU_cons q_174_93 (pU_cons q_174_94 (pU_cons q_174_95 (pU_cons q_174_96 (pU_cons q_174_97 (pU_cons q_174_98 (pU_cons q_174_99 (pU_nil))))))))))
theorem qb_174_10 : ∀ u ∈ [u_174_100, u_174_101, u_174_102, u_174_103, u_174_104, u_174_105, u_174_106, u_174_107, u_174_108, u_174_109], pQ_174 u := pU_cons q_174_100 (pU_cons q_174_101 (pU_cons q_174_102 (pU_cons q_174_103 (pU_cons q_174_104 (pU_cons q_174_105 (pU_cons q_174_106 (pU_cons q_174_107 (pU_cons q_174_108 (pU_cons q_174_109 (pU_nil))))))))))
theorem qb_174_11 : ∀ u ∈ [u_174_110, u_174_111, u_174_112, u_174_113, u_174_114, u_174_115, u_174_116, u_174_117, u_174_118, u_174_119], pQ_174 u := pU_cons q_174_110 (pU_cons q_174_111 (pU_cons q_174_112 (pU_cons q_174_113 (pU_cons q_174_114 (pU_cons q_174_115 (pU_cons q_174_116 (pU_cons q_174_117 (pU_cons q_174_118 (pU_cons q_174_119 (pU_nil))))))))))
theorem qb_174_12 : ∀ u ∈ [u_174_120, u_174_121], pQ_174 u := pU_cons q_174_120 (pU_cons q_174_121 (pU_nil))
theorem ok_174 : sInOk pPT i_174 := sInst2 (M := pm_94) (cus := us_174) pOk pg_94 (by decide +kernel) ⟨_, _, _, (pS_nil), (pV_cons (List.mem_of_getElem? (i := 0) rfl) (pV_nil)), e_174⟩ (show ∀ u ∈ us_174, pQ_174 u from (pU_app qb_174_0 (pU_app qb_174_1 (pU_app qb_174_2 (pU_app qb_174_3 (pU_app qb_174_4 (pU_app qb_174_5 (pU_app qb_174_6 (pU_app qb_174_7 (pU_app qb_174_8 (pU_app qb_174_9 (pU_app qb_174_10 (pU_app qb_174_11 qb_174_12)))))))))))))
def pQ_175 (u : sCu) : Prop := ∃ (SM : List sIn) (cu : List sCu) (n : Nat), (∀ I ∈ SM, sInOk pPT I) ∧ (∀ v ∈ cu, v ∈ us_175) ∧ sWkU pPT SM i_175 (mR pm_91) cu n u = true
theorem q_175_0 : pQ_175 u_175_0 := ⟨_, _, _, (pS_cons ok_133 (pS_nil)), (pV_nil), f_175_0⟩
theorem q_175_1 : pQ_175 u_175_1 := ⟨_, _, _, (pS_cons ok_87 (pS_cons ok_132 (pS_cons ok_174 (pS_nil)))), (pV_cons (List.mem_of_getElem? (i := 0) rfl) (pV_cons (List.mem_of_getElem? (i := 1) rfl) (pV_nil))), f_175_1⟩
theorem qb_175_0 : ∀ u ∈ [u_175_0, u_175_1], pQ_175 u := pU_cons q_175_0 (pU_cons q_175_1 (pU_nil))
theorem ok_175 : sInOk pPT i_175 := sInst2 (M := pm_91) (cus := us_175) pOk pg_91 (by decide +kernel) ⟨_, _, _, (pS_cons ok_174 (pS_nil)), (pV_cons (List.mem_of_getElem? (i := 0) rfl) (pV_cons (List.mem_of_getElem? (i := 1) rfl) (pV_nil))), e_175⟩ (show ∀ u ∈ us_175, pQ_175 u from qb_175_0)
def pQ_176 (u : sCu) : Prop := ∃ (SM : List sIn) (cu : List sCu) (n : Nat), (∀ I ∈ SM, sInOk pPT I) ∧ (∀ v ∈ cu, v ∈ us_176) ∧ sWkU pPT SM i_176 (mR pm_94) cu n u = true
theorem q_176_0 : pQ_176 u_176_0 := ⟨_, _, _, (pS_cons ok_135 (pS_cons ok_173 (pS_nil))), (pV_cons (List.mem_of_getElem? (i := 1) rfl) (pV_nil)), f_176_0⟩
theorem q_176_1 : pQ_176 u_176_1 := ⟨_, _, _, (pS_nil), (pV_cons (List.mem_of_getElem? (i := 2) rfl) (pV_nil)), f_176_1⟩
theorem q_176_2 : pQ_176 u_176_2 := ⟨_, _, _, (pS_nil), (pV_nil), f_176_2⟩
theorem qb_176_0 : ∀ u ∈ [u_176_0, u_176_1, u_176_2], pQ_176 u := pU_cons q_176_0 (pU_cons q_176_1 (pU_cons q_176_2 (pU_nil)))
theorem ok_176 : sInOk pPT i_176 := sInst2 (M := pm_94) (cus := us_176) pOk pg_94 (by decide +kernel) ⟨_, _, _, (pS_nil), (pV_cons (List.mem_of_getElem? (i := 0) rfl) (pV_nil)), e_176⟩ (show ∀ u ∈ us_176, pQ_176 u from qb_176_0)
def pQ_177 (u : sCu) : Prop := ∃ (SM : List sIn) (cu : List sCu) (n : Nat), (∀ I ∈ SM, sInOk pPT I) ∧ (∀ v ∈ cu, v ∈ us_177) ∧ sWkU pPT SM i_177 (mR pm_91) cu n u = true
theorem q_177_0 : pQ_177 u_177_0 := ⟨_, _, _, (pS_cons ok_133 (pS_nil)), (pV_nil), f_177_0⟩
theorem qb_177_0 : ∀ u ∈ [u_177_0], pQ_177 u := pU_cons q_177_0 (pU_nil)
theorem ok_177 : sInOk pPT i_177 := sInst2 (M := pm_91) (cus := us_177) pOk pg_91 (by decide +kernel) ⟨_, _, _, (pS_cons ok_176 (pS_nil)), (pV_cons (List.mem_of_getElem? (i := 0) rfl) (pV_nil)), e_177⟩ (show ∀ u ∈ us_177, pQ_177 u from qb_177_0)
def pQ_178 (u : sCu) : Prop := ∃ (SM : List sIn) (cu : List sCu) (n : Nat), (∀ I ∈ SM, sInOk pPT I) ∧ (∀ v ∈ cu, v ∈ us_178) ∧ sWkU pPT SM i_178 (mR pm_92) cu n u = true
theorem q_178_0 : pQ_178 u_178_0 := ⟨_, _, _, (pS_nil), (pV_cons (List.mem_of_getElem? (i := 1) rfl) (pV_nil)), f_178_0⟩
theorem q_178_1 : pQ_178 u_178_1 := ⟨_, _, _, (pS_nil), (pV_cons (List.mem_of_getElem? (i := 2) rfl) (pV_cons (List.mem_of_getElem? (i := 3) rfl) (pV_nil))), f_178_1⟩
theorem q_178_2 : pQ_178 u_178_2 := ⟨_, _, _, (pS_cons ok_175 (pS_nil)), (pV_cons (List.mem_of_getElem? (i := 4) rfl) (pV_cons (List.mem_of_getElem? (i := 5) rfl) (pV_nil))), f_178_2⟩
theorem q_178_3 : pQ_178 u_178_3 := ⟨_, _, _, (pS_cons ok_177 (pS_nil)), (pV_cons (List.mem_of_getElem? (i := 4) rfl) (pV_nil)), f_178_3⟩
theorem q_178_4 : pQ_178 u_178_4 := ⟨_, _, _, (pS_cons ok_131 (pS_nil)), (pV_nil), f_178_4⟩
theorem q_178_5 : pQ_178 u_178_5 := ⟨_, _, _, (pS_cons ok_87 (pS_cons ok_130 (pS_cons ok_175 (pS_nil)))), (pV_cons (List.mem_of_getElem? (i := 4) rfl) (pV_cons (List.mem_of_getElem? (i := 5) rfl) (pV_nil))), f_178_5⟩
theorem qb_178_0 : ∀ u ∈ [u_178_0, u_178_1, u_178_2, u_178_3, u_178_4, u_178_5], pQ_178 u := pU_cons q_178_0 (pU_cons q_178_1 (pU_cons q_178_2 (pU_cons q_178_3 (pU_cons q_178_4 (pU_cons q_178_5 (pU_nil))))))
theorem ok_178 : sInOk pPT i_178 := sInst2 (M := pm_92) (cus := us_178) pOk pg_92 (by decide +kernel) ⟨_, _, _, (pS_nil), (pV_cons (List.mem_of_getElem? (i := 0) rfl) (pV_cons (List.mem_of_getElem? (i := 1) rfl) (pV_nil))), e_178⟩ (show ∀ u ∈ us_178, pQ_178 u from qb_178_0)
theorem ok_179 : sInOk pPT i_179 := sInst2 (M := pm_92) (cus := []) pOk pg_92 (by decide +kernel) ⟨_, _, _, (pS_nil), pV_nil, e_179⟩ pU_nil
def pQ_180 (u : sCu) : Prop := ∃ (SM : List sIn) (cu : List sCu) (n : Nat), (∀ I ∈ SM, sInOk pPT I) ∧ (∀ v ∈ cu, v ∈ us_180) ∧ sWkU pPT SM i_180 (mR pm_96) cu n u = true
theorem q_180_0 : pQ_180 u_180_0 := ⟨_, _, _, (pS_cons ok_87 (pS_nil)), (pV_nil), f_180_0⟩
theorem q_180_1 : pQ_180 u_180_1 := ⟨_, _, _, (pS_nil), (pV_nil), f_180_1⟩
theorem qb_180_0 : ∀ u ∈ [u_180_0, u_180_1], pQ_180 u := pU_cons q_180_0 (pU_cons q_180_1 (pU_nil))
theorem ok_180 : sInOk pPT i_180 := sInst2 (M := pm_96) (cus := us_180) pOk pg_96 (by decide +kernel) ⟨_, _, _, (pS_cons ok_144 (pS_cons ok_145 (pS_cons ok_146 (pS_cons ok_147 (pS_cons ok_155 (pS_cons ok_178 (pS_cons ok_179 (pS_nil)))))))), (pV_cons (List.mem_of_getElem? (i := 0) rfl) (pV_cons (List.mem_of_getElem? (i := 1) rfl) (pV_nil))), e_180⟩ (show ∀ u ∈ us_180, pQ_180 u from qb_180_0)
def pQ_181 (u : sCu) : Prop := ∃ (SM : List sIn) (cu : List sCu) (n : Nat), (∀ I ∈ SM, sInOk pPT I) ∧ (∀ v ∈ cu, v ∈ us_181) ∧ sWkU pPT SM i_181 (mR pm_97) cu n u = true
theorem q_181_0 : pQ_181 u_181_0 := ⟨_, _, _, (pS_nil), (pV_nil), f_181_0⟩
theorem q_181_1 : pQ_181 u_181_1 := ⟨_, _, _, (pS_nil), (pV_cons (List.mem_of_getElem? (i := 2) rfl) (pV_nil)), f_181_1⟩
theorem q_181_2 : pQ_181 u_181_2 := ⟨_, _, _, (pS_nil), (pV_cons (List.mem_of_getElem? (i := 3) rfl) (pV_nil)), f_181_2⟩
theorem q_181_3 : pQ_181 u_181_3 := ⟨_, _, _, (pS_cons ok_87 (pS_cons ok_180 (pS_nil))), (pV_cons (List.mem_of_getElem? (i := 0) rfl) (pV_cons (List.mem_of_getElem? (i := 1) rfl) (pV_nil))), f_181_3⟩
theorem qb_181_0 : ∀ u ∈ [u_181_0, u_181_1, u_181_2, u_181_3], pQ_181 u := pU_cons q_181_0 (pU_cons q_181_1 (pU_cons q_181_2 (pU_cons q_181_3 (pU_nil))))
theorem ok_181 : sInOk pPT i_181 := sInst2 (M := pm_97) (cus := us_181) pOk pg_97 (by decide +kernel) ⟨_, _, _, (pS_cons ok_180 (pS_nil)), (pV_cons (List.mem_of_getElem? (i := 0) rfl) (pV_cons (List.mem_of_getElem? (i := 1) rfl) (pV_nil))), e_181⟩ (show ∀ u ∈ us_181, pQ_181 u from qb_181_0)
def pQ_182 (u : sCu) : Prop := ∃ (SM : List sIn) (cu : List sCu) (n : Nat), (∀ I ∈ SM, sInOk pPT I) ∧ (∀ v ∈ cu, v ∈ us_182) ∧ sWkU pPT SM i_182 (mR pm_98) cu n u = true
theorem q_182_0 : pQ_182 u_182_0 := ⟨_, _, _, (pS_nil), (pV_nil), f_182_0⟩
theorem q_182_1 : pQ_182 u_182_1 := ⟨_, _, _, (pS_nil), (pV_cons (List.mem_of_getElem? (i := 2) rfl) (pV_nil)), f_182_1⟩
theorem q_182_2 : pQ_182 u_182_2 := ⟨_, _, _, (pS_nil), (pV_cons (List.mem_of_getElem? (i := 3) rfl) (pV_nil)), f_182_2⟩
theorem q_182_3 : pQ_182 u_182_3 := ⟨_, _, _, (pS_cons ok_87 (pS_cons ok_181 (pS_nil))), (pV_cons (List.mem_of_getElem? (i := 0) rfl) (pV_cons (List.mem_of_getElem? (i := 1) rfl) (pV_nil))), f_182_3⟩
theorem qb_182_0 : ∀ u ∈ [u_182_0, u_182_1, u_182_2, u_182_3], pQ_182 u := pU_cons q_182_0 (pU_cons q_182_1 (pU_cons q_182_2 (pU_cons q_182_3 (pU_nil))))
theorem ok_182 : sInOk pPT i_182 := sInst2 (M := pm_98) (cus := us_182) pOk pg_98 (by decide +kernel) ⟨_, _, _, (pS_cons ok_181 (pS_nil)), (pV_cons (List.mem_of_getElem? (i := 0) rfl) (pV_cons (List.mem_of_getElem? (i := 1) rfl) (pV_nil))), e_182⟩ (show ∀ u ∈ us_182, pQ_182 u from qb_182_0)
theorem ok_183 : sInOk pPT i_183 := sInst2 (M := pm_96) (cus := []) pOk pg_96 (by decide +kernel) ⟨_, _, _, (pS_nil), pV_nil, e_183⟩ pU_nil
def pQ_184 (u : sCu) : Prop := ∃ (SM : List sIn) (cu : List sCu) (n : Nat), (∀ I ∈ SM, sInOk pPT I) ∧ (∀ v ∈ cu, v ∈ us_184) ∧ sWkU pPT SM i_184 (mR pm_97) cu n u = true
theorem q_184_0 : pQ_184 u_184_0 := ⟨_, _, _, (pS_nil), (pV_nil), f_184_0⟩
theorem qb_184_0 : ∀ u ∈ [u_184_0], pQ_184 u := pU_cons q_184_0 (pU_nil)
theorem ok_184 : sInOk pPT i_184 := sInst2 (M := pm_97) (cus := us_184) pOk pg_97 (by decide +kernel) ⟨_, _, _, (pS_cons ok_183 (pS_nil)), (pV_cons (List.mem_of_getElem? (i := 0) rfl) (pV_nil)), e_184⟩ (show ∀ u ∈ us_184, pQ_184 u from qb_184_0)
def pQ_185 (u : sCu) : Prop := ∃ (SM : List sIn) (cu : List sCu) (n : Nat), (∀ I ∈ SM, sInOk pPT I) ∧ (∀ v ∈ cu, v ∈ us_185) ∧ sWkU pPT SM i_185 (mR pm_98) cu n u = true
theorem q_185_0 : pQ_185 u_185_0 := ⟨_, _, _, (pS_nil), (pV_nil), f_185_0⟩
theorem qb_185_0 : ∀ u ∈ [u_185_0], pQ_185 u := pU_cons q_185_0 (pU_nil)
theorem ok_185 : sInOk pPT i_185 := sInst2 (M := pm_98) (cus := us_185) pOk pg_98 (by decide +kernel) ⟨_, _, _, (pS_cons ok_184 (pS_nil)), (pV_cons (List.mem_of_getElem? (i := 0) rfl) (pV_nil)), e_185⟩ (show ∀ u ∈ us_185, pQ_185 u from qb_185_0)
def pQ_186 (u : sCu) : Prop := ∃ (SM : List sIn) (cu : List sCu) (n : Nat), (∀ I ∈ SM, sInOk pPT I) ∧ (∀ v ∈ cu, v ∈ us_186) ∧ sWkU pPT SM i_186 (mR pm_94) cu n u = true
theorem q_186_0 : pQ_186 u_186_0 := ⟨_, _, _, (pS_cons ok_134 (pS_cons ok_182 (pS_nil))), (pV_cons (List.mem_of_getElem? (i := 1) rfl) (pV_cons (List.mem_of_getElem? (i := 2) rfl) (pV_cons (List.mem_of_getElem? (i := 3) rfl) (pV_cons (List.mem_of_getElem? (i := 4) rfl) (pV_nil))))), f_186_0⟩
theorem q_186_1 : pQ_186 u_186_1 := ⟨_, _, _, (pS_nil), (pV_cons (List.mem_of_getElem? (i := 5) rfl) (pV_nil)), f_186_1⟩
theorem q_186_2 : pQ_186 u_186_2 := ⟨_, _, _, (pS_nil), (pV_cons (List.mem_of_getElem? (i := 6) rfl) (pV_nil)), f_186_2⟩
theorem q_186_3 : pQ_186 u_186_3 := ⟨_, _, _, (pS_nil), (pV_cons (List.mem_of_getElem? (i := 7) rfl) (pV_nil)), f_186_3⟩
theorem q_186_4 : pQ_186 u_186_4 := ⟨_, _, _, (pS_cons ok_87 (pS_nil)), (pV_cons (List.mem_of_getElem? (i := 8) rfl) (pV_nil)), f_186_4⟩
theorem q_186_5 : pQ_186 u_186_5 := ⟨_, _, _, (pS_nil), (pV_nil), f_186_5⟩
theorem q_186_6 : pQ_186 u_186_6 := ⟨_, _, _, (pS_nil), (pV_nil), f_186_6⟩
theorem q_186_7 : pQ_186 u_186_7 := ⟨_, _, _, (pS_cons ok_87 (pS_cons ok_182 (pS_nil))), (pV_cons (List.mem_of_getElem? (i := 1) rfl) (pV_cons (List.mem_of_getElem? (i := 2) rfl) (pV_nil))), f_186_7⟩
theorem q_186_8 : pQ_186 u_186_8 := ⟨_, _, _, (pS_cons ok_134 (pS_cons ok_182 (pS_nil))), (pV_cons (List.mem_of_getElem? (i := 11) rfl) (pV_cons (List.mem_of_getElem? (i := 12) rfl) (pV_cons (List.mem_of_getElem? (i := 13) rfl) (pV_cons (List.mem_of_getElem? (i := 14) rfl) (pV_nil))))), f_186_8⟩
theorem q_186_9 : pQ_186 u_186_9 := ⟨_, _, _, (pS_nil), (pV_cons (List.mem_of_getElem? (i := 5) rfl) (pV_nil)), f_186_9⟩
theorem q_186_10 : pQ_186 u_186_10 := ⟨_, _, _, (pS_nil), (pV_cons (List.mem_of_getElem? (i := 6) rfl) (pV_nil)), f_186_10⟩
theorem q_186_11 : pQ_186 u_186_11 := ⟨_, _, _, (pS_nil), (pV_cons (List.mem_of_getElem? (i := 15) rfl) (pV_nil)), f_186_11⟩
theorem q_186_12 : pQ_186 u_186_12 := ⟨_, _, _, (pS_nil), (pV_cons (List.mem_of_getElem? (i := 16) rfl) (pV_nil)), f_186_12⟩
theorem q_186_13 : pQ_186 u_186_13 := ⟨_, _, _, (pS_nil), (pV_cons (List.mem_of_getElem? (i := 17) rfl) (pV_nil)), f_186_13⟩
theorem q_186_14 : pQ_186 u_186_14 := ⟨_, _, _, (pS_cons ok_87 (pS_nil)), (pV_cons (List.mem_of_getElem? (i := 18) rfl) (pV_nil)), f_186_14⟩
theorem q_186_15 : pQ_186 u_186_15 := ⟨_, _, _, (pS_nil), (pV_cons (List.mem_of_getElem? (i := 19) rfl) (pV_nil)), f_186_15⟩
theorem q_186_16 : pQ_186 u_186_16 := ⟨_, _, _, (pS_nil), (pV_cons (List.mem_of_getElem? (i := 20) rfl) (pV_nil)), f_186_16⟩
theorem q_186_17 : pQ_186 u_186_17 := ⟨_, _, _, (pS_cons ok_87 (pS_cons ok_182 (pS_nil))), (pV_cons (List.mem_of_getElem? (i := 11) rfl) (pV_cons (List.mem_of_getElem? (i := 12) rfl) (pV_nil))), f_186_17⟩
theorem q_186_18 : pQ_186 u_186_18 := ⟨_, _, _, (pS_cons ok_134 (pS_cons ok_182 (pS_nil))), (pV_cons (List.mem_of_getElem? (i := 23) rfl) (pV_cons (List.mem_of_getElem? (i := 24) rfl) (pV_cons (List.mem_of_getElem? (i := 25) rfl) (pV_cons (List.mem_of_getElem? (i := 26) rfl) (pV_nil))))), f_186_18⟩
theorem q_186_19 : pQ_186 u_186_19 := ⟨_, _, _, (pS_nil), (pV_nil), f_186_19⟩
theorem q_186_20 : pQ_186 u_186_20 := ⟨_, _, _, (pS_nil), (pV_nil), f_186_20⟩
theorem q_186_21 : pQ_186 u_186_21 := ⟨_, _, _, (pS_nil), (pV_cons (List.mem_of_getElem? (i := 15) rfl) (pV_nil)), f_186_21⟩
theorem q_186_22 : pQ_186 u_186_22 := ⟨_, _, _, (pS_nil), (pV_cons (List.mem_of_getElem? (i := 16) rfl) (pV_nil)), f_186_22⟩
theorem q_186_23 : pQ_186 u_186_23 := ⟨_, _, _, (pS_nil), (pV_cons (List.mem_of_getElem? (i := 27) rfl) (pV_nil)), f_186_23⟩
theorem q_186_24 : pQ_186 u_186_24 := ⟨_, _, _, (pS_nil), (pV_cons (List.mem_of_getElem? (i := 28) rfl) (pV_nil)), f_186_24⟩
theorem q_186_25 : pQ_186 u_186_25 := ⟨_, _, _, (pS_nil), (pV_cons (List.mem_of_getElem? (i := 29) rfl) (pV_nil)), f_186_25⟩
theorem q_186_26 : pQ_186 u_186_26 := ⟨_, _, _, (pS_cons ok_87 (pS_nil)), (pV_cons (List.mem_of_getElem? (i := 30) rfl) (pV_nil)), f_186_26⟩
theorem q_186_27 : pQ_186 u_186_27 := ⟨_, _, _, (pS_nil), (pV_cons (List.mem_of_getElem? (i := 31) rfl) (pV_nil)), f_186_27⟩
theorem q_186_28 : pQ_186 u_186_28 := ⟨_, _, _, (pS_nil), (pV_cons (List.mem_of_getElem? (i := 32) rfl) (pV_nil)), f_186_28⟩
theorem q_186_29 : pQ_186 u_186_29 := ⟨_, _, _, (pS_cons ok_87 (pS_cons ok_182 (pS_nil))), (pV_cons (List.mem_of_getElem? (i := 23) rfl) (pV_cons (List.mem_of_getElem? (i := 24) rfl) (pV_nil))), f_186_29⟩
theorem q_186_30 : pQ_186 u_186_30 := ⟨_, _, _, (pS_cons ok_134 (pS_cons ok_182 (pS_nil))), (pV_cons (List.mem_of_getElem? (i := 35) rfl) (pV_cons (List.mem_of_getElem? (i := 36) rfl) (pV_cons (List.mem_of_getElem? (i := 37) rfl) (pV_cons (List.mem_of_getElem? (i := 38) rfl) (pV_nil))))), f_186_30⟩
theorem q_186_31 : pQ_186 u_186_31 := ⟨_, _, _, (pS_nil), (pV_cons (List.mem_of_getElem? (i := 39) rfl) (pV_nil)), f_186_31⟩
theorem q_186_32 : pQ_186 u_186_32 := ⟨_, _, _, (pS_nil), (pV_cons (List.mem_of_getElem? (i := 40) rfl) (pV_nil)), f_186_32⟩
theorem q_186_33 : pQ_186 u_186_33 := ⟨_, _, _, (pS_nil), (pV_cons (List.mem_of_getElem? (i := 27) rfl) (pV_nil)), f_186_33⟩
theorem q_186_34 : pQ_186 u_186_34 := ⟨_, _, _, (pS_nil), (pV_cons (List.mem_of_getElem? (i := 28) rfl) (pV_nil)), f_186_34⟩
theorem q_186_35 : pQ_186 u_186_35 := ⟨_, _, _, (pS_nil), (pV_cons (List.mem_of_getElem? (i := 41) rfl) (pV_nil)), f_186_35⟩
theorem q_186_36 : pQ_186 u_186_36 := ⟨_, _, _, (pS_nil), (pV_cons (List.mem_of_getElem? (i := 42) rfl) (pV_nil)), f_186_36⟩
theorem q_186_37 : pQ_186 u_186_37 := ⟨_, _, _, (pS_nil), (pV_cons (List.mem_of_getElem? (i := 43) rfl) (pV_nil)), f_186_37⟩
theorem q_186_38 : pQ_186 u_186_38 := ⟨_, _, _, (pS_cons ok_87 (pS_nil)), (pV_cons (List.mem_of_getElem? (i := 44) rfl) (pV_nil)), f_186_38⟩
theorem q_186_39 : pQ_186 u_186_39 := ⟨_, _, _, (pS_nil), (pV_nil), f_186_39⟩
theorem q_186_40 : pQ_186 u_186_40 := ⟨_, _, _, (pS_nil), (pV_nil), f_186_40⟩
theorem q_186_41 : pQ_186 u_186_41 := ⟨_, _, _, (pS_nil), (pV_cons (List.mem_of_getElem? (i := 45) rfl) (pV_nil)), f_186_41⟩
theorem q_186_42 : pQ_186 u_186_42 := ⟨_, _, _, (pS_nil), (pV_cons (List.mem_of_getElem? (i := 46) rfl) (pV_nil)), f_186_42⟩
theorem q_186_43 : pQ_186 u_186_43 := ⟨_, _, _, (pS_cons ok_87 (pS_cons ok_182 (pS_nil))), (pV_cons (List.mem_of_getElem? (i := 35) rfl) (pV_cons (List.mem_of_getElem? (i := 36) rfl) (pV_nil))), f_186_43⟩
theorem q_186_44 : pQ_186 u_186_44 := ⟨_, _, _, (pS_cons ok_134 (pS_cons ok_182 (pS_nil))), (pV_cons (List.mem_of_getElem? (i := 49) rfl) (pV_cons (List.mem_of_getElem? (i := 50) rfl) (pV_cons (List.mem_of_getElem? (i := 51) rfl) (pV_cons (List.mem_of_getElem? (i := 52) rfl) (pV_nil))))), f_186_44⟩
theorem q_186_45 : pQ_186 u_186_45 := ⟨_, _, _, (pS_nil), (pV_cons (List.mem_of_getElem? (i := 53) rfl) (pV_nil)), f_186_45⟩
theorem q_186_46 : pQ_186 u_186_46 := ⟨_, _, _, (pS_nil), (pV_cons (List.mem_of_getElem? (i := 54) rfl) (pV_nil)), f_186_46⟩
theorem q_186_47 : pQ_186 u_186_47 := ⟨_, _, _, (pS_nil), (pV_cons (List.mem_of_getElem? (i := 41) rfl) (pV_nil)), f_186_47⟩
theorem q_186_48 : pQ_186 u_186_48 := ⟨_, _, _, (pS_nil), (pV_cons (List.mem_of_getElem? (i := 42) rfl) (pV_nil)), f_186_48⟩
theorem q_186_49 : pQ_186 u_186_49 := ⟨_, _, _, (pS_nil), (pV_cons (List.mem_of_getElem? (i := 55) rfl) (pV_nil)), f_186_49⟩
theorem q_186_50 : pQ_186 u_186_50 := ⟨_, _, _, (pS_nil), (pV_cons (List.mem_of_getElem? (i := 56) rfl) (pV_nil)), f_186_50⟩
theorem q_186_51 : pQ_186 u_186_51 := ⟨_, _, _, (pS_nil), (pV_cons (List.mem_of_getElem? (i := 57) rfl) (pV_nil)), f_186_51⟩
theorem q_186_52 : pQ_186 u_186_52 := ⟨_, _, _, (pS_cons ok_87 (pS_nil)), (pV_cons (List.mem_of_getElem? (i := 58) rfl) (pV_nil)), f_186_52⟩
theorem q_186_53 : pQ_186 u_186_53 := ⟨_, _, _, (pS_nil), (pV_cons (List.mem_of_getElem? (i := 59) rfl) (pV_nil)), f_186_53⟩
theorem q_186_54 : pQ_186 u_186_54 := ⟨_, _, _, (pS_nil), (pV_cons (List.mem_of_getElem? (i := 60) rfl) (pV_nil)), f_186_54⟩
theorem q_186_55 : pQ_186 u_186_55 := ⟨_, _, _, (pS_nil), (pV_cons (List.mem_of_getElem? (i := 61) rfl) (pV_nil)), f_186_55⟩
theorem q_186_56 : pQ_186 u_186_56 := ⟨_, _, _, (pS_nil), (pV_cons (List.mem_of_getElem? (i := 62) rfl) (pV_nil)), f_186_56⟩
theorem q_186_57 : pQ_186 u_186_57 := ⟨_, _, _, (pS_cons ok_87 (pS_cons ok_182 (pS_nil))), (pV_cons (List.mem_of_getElem? (i := 49) rfl) (pV_cons (List.mem_of_getElem? (i := 50) rfl) (pV_nil))), f_186_57⟩
theorem q_186_58 : pQ_186 u_186_58 := ⟨_, _, _, (pS_cons ok_134 (pS_cons ok_182 (pS_nil))), (pV_cons (List.mem_of_getElem? (i := 65) rfl) (pV_cons (List.mem_of_getElem? (i := 66) rfl) (pV_cons (List.mem_of_getElem? (i := 67) rfl) (pV_cons (List.mem_of_getElem? (i := 68) rfl) (pV_nil))))), f_186_58⟩
theorem q_186_59 : pQ_186 u_186_59 := ⟨_, _, _, (pS_nil), (pV_nil), f_186_59⟩
theorem q_186_60 : pQ_186 u_186_60 := ⟨_, _, _, (pS_nil), (pV_nil), f_186_60⟩
theorem q_186_61 : pQ_186 u_186_61 := ⟨_, _, _, (pS_nil), (pV_cons (List.mem_of_getElem? (i := 69) rfl) (pV_nil)), f_186_61⟩
theorem q_186_62 : pQ_186 u_186_62 := ⟨_, _, _, (pS_nil), (pV_cons (List.mem_of_getElem? (i := 70) rfl) (pV_nil)), f_186_62⟩
theorem q_186_63 : pQ_186 u_186_63 := ⟨_, _, _, (pS_nil), (pV_cons (List.mem_of_getElem? (i := 55) rfl) (pV_nil)), f_186_63⟩
theorem q_186_64 : pQ_186 u_186_64 := ⟨_, _, _, (pS_nil), (pV_cons (List.mem_of_getElem? (i := 56) rfl) (pV_nil)), f_186_64⟩
theorem q_186_65 : pQ_186 u_186_65 := ⟨_, _, _, (pS_nil), (pV_cons (List.mem_of_getElem? (i := 71) rfl) (pV_nil)), f_186_65⟩
theorem q_186_66 : pQ_186 u_186_66 := ⟨_, _, _, (pS_nil), (pV_cons (List.mem_of_getElem? (i := 72) rfl) (pV_nil)), f_186_66⟩
theorem q_186_67 : pQ_186 u_186_67 := ⟨_, _, _, (pS_nil), (pV_cons (List.mem_of_getElem? (i := 73) rfl) (pV_nil)), f_186_67⟩
theorem q_186_68 : pQ_186 u_186_68 := ⟨_, _, _, (pS_cons ok_87 (pS_nil)), (pV_cons (List.mem_of_getElem? (i := 74) rfl) (pV_nil)), f_186_68⟩
theorem q_186_69 : pQ_186 u_186_69 := ⟨_, _, _, (pS_nil), (pV_cons (List.mem_of_getElem? (i := 75) rfl) (pV_nil)), f_186_69⟩
theorem q_186_70 : pQ_186 u_186_70 := ⟨_, _, _, (pS_nil), (pV_cons (List.mem_of_getElem? (i := 76) rfl) (pV_nil)), f_186_70⟩
theorem q_186_71 : pQ_186 u_186_71 := ⟨_, _, _, (pS_nil), (pV_cons (List.mem_of_getElem? (i := 77) rfl) (pV_nil)), f_186_71⟩
theorem q_186_72 : pQ_186 u_186_72 := ⟨_, _, _, (pS_nil), (pV_cons (List.mem_of_getElem? (i := 78) rfl) (pV_nil)), f_186_72⟩
theorem q_186_73 : pQ_186 u_186_73 := ⟨_, _, _, (pS_cons ok_87 (pS_cons ok_182 (pS_nil))), (pV_cons (List.mem_of_getElem? (i := 65) rfl) (pV_cons (List.mem_of_getElem? (i := 66) rfl) (pV_nil))), f_186_73⟩
theorem q_186_74 : pQ_186 u_186_74 := ⟨_, _, _, (pS_cons ok_134 (pS_cons ok_182 (pS_nil))), (pV_cons (List.mem_of_getElem? (i := 81) rfl) (pV_cons (List.mem_of_getElem? (i := 82) rfl) (pV_cons (List.mem_of_getElem? (i := 83) rfl) (pV_cons (List.mem_of_getElem? (i := 84) rfl) (pV_nil))))), f_186_74⟩
theorem q_186_75 : pQ_186 u_186_75 := ⟨_, _, _, (pS_nil), (pV_cons (List.mem_of_getElem? (i := 85) rfl) (pV_nil)), f_186_75⟩
theorem q_186_76 : pQ_186 u_186_76 := ⟨_, _, _, (pS_nil), (pV_cons (List.mem_of_getElem? (i := 86) rfl) (pV_nil)), f_186_76⟩
theorem q_186_77 : pQ_186 u_186_77 := ⟨_, _, _, (pS_nil), (pV_cons (List.mem_of_getElem? (i := 87) rfl) (pV_nil)), f_186_77⟩
theorem q_186_78 : pQ_186 u_186_78 := ⟨_, _, _, (pS_nil), (pV_cons (List.mem_of_getElem? (i := 88) rfl) (pV_nil)), f_186_78⟩
theorem q_186_79 : pQ_186 u_186_79 := ⟨_, _, _, (pS_nil), (pV_cons (List.mem_of_getElem? (i := 71) rfl) (pV_nil)), f_186_79⟩
theorem q_186_80 : pQ_186 u_186_80 := ⟨_, _, _, (pS_nil), (pV_cons (List.mem_of_getElem? (i := 72) rfl) (pV_nil)), f_186_80⟩
theorem q_186_81 : pQ_186 u_186_81 := ⟨_, _, _, (pS_nil), (pV_cons (List.mem_of_getElem? (i := 89) rfl) (pV_nil)), f_186_81⟩
theorem q_186_82 : pQ_186 u_186_82 := ⟨_, _, _, (pS_nil), (pV_cons (List.mem_of_getElem? (i := 90) rfl) (pV_nil)), f_186_82⟩
theorem q_186_83 : pQ_186 u_186_83 := ⟨_, _, _, (pS_nil), (pV_cons (List.mem_of_getElem? (i := 91) rfl) (pV_nil)), f_186_83⟩
theorem q_186_84 : pQ_186 u_186_84 := ⟨_, _, _, (pS_nil), (pV_cons (List.mem_of_getElem? (i := 92) rfl) (pV_nil)), f_186_84⟩
theorem q_186_85 : pQ_186 u_186_85 := ⟨_, _, _, (pS_nil), (pV_nil), f_186_85⟩
theorem q_186_86 : pQ_186 u_186_86 := ⟨_, _, _, (pS_nil), (pV_nil), f_186_86⟩
theorem q_186_87 : pQ_186 u_186_87 := ⟨_, _, _, (pS_nil), (pV_cons (List.mem_of_getElem? (i := 93) rfl) (pV_nil)), f_186_87⟩
theorem q_186_88 : pQ_186 u_186_88 := ⟨_, _, _, (pS_nil), (pV_cons (List.mem_of_getElem? (i := 94) rfl) (pV_nil)), f_186_88⟩
theorem q_186_89 : pQ_186 u_186_89 := ⟨_, _, _, (pS_nil), (pV_cons (List.mem_of_getElem? (i := 95) rfl) (pV_nil)), f_186_89⟩
theorem q_186_90 : pQ_186 u_186_90 := ⟨_, _, _, (pS_nil), (pV_cons (List.mem_of_getElem? (i := 96) rfl) (pV_nil)), f_186_90⟩
theorem q_186_91 : pQ_186 u_186_91 := ⟨_, _, _, (pS_cons ok_87 (pS_cons ok_182 (pS_nil))), (pV_cons (List.mem_of_getElem? (i := 81) rfl) (pV_cons (List.mem_of_getElem? (i := 82) rfl) (pV_nil))), f_186_91⟩
theorem q_186_92 : pQ_186 u_186_92 := ⟨_, _, _, (pS_cons ok_135 (pS_cons ok_185 (pS_nil))), (pV_cons (List.mem_of_getElem? (i := 99) rfl) (pV_nil)), f_186_92⟩
theorem q_186_93 : pQ_186 u_186_93 := ⟨_, _, _, (pS_nil), (pV_cons (List.mem_of_getElem? (i := 100) rfl) (pV_nil)), f_186_93⟩
theorem q_186_94 : pQ_186 u_186_94 := ⟨_, _, _, (pS_nil), (pV_cons (List.mem_of_getElem? (i := 101) rfl) (pV_nil)), f_186_94⟩
theorem q_186_95 : pQ_186 u_186_95 := ⟨_, _, _, (pS_nil), (pV_cons (List.mem_of_getElem? (i := 102) rfl) (pV_nil)), f_186_95⟩
theorem q_186_96 : pQ_186 u_186_96 := ⟨_, _, _, (pS_nil), (pV_cons (List.mem_of_getElem? (i := 103) rfl) (pV_nil)), f_186_96⟩
theorem q_186_97 : pQ_186 u_186_97 := ⟨_, _, _, (pS_nil), (pV_cons (List.mem_of_getElem? (i := 89) rfl) (pV_nil)), f_186_97⟩
theorem q_186_98 : pQ_186 u_186_98 := ⟨_, _, _, (pS_nil), (pV_cons (List.mem_of_getElem? (i := 90) rfl) (pV_nil)), f_186_98⟩
theorem q_186_99 : pQ_186 u_186_99 := ⟨_, _, _, (pS_nil), (pV_cons (List.mem_of_getElem? (i := 104) rfl) (pV_nil)), f_186_99⟩
theorem q_186_100 : pQ_186 u_186_100 := ⟨_, _, _, (pS_nil), (pV_cons (List.mem_of_getElem? (i := 105) rfl) (pV_nil)), f_186_100⟩
theorem q_186_101 : pQ_186 u_186_101 := ⟨_, _, _, (pS_nil), (pV_cons (List.mem_of_getElem? (i := 106) rfl) (pV_nil)), f_186_101⟩
theorem q_186_102 : pQ_186 u_186_102 := ⟨_, _, _, (pS_nil), (pV_cons (List.mem_of_getElem? (i := 107) rfl) (pV_nil)), f_186_102⟩
theorem q_186_103 : pQ_186 u_186_103 := ⟨_, _, _, (pS_nil), (pV_cons (List.mem_of_getElem? (i := 108) rfl) (pV_nil)), f_186_103⟩
theorem q_186_104 : pQ_186 u_186_104 := ⟨_, _, _, (pS_nil), (pV_cons (List.mem_of_getElem? (i := 109) rfl) (pV_nil)), f_186_104⟩
theorem q_186_105 : pQ_186 u_186_105 := ⟨_, _, _, (pS_nil), (pV_nil), f_186_105⟩
theorem q_186_106 : pQ_186 u_186_106 := ⟨_, _, _, (pS_nil), (pV_nil), f_186_106⟩
theorem q_186_107 : pQ_186 u_186_107 := ⟨_, _, _, (pS_nil), (pV_cons (List.mem_of_getElem? (i := 110) rfl) (pV_nil)), f_186_107⟩
theorem q_186_108 : pQ_186 u_186_108 := ⟨_, _, _, (pS_nil), (pV_cons (List.mem_of_getElem? (i := 111) rfl) (pV_nil)), f_186_108⟩
theorem q_186_109 : pQ_186 u_186_109 := ⟨_, _, _, (pS_nil), (pV_cons (List.mem_of_getElem? (i := 112) rfl) (pV_nil)), f_186_109⟩
theorem q_186_110 : pQ_186 u_186_110 := ⟨_, _, _, (pS_nil), (pV_cons (List.mem_of_getElem? (i := 113) rfl) (pV_nil)), f_186_110⟩
theorem q_186_111 : pQ_186 u_186_111 := ⟨_, _, _, (pS_nil), (pV_cons (List.mem_of_getElem? (i := 114) rfl) (pV_nil)), f_186_111⟩
theorem q_186_112 : pQ_186 u_186_112 := ⟨_, _, _, (pS_nil), (pV_cons (List.mem_of_getElem? (i := 115) rfl) (pV_nil)), f_186_112⟩
theorem q_186_113 : pQ_186 u_186_113 := ⟨_, _, _, (pS_nil), (pV_cons (List.mem_of_getElem? (i := 116) rfl) (pV_nil)), f_186_113⟩
theorem q_186_114 : pQ_186 u_186_114 := ⟨_, _, _, (pS_nil), (pV_cons (List.mem_of_getElem? (i := 117) rfl) (pV_nil)), f_186_114⟩
theorem q_186_115 : pQ_186 u_186_115 := ⟨_, _, _, (pS_nil), (pV_cons (List.mem_of_getElem? (i := 118) rfl) (pV_nil)), f_186_115⟩
theorem q_186_116 : pQ_186 u_186_116 := ⟨_, _, _, (pS_nil), (pV_nil), f_186_116⟩
theorem q_186_117 : pQ_186 u_186_117 := ⟨_, _, _, (pS_nil), (pV_nil), f_186_117⟩
theorem q_186_118 : pQ_186 u_186_118 := ⟨_, _, _, (pS_nil), (pV_cons (List.mem_of_getElem? (i := 119) rfl) (pV_nil)), f_186_118⟩
theorem q_186_119 : pQ_186 u_186_119 := ⟨_, _, _, (pS_nil), (pV_cons (List.mem_of_getElem? (i := 120) rfl) (pV_nil)), f_186_119⟩
theorem q_186_120 : pQ_186 u_186_120 := ⟨_, _, _, (pS_nil), (pV_cons (List.mem_of_getElem? (i := 121) rfl) (pV_nil)), f_186_120⟩
theorem q_186_121 : pQ_186 u_186_121 := ⟨_, _, _, (pS_nil), (pV_nil), f_186_121⟩
theorem qb_186_0 : ∀ u ∈ [u_186_0, u_186_1, u_186_2, u_186_3, u_186_4, u_186_5, u_186_6, u_186_7, u_186_8, u_186_9], pQ_186 u := pU_cons q_186_0 (pU_cons q_186_1 (pU_cons q_186_2 (pU_cons q_186_3 (pU_cons q_186_4 (pU_cons q_186_5 (pU_cons q_186_6 (pU_cons q_186_7 (pU_cons q_186_8 (pU_cons q_186_9 (pU_nil))))))))))
theorem qb_186_1 : ∀ u ∈ [u_186_10, u_186_11, u_186_12, u_186_13, u_186_14, u_186_15, u_186_16, u_186_17, u_186_18, u_186_19], pQ_186 u := pU_cons q_186_10 (pU_cons q_186_11 (pU_cons q_186_12 (pU_cons q_186_13 (pU_cons q_186_14 (pU_cons q_186_15 (pU_cons q_186_16 (pU_cons q_186_17 (pU_cons q_186_18 (pU_cons q_186_19 (pU_nil))))))))))
theorem qb_186_2 : ∀ u ∈ [u_186_20, u_186_21, u_186_22, u_186_23, u_186_24, u_186_25, u_186_26, u_186_27, u_186_28, u_186_29], pQ_186 u := pU_cons q_186_20 (pU_cons q_186_21 (pU_cons q_186_22 (pU_cons q_186_23 (pU_cons q_186_24 (pU_cons q_186_25 (pU_cons q_186_26 (pU_cons q_186_27 (pU_cons q_186_28 (pU_cons q_186_29 (pU_nil))))))))))
theorem qb_186_3 : ∀ u ∈ [u_186_30, u_186_31, u_186_32, u_186_33, u_186_34, u_186_35, u_186_36, u_186_37, u_186_38, u_186_39], pQ_186 u := pU_cons q_186_30 (pU_cons q_186_31 (pU_cons q_186_32 (pU_cons q_186_33 (pU_cons q_186_34 (pU_cons q_186_35 (pU_cons q_186_36 (pU_cons q_186_37 (pU_cons q_186_38 (pU_cons q_186_39 (pU_nil))))))))))
theorem qb_186_4 : ∀ u ∈ [u_186_40, u_186_41, u_186_42, u_186_43, u_186_44, u_186_45, u_186_46, u_186_47, u_186_48, u_186_49], pQ_186 u := pU_cons q_186_40 (pU_cons q_186_41 (pU_cons q_186_42 (pU_cons q_186_43 (pU_cons q_186_44 (pU_cons q_186_45 (pU_cons q_186_46 (pU_cons q_186_47 (pU_cons q_186_48 (pU_cons q_186_49 (pU_nil))))))))))
theorem qb_186_5 : ∀ u ∈ [u_186_50, u_186_51, u_186_52, u_186_53, u_186_54, u_186_55, u_186_56, u_186_57, u_186_58, u_186_59], pQ_186 u := pU_cons q_186_50 (pU_cons q_186_51 (pU_cons q_186_52 (pU_cons q_186_53 (pU_cons q_186_54 (pU_cons q_186_55 (pU_cons q_186_56 (pU_cons q_186_57 (pU_cons q_186_58 (pU_cons q_186_59 (pU_nil))))))))))
theorem qb_186_6 : ∀ u ∈ [u_186_60, u_186_61, u_186_62, u_186_63, u_186_64, u_186_65, u_186_66, u_186_67, u_186_68, u_186_69], pQ_186 u := pU_cons q_186_60 (pU_cons q_186_61 (pU_cons q_186_62 (pU_cons q_186_63 (pU_cons q_186_64 (pU_cons q_186_65 (pU_cons q_186_66 (pU_cons q_186_67 (pU_cons q_186_68 (pU_cons q_186_69 (pU_nil))))))))))
theorem qb_186_7 : ∀ u ∈ [u_186_70, u_186_71, u_186_72, u_186_73, u_186_74, u_186_75, u_186_76, u_186_77, u_186_78, u_186_79], pQ_186 u := pU_cons q_186_70 (pU_cons q_186_71 (pU_cons q_186_72 (pU_cons q_186_73 (pU_cons q_186_74 (pU_cons q_186_75 (pU_cons q_186_76 (pU_cons q_186_77 (pU_cons q_186_78 (pU_cons q_186_79 (pU_nil))))))))))
theorem qb_186_8 : ∀ u ∈ [u_186_80, u_186_81, u_186_82, u_186_83, u_186_84, u_186_85, u_186_86, u_186_87, u_186_88, u_186_89], pQ_186 u := pU_cons q_186_80 (pU_cons q_186_81 (pU_cons q_186_82 (pU_cons q_186_83 (pU_cons q_186_84 (pU_cons q_186_85 (pU_cons q_186_86 (pU_cons q_186_87 (pU_cons q_186_88 (pU_cons q_186_89 (pU_nil))))))))))
theorem qb_186_9 : ∀ u ∈ [u_186_90, u_186_91, u_186_92, u_186_93, u_186_94, u_186_95, u_186_96, u_186_97, u_186_98, u_186_99], pQ_186 u := pU_cons q_186_90 (pU_cons q_186_91 (pU_cons q_186_92 (pU_cons q_186_93 (pU_cons q_186_94 (pU_cons q_186_95 (pU_cons q_186_96 (pU_cons q_186_97 (pU_cons q_186_98 (pU_cons q_186_99 (pU_nil))))))))))
theorem qb_186_10 : ∀ u ∈ [u_186_100, u_186_101, u_186_102, u_186_103, u_186_104, u_186_105, u_186_106, u_186_107, u_186_108, u_186_109], pQ_186 u := pU_cons q_186_100 (pU_cons q_186_101 (pU_cons q_186_102 (pU_cons q_186_103 (pU_cons q_186_104 (pU_cons q_186_105 (pU_cons q_186_106 (pU_cons q_186_107 (pU_cons q_186_108 (pU_cons q_186_109 (pU_nil))))))))))
theorem qb_186_11 : ∀ u ∈ [u_186_110, u_186_111, u_186_112, u_186_113, u_186_114, u_186_115, u_186_116, u_186_117, u_186_118, u_186_119], pQ_186 u := pU_cons q_186_110 (pU_cons q_186_111 (pU_cons q_186_112 (pU_cons q_186_113 (pU_cons q_186_114 (pU_cons q_186_115 (pU_cons q_186_116 (pU_cons q_186_117 (pU_cons q_186_118 (pU_cons q_186_119 (pU_nil))))))))))
theorem qb_186_12 : ∀ u ∈ [u_186_120, u_186_121], pQ_186 u := pU_cons q_186_120 (pU_cons q_186_121 (pU_nil))
theorem ok_186 : sInOk pPT i_186 := sInst2 (M := pm_94) (cus := us_186) pOk pg_94 (by decide +kernel) ⟨_, _, _, (pS_nil), (pV_cons (List.mem_of_getElem? (i := 0) rfl) (pV_nil)), e_186⟩ (show ∀ u ∈ us_186, pQ_186 u from (pU_app qb_186_0 (pU_app qb_186_1 (pU_app qb_186_2 (pU_app qb_186_3 (pU_app qb_186_4 (pU_app qb_186_5 (pU_app qb_186_6 (pU_app qb_186_7 (pU_app qb_186_8 (pU_app qb_186_9 (pU_app qb_186_10 (pU_app qb_186_11 qb_186_12)))))))))))))
def pQ_187 (u : sCu) : Prop := ∃ (SM : List sIn) (cu : List sCu) (n : Nat), (∀ I ∈ SM, sInOk pPT I) ∧ (∀ v ∈ cu, v ∈ us_187) ∧ sWkU pPT SM i_187 (mR pm_91) cu n u = true
theorem q_187_0 : pQ_187 u_187_0 := ⟨_, _, _, (pS_cons ok_133 (pS_nil)), (pV_nil), f_187_0⟩
theorem q_187_1 : pQ_187 u_187_1 := ⟨_, _, _, (pS_cons ok_87 (pS_cons ok_132 (pS_cons ok_186 (pS_nil)))), (pV_cons (List.mem_of_getElem? (i := 0) rfl) (pV_cons (List.mem_of_getElem? (i := 1) rfl) (pV_nil))), f_187_1⟩
theorem qb_187_0 : ∀ u ∈ [u_187_0, u_187_1], pQ_187 u := pU_cons q_187_0 (pU_cons q_187_1 (pU_nil))
theorem ok_187 : sInOk pPT i_187 := sInst2 (M := pm_91) (cus := us_187) pOk pg_91 (by decide +kernel) ⟨_, _, _, (pS_cons ok_186 (pS_nil)), (pV_cons (List.mem_of_getElem? (i := 0) rfl) (pV_cons (List.mem_of_getElem? (i := 1) rfl) (pV_nil))), e_187⟩ (show ∀ u ∈ us_187, pQ_187 u from qb_187_0)
def pQ_188 (u : sCu) : Prop := ∃ (SM : List sIn) (cu : List sCu) (n : Nat), (∀ I ∈ SM, sInOk pPT I) ∧ (∀ v ∈ cu, v ∈ us_188) ∧ sWkU pPT SM i_188 (mR pm_94) cu n u = true
theorem q_188_0 : pQ_188 u_188_0 := ⟨_, _, _, (pS_cons ok_135 (pS_cons ok_185 (pS_nil))), (pV_cons (List.mem_of_getElem? (i := 1) rfl) (pV_nil)), f_188_0⟩
theorem q_188_1 : pQ_188 u_188_1 := ⟨_, _, _, (pS_nil), (pV_cons (List.mem_of_getElem? (i := 2) rfl) (pV_nil)), f_188_1⟩
theorem q_188_2 : pQ_188 u_188_2 := ⟨_, _, _, (pS_nil), (pV_nil), f_188_2⟩
theorem qb_188_0 : ∀ u ∈ [u_188_0, u_188_1, u_188_2], pQ_188 u := pU_cons q_188_0 (pU_cons q_188_1 (pU_cons q_188_2 (pU_nil)))
theorem ok_188 : sInOk pPT i_188 := sInst2 (M := pm_94) (cus := us_188) pOk pg_94 (by decide +kernel) ⟨_, _, _, (pS_nil), (pV_cons (List.mem_of_getElem? (i := 0) rfl) (pV_nil)), e_188⟩ (show ∀ u ∈ us_188, pQ_188 u from qb_188_0)
def pQ_189 (u : sCu) : Prop := ∃ (SM : List sIn) (cu : List sCu) (n : Nat), (∀ I ∈ SM, sInOk pPT I) ∧ (∀ v ∈ cu, v ∈ us_189) ∧ sWkU pPT SM i_189 (mR pm_91) cu n u = true
theorem q_189_0 : pQ_189 u_189_0 := ⟨_, _, _, (pS_cons ok_133 (pS_nil)), (pV_nil), f_189_0⟩
theorem qb_189_0 : ∀ u ∈ [u_189_0], pQ_189 u := pU_cons q_189_0 (pU_nil)
theorem ok_189 : sInOk pPT i_189 := sInst2 (M := pm_91) (cus := us_189) pOk pg_91 (by decide +kernel) ⟨_, _, _, (pS_cons ok_188 (pS_nil)), (pV_cons (List.mem_of_getElem? (i := 0) rfl) (pV_nil)), e_189⟩ (show ∀ u ∈ us_189, pQ_189 u from qb_189_0)
def pQ_190 (u : sCu) : Prop := ∃ (SM : List sIn) (cu : List sCu) (n : Nat), (∀ I ∈ SM, sInOk pPT I) ∧ (∀ v ∈ cu, v ∈ us_190) ∧ sWkU pPT SM i_190 (mR pm_92) cu n u = true
theorem q_190_0 : pQ_190 u_190_0 := ⟨_, _, _, (pS_nil), (pV_cons (List.mem_of_getElem? (i := 1) rfl) (pV_nil)), f_190_0⟩
theorem q_190_1 : pQ_190 u_190_1 := ⟨_, _, _, (pS_nil), (pV_cons (List.mem_of_getElem? (i := 2) rfl) (pV_cons (List.mem_of_getElem? (i := 3) rfl) (pV_nil))), f_190_1⟩
theorem q_190_2 : pQ_190 u_190_2 := ⟨_, _, _, (pS_cons ok_187 (pS_nil)), (pV_cons (List.mem_of_getElem? (i := 4) rfl) (pV_cons (List.mem_of_getElem? (i := 5) rfl) (pV_nil))), f_190_2⟩
theorem q_190_3 : pQ_190 u_190_3 := ⟨_, _, _, (pS_cons ok_189 (pS_nil)), (pV_cons (List.mem_of_getElem? (i := 4) rfl) (pV_nil)), f_190_3⟩
theorem q_190_4 : pQ_190 u_190_4 := ⟨_, _, _, (pS_cons ok_131 (pS_nil)), (pV_nil), f_190_4⟩
theorem q_190_5 : pQ_190 u_190_5 := ⟨_, _, _, (pS_cons ok_87 (pS_cons ok_130 (pS_cons ok_187 (pS_nil)))), (pV_cons (List.mem_of_getElem? (i := 4) rfl) (pV_cons (List.mem_of_getElem? (i := 5) rfl) (pV_nil))), f_190_5⟩
theorem qb_190_0 : ∀ u ∈ [u_190_0, u_190_1, u_190_2, u_190_3, u_190_4, u_190_5], pQ_190 u := pU_cons q_190_0 (pU_cons q_190_1 (pU_cons q_190_2 (pU_cons q_190_3 (pU_cons q_190_4 (pU_cons q_190_5 (pU_nil))))))
theorem ok_190 : sInOk pPT i_190 := sInst2 (M := pm_92) (cus := us_190) pOk pg_92 (by decide +kernel) ⟨_, _, _, (pS_nil), (pV_cons (List.mem_of_getElem? (i := 0) rfl) (pV_cons (List.mem_of_getElem? (i := 1) rfl) (pV_nil))), e_190⟩ (show ∀ u ∈ us_190, pQ_190 u from qb_190_0)
theorem ok_191 : sInOk pPT i_191 := sInst2 (M := pm_92) (cus := []) pOk pg_92 (by decide +kernel) ⟨_, _, _, (pS_nil), pV_nil, e_191⟩ pU_nil
def pQ_192 (u : sCu) : Prop := ∃ (SM : List sIn) (cu : List sCu) (n : Nat), (∀ I ∈ SM, sInOk pPT I) ∧ (∀ v ∈ cu, v ∈ us_192) ∧ sWkU pPT SM i_192 (mR pm_96) cu n u = true
theorem q_192_0 : pQ_192 u_192_0 := ⟨_, _, _, (pS_cons ok_87 (pS_nil)), (pV_nil), f_192_0⟩
theorem q_192_1 : pQ_192 u_192_1 := ⟨_, _, _, (pS_nil), (pV_nil), f_192_1⟩
theorem qb_192_0 : ∀ u ∈ [u_192_0, u_192_1], pQ_192 u := pU_cons q_192_0 (pU_cons q_192_1 (pU_nil))
theorem ok_192 : sInOk pPT i_192 := sInst2 (M := pm_96) (cus := us_192) pOk pg_96 (by decide +kernel) ⟨_, _, _, (pS_cons ok_144 (pS_cons ok_145 (pS_cons ok_146 (pS_cons ok_147 (pS_cons ok_155 (pS_cons ok_190 (pS_cons ok_191 (pS_nil)))))))), (pV_cons (List.mem_of_getElem? (i := 0) rfl) (pV_cons (List.mem_of_getElem? (i := 1) rfl) (pV_nil))), e_192⟩ (show ∀ u ∈ us_192, pQ_192 u from qb_192_0)
def pQ_193 (u : sCu) : Prop := ∃ (SM : List sIn) (cu : List sCu) (n : Nat), (∀ I ∈ SM, sInOk pPT I) ∧ (∀ v ∈ cu, v ∈ us_193) ∧ sWkU pPT SM i_193 (mR pm_97) cu n u = true
theorem q_193_0 : pQ_193 u_193_0 := ⟨_, _, _, (pS_nil), (pV_nil), f_193_0⟩
theorem q_193_1 : pQ_193 u_193_1 := ⟨_, _, _, (pS_nil), (pV_cons (List.mem_of_getElem? (i := 2) rfl) (pV_nil)), f_193_1⟩
theorem q_193_2 : pQ_193 u_193_2 := ⟨_, _, _, (pS_nil), (pV_cons (List.mem_of_getElem? (i := 3) rfl) (pV_nil)), f_193_2⟩
theorem q_193_3 : pQ_193 u_193_3 := ⟨_, _, _, (pS_cons ok_87 (pS_cons ok_192 (pS_nil))), (pV_cons (List.mem_of_getElem? (i := 0) rfl) (pV_cons (List.mem_of_getElem? (i := 1) rfl) (pV_nil))), f_193_3⟩
theorem qb_193_0 : ∀ u ∈ [u_193_0, u_193_1, u_193_2, u_193_3], pQ_193 u := pU_cons q_193_0 (pU_cons q_193_1 (pU_cons q_193_2 (pU_cons q_193_3 (pU_nil))))
theorem ok_193 : sInOk pPT i_193 := sInst2 (M := pm_97) (cus := us_193) pOk pg_97 (by decide +kernel) ⟨_, _, _, (pS_cons ok_192 (pS_nil)), (pV_cons (List.mem_of_getElem? (i := 0) rfl) (pV_cons (List.mem_of_getElem? (i := 1) rfl) (pV_nil))), e_193⟩ (show ∀ u ∈ us_193, pQ_193 u from qb_193_0)
def pQ_194 (u : sCu) : Prop := ∃ (SM : List sIn) (cu : List sCu) (n : Nat), (∀ I ∈ SM, sInOk pPT I) ∧ (∀ v ∈ cu, v ∈ us_194) ∧ sWkU pPT SM i_194 (mR pm_98) cu n u = true
theorem q_194_0 : pQ_194 u_194_0 := ⟨_, _, _, (pS_nil), (pV_nil), f_194_0⟩
theorem q_194_1 : pQ_194 u_194_1 := ⟨_, _, _, (pS_nil), (pV_cons (List.mem_of_getElem? (i := 2) rfl) (pV_nil)), f_194_1⟩
theorem q_194_2 : pQ_194 u_194_2 := ⟨_, _, _, (pS_nil), (pV_cons (List.mem_of_getElem? (i := 3) rfl) (pV_nil)), f_194_2⟩
theorem q_194_3 : pQ_194 u_194_3 := ⟨_, _, _, (pS_cons ok_87 (pS_cons ok_193 (pS_nil))), (pV_cons (List.mem_of_getElem? (i := 0) rfl) (pV_cons (List.mem_of_getElem? (i := 1) rfl) (pV_nil))), f_194_3⟩
theorem qb_194_0 : ∀ u ∈ [u_194_0, u_194_1, u_194_2, u_194_3], pQ_194 u := pU_cons q_194_0 (pU_cons q_194_1 (pU_cons q_194_2 (pU_cons q_194_3 (pU_nil))))
theorem ok_194 : sInOk pPT i_194 := sInst2 (M := pm_98) (cus := us_194) pOk pg_98 (by decide +kernel) ⟨_, _, _, (pS_cons ok_193 (pS_nil)), (pV_cons (List.mem_of_getElem? (i := 0) rfl) (pV_cons (List.mem_of_getElem? (i := 1) rfl) (pV_nil))), e_194⟩ (show ∀ u ∈ us_194, pQ_194 u from qb_194_0)
theorem ok_195 : sInOk pPT i_195 := sInst2 (M := pm_96) (cus := []) pOk pg_96 (by decide +kernel) ⟨_, _, _, (pS_nil), pV_nil, e_195⟩ pU_nil
def pQ_196 (u : sCu) : Prop := ∃ (SM : List sIn) (cu : List sCu) (n : Nat), (∀ I ∈ SM, sInOk pPT I) ∧ (∀ v ∈ cu, v ∈ us_196) ∧ sWkU pPT SM i_196 (mR pm_97) cu n u = true
theorem q_196_0 : pQ_196 u_196_0 := ⟨_, _, _, (pS_nil), (pV_nil), f_196_0⟩
theorem qb_196_0 : ∀ u ∈ [u_196_0], pQ_196 u := pU_cons q_196_0 (pU_nil)
theorem ok_196 : sInOk pPT i_196 := sInst2 (M := pm_97) (cus := us_196) pOk pg_97 (by decide +kernel) ⟨_, _, _, (pS_cons ok_195 (pS_nil)), (pV_cons (List.mem_of_getElem? (i := 0) rfl) (pV_nil)), e_196⟩ (show ∀ u ∈ us_196, pQ_196 u from qb_196_0)
def pQ_197 (u : sCu) : Prop := ∃ (SM : List sIn) (cu : List sCu) (n : Nat), (∀ I ∈ SM, sInOk pPT I) ∧ (∀ v ∈ cu, v ∈ us_197) ∧ sWkU pPT SM i_197 (mR pm_98) cu n u = true
theorem q_197_0 : pQ_197 u_197_0 := ⟨_, _, _, (pS_nil), (pV_nil), f_197_0⟩
theorem qb_197_0 : ∀ u ∈ [u_197_0], pQ_197 u := pU_cons q_197_0 (pU_nil)
theorem ok_197 : sInOk pPT i_197 := sInst2 (M := pm_98) (cus := us_197) pOk pg_98 (by decide +kernel) ⟨_, _, _, (pS_cons ok_196 (pS_nil)), (pV_cons (List.mem_of_getElem? (i := 0) rfl) (pV_nil)), e_197⟩ (show ∀ u ∈ us_197, pQ_197 u from qb_197_0)
def pQ_198 (u : sCu) : Prop := ∃ (SM : List sIn) (cu : List sCu) (n : Nat), (∀ I ∈ SM, sInOk pPT I) ∧ (∀ v ∈ cu, v ∈ us_198) ∧ sWkU pPT SM i_198 (mR pm_94) cu n u = true
theorem q_198_0 : pQ_198 u_198_0 := ⟨_, _, _, (pS_cons ok_134 (pS_cons ok_194 (pS_nil))), (pV_cons (List.mem_of_getElem? (i := 1) rfl) (pV_cons (List.mem_of_getElem? (i := 2) rfl) (pV_cons (List.mem_of_getElem? (i := 3) rfl) (pV_cons (List.mem_of_getElem? (i := 4) rfl) (pV_nil))))), f_198_0⟩
theorem q_198_1 : pQ_198 u_198_1 := ⟨_, _, _, (pS_nil), (pV_cons (List.mem_of_getElem? (i := 5) rfl) (pV_nil)), f_198_1⟩
theorem q_198_2 : pQ_198 u_198_2 := ⟨_, _, _, (pS_nil), (pV_cons (List.mem_of_getElem? (i := 6) rfl) (pV_nil)), f_198_2⟩
theorem q_198_3 : pQ_198 u_198_3 := ⟨_, _, _, (pS_nil), (pV_cons (List.mem_of_getElem? (i := 7) rfl) (pV_nil)), f_198_3⟩
theorem q_198_4 : pQ_198 u_198_4 := ⟨_, _, _, (pS_cons ok_87 (pS_nil)), (pV_cons (List.mem_of_getElem? (i := 8) rfl) (pV_nil)), f_198_4⟩
theorem q_198_5 : pQ_198 u_198_5 := ⟨_, _, _, (pS_nil), (pV_nil), f_198_5⟩
theorem q_198_6 : pQ_198 u_198_6 := ⟨_, _, _, (pS_nil), (pV_nil), f_198_6⟩
theorem q_198_7 : pQ_198 u_198_7 := ⟨_, _, _, (pS_cons ok_87 (pS_cons ok_194 (pS_nil))), (pV_cons (List.mem_of_getElem? (i := 1) rfl) (pV_cons (List.mem_of_getElem? (i := 2) rfl) (pV_nil))), f_198_7⟩
theorem q_198_8 : pQ_198 u_198_8 := ⟨_, _, _, (pS_cons ok_134 (pS_cons ok_194 (pS_nil))), (pV_cons (List.mem_of_getElem? (i := 11) rfl) (pV_cons (List.mem_of_getElem? (i := 12) rfl) (pV_cons (List.mem_of_getElem? (i := 13) rfl) (pV_cons (List.mem_of_getElem? (i := 14) rfl) (pV_nil))))), f_198_8⟩
theorem q_198_9 : pQ_198 u_198_9 := ⟨_, _, _, (pS_nil), (pV_cons (List.mem_of_getElem? (i := 5) rfl) (pV_nil)), f_198_9⟩
theorem q_198_10 : pQ_198 u_198_10 := ⟨_, _, _, (pS_nil), (pV_cons (List.mem_of_getElem? (i := 6) rfl) (pV_nil)), f_198_10⟩
theorem q_198_11 : pQ_198 u_198_11 := ⟨_, _, _, (pS_nil), (pV_cons (List.mem_of_getElem? (i := 15) rfl) (pV_nil)), f_198_11⟩
theorem q_198_12 : pQ_198 u_198_12 := ⟨_, _, _, (pS_nil), (pV_cons (List.mem_of_getElem? (i := 16) rfl) (pV_nil)), f_198_12⟩
theorem q_198_13 : pQ_198 u_198_13 := ⟨_, _, _, (pS_nil), (pV_cons (List.mem_of_getElem? (i := 17) rfl) (pV_nil)), f_198_13⟩
theorem q_198_14 : pQ_198 u_198_14 := ⟨_, _, _, (pS_cons ok_87 (pS_nil)), (pV_cons (List.mem_of_getElem? (i := 18) rfl) (pV_nil)), f_198_14⟩
theorem q_198_15 : pQ_198 u_198_15 := ⟨_, _, _, (pS_nil), (pV_cons (List.mem_of_getElem? (i := 19) rfl) (pV_nil)), f_198_15⟩
theorem q_198_16 : pQ_198 u_198_16 := ⟨_, _, _, (pS_nil), (pV_cons (List.mem_of_getElem? (i := 20) rfl) (pV_nil)), f_198_16⟩
theorem q_198_17 : pQ_198 u_198_17 := ⟨_, _, _, (pS_cons ok_87 (pS_cons ok_194 (pS_nil))), (pV_cons (List.mem_of_getElem? (i := 11) rfl) (pV_cons (List.mem_of_getElem? (i := 12) rfl) (pV_nil))), f_198_17⟩
theorem q_198_18 : pQ_198 u_198_18 := ⟨_, _, _, (pS_cons ok_134 (pS_cons ok_194 (pS_nil))), (pV_cons (List.mem_of_getElem? (i := 23) rfl) (pV_cons (List.mem_of_getElem? (i := 24) rfl) (pV_cons (List.mem_of_getElem? (i := 25) rfl) (pV_cons (List.mem_of_getElem? (i := 26) rfl) (pV_nil))))), f_198_18⟩
theorem q_198_19 : pQ_198 u_198_19 := ⟨_, _, _, (pS_nil), (pV_nil), f_198_19⟩
theorem q_198_20 : pQ_198 u_198_20 := ⟨_, _, _, (pS_nil), (pV_nil), f_198_20⟩
theorem q_198_21 : pQ_198 u_198_21 := ⟨_, _, _, (pS_nil), (pV_cons (List.mem_of_getElem? (i := 15) rfl) (pV_nil)), f_198_21⟩
theorem q_198_22 : pQ_198 u_198_22 := ⟨_, _, _, (pS_nil), (pV_cons (List.mem_of_getElem? (i := 16) rfl) (pV_nil)), f_198_22⟩
theorem q_198_23 : pQ_198 u_198_23 := ⟨_, _, _, (pS_nil), (pV_cons (List.mem_of_getElem? (i := 27) rfl) (pV_nil)), f_198_23⟩
theorem q_198_24 : pQ_198 u_198_24 := ⟨_, _, _, (pS_nil), (pV_cons (List.mem_of_getElem? (i := 28) rfl) (pV_nil)), f_198_24⟩
theorem q_198_25 : pQ_198 u_198_25 := ⟨_, _, _, (pS_nil), (pV_cons (List.mem_of_getElem? (i := 29) rfl) (pV_nil)), f_198_25⟩
theorem q_198_26 : pQ_198 u_198_26 := ⟨_, _, _, (pS_cons ok_87 (pS_nil)), (pV_cons (List.mem_of_getElem? (i := 30) rfl) (pV_nil)), f_198_26⟩
theorem q_198_27 : pQ_198 u_198_27 := ⟨_, _, _, (pS_nil), (pV_cons (List.mem_of_getElem? (i := 31) rfl) (pV_nil)), f_198_27⟩
theorem q_198_28 : pQ_198 u_198_28 := ⟨_, _, _, (pS_nil), (pV_cons (List.mem_of_getElem? (i := 32) rfl) (pV_nil)), f_198_28⟩
theorem q_198_29 : pQ_198 u_198_29 := ⟨_, _, _, (pS_cons ok_87 (pS_cons ok_194 (pS_nil))), (pV_cons (List.mem_of_getElem? (i := 23) rfl) (pV_cons (List.mem_of_getElem? (i := 24) rfl) (pV_nil))), f_198_29⟩
theorem q_198_30 : pQ_198 u_198_30 := ⟨_, _, _, (pS_cons ok_134 (pS_cons ok_194 (pS_nil))), (pV_cons (List.mem_of_getElem? (i := 35) rfl) (pV_cons (List.mem_of_getElem? (i := 36) rfl) (pV_cons (List.mem_of_getElem? (i := 37) rfl) (pV_cons (List.mem_of_getElem? (i := 38) rfl) (pV_nil))))), f_198_30⟩
theorem q_198_31 : pQ_198 u_198_31 := ⟨_, _, _, (pS_nil), (pV_cons (List.mem_of_getElem? (i := 39) rfl) (pV_nil)), f_198_31⟩
theorem q_198_32 : pQ_198 u_198_32 := ⟨_, _, _, (pS_nil), (pV_cons (List.mem_of_getElem? (i := 40) rfl) (pV_nil)), f_198_32⟩
theorem q_198_33 : pQ_198 u_198_33 := ⟨_, _, _, (pS_nil), (pV_cons (List.mem_of_getElem? (i := 27) rfl) (pV_nil)), f_198_33⟩
theorem q_198_34 : pQ_198 u_198_34 := ⟨_, _, _, (pS_nil), (pV_cons (List.mem_of_getElem? (i := 28) rfl) (pV_nil)), f_198_34⟩
theorem q_198_35 : pQ_198 u_198_35 := ⟨_, _, _, (pS_nil), (pV_cons (List.mem_of_getElem? (i := 41) rfl) (pV_nil)), f_198_35⟩
theorem q_198_36 : pQ_198 u_198_36 := ⟨_, _, _, (pS_nil), (pV_cons (List.mem_of_getElem? (i := 42) rfl) (pV_nil)), f_198_36⟩
theorem q_198_37 : pQ_198 u_198_37 := ⟨_, _, _, (pS_nil), (pV_cons (List.mem_of_getElem? (i := 43) rfl) (pV_nil)), f_198_37⟩
theorem q_198_38 : pQ_198 u_198_38 := ⟨_, _, _, (pS_cons ok_87 (pS_nil)), (pV_cons (List.mem_of_getElem? (i := 44) rfl) (pV_nil)), f_198_38⟩
theorem q_198_39 : pQ_198 u_198_39 := ⟨_, _, _, (pS_nil), (pV_nil), f_198_39⟩
theorem q_198_40 : pQ_198 u_198_40 := ⟨_, _, _, (pS_nil), (pV_nil), f_198_40⟩
theorem q_198_41 : pQ_198 u_198_41 := ⟨_, _, _, (pS_nil), (pV_cons (List.mem_of_getElem? (i := 45) rfl) (pV_nil)), f_198_41⟩
theorem q_198_42 : pQ_198 u_198_42 := ⟨_, _, _, (pS_nil), (pV_cons (List.mem_of_getElem? (i := 46) rfl) (pV_nil)), f_198_42⟩
theorem q_198_43 : pQ_198 u_198_43 := ⟨_, _, _, (pS_cons ok_87 (pS_cons ok_194 (pS_nil))), (pV_cons (List.mem_of_getElem? (i := 35) rfl) (pV_cons (List.mem_of_getElem? (i := 36) rfl) (pV_nil))), f_198_43⟩
theorem q_198_44 : pQ_198 u_198_44 := ⟨_, _, _, (pS_cons ok_134 (pS_cons ok_194 (pS_nil))), (pV_cons (List.mem_of_getElem? (i := 49) rfl) (pV_cons (List.mem_of_getElem? (i := 50) rfl) (pV_cons (List.mem_of_getElem? (i := 51) rfl) (pV_cons (List.mem_of_getElem? (i := 52) rfl) (pV_nil))))), f_198_44⟩
theorem q_198_45 : pQ_198 u_198_45 := ⟨_, _, _, (pS_nil), (pV_cons (List.mem_of_getElem? (i := 53) rfl) (pV_nil)), f_198_45⟩
theorem q_198_46 : pQ_198 u_198_46 := ⟨_, _, _, (pS_nil), (pV_cons (List.mem_of_getElem? (i := 54) rfl) (pV_nil)), f_198_46⟩
theorem q_198_47 : pQ_198 u_198_47 := ⟨_, _, _, (pS_nil), (pV_cons (List.mem_of_getElem? (i := 41) rfl) (pV_nil)), f_198_47⟩
theorem q_198_48 : pQ_198 u_198_48 := ⟨_, _, _, (pS_nil), (pV_cons (List.mem_of_getElem? (i := 42) rfl) (pV_nil)), f_198_48⟩
theorem q_198_49 : pQ_198 u_198_49 := ⟨_, _, _, (pS_nil), (pV_cons (List.mem_of_getElem? (i := 55) rfl) (pV_nil)), f_198_49⟩
theorem q_198_50 : pQ_198 u_198_50 := ⟨_, _, _, (pS_nil), (pV_cons (List.mem_of_getElem? (i := 56) rfl) (pV_nil)), f_198_50⟩
theorem q_198_51 : pQ_198 u_198_51 := ⟨_, _, _, (pS_nil), (pV_cons (List.mem_of_getElem? (i := 57) rfl) (pV_nil)), f_198_51⟩
theorem q_198_52 : pQ_198 u_198_52 := ⟨_, _, _, (pS_cons ok_87 (pS_nil)), (pV_cons (List.mem_of_getElem? (i := 58) rfl) (pV_nil)), f_198_52⟩
theorem q_198_53 : pQ_198 u_198_53 := ⟨_, _, _, (pS_nil), (pV_cons (List.mem_of_getElem? (i := 59) rfl) (pV_nil)), f_198_53⟩
theorem q_198_54 : pQ_198 u_198_54 := ⟨_, _, _, (pS_nil), (pV_cons (List.mem_of_getElem? (i := 60) rfl) (pV_nil)), f_198_54⟩
theorem q_198_55 : pQ_198 u_198_55 := ⟨_, _, _, (pS_nil), (pV_cons (List.mem_of_getElem? (i := 61) rfl) (pV_nil)), f_198_55⟩
theorem q_198_56 : pQ_198 u_198_56 := ⟨_, _, _, (pS_nil), (pV_cons (List.mem_of_getElem? (i := 62) rfl) (pV_nil)), f_198_56⟩
theorem q_198_57 : pQ_198 u_198_57 := ⟨_, _, _, (pS_cons ok_87 (pS_cons ok_194 (pS_nil))), (pV_cons (List.mem_of_getElem? (i := 49) rfl) (pV_cons (List.mem_of_getElem? (i := 50) rfl) (pV_nil))), f_198_57⟩
theorem q_198_58 : pQ_198 u_198_58 := ⟨_, _, _, (pS_cons ok_134 (pS_cons ok_194 (pS_nil))), (pV_cons (List.mem_of_getElem? (i := 65) rfl) (pV_cons (List.mem_of_getElem? (i := 66) rfl) (pV_cons (List.mem_of_getElem? (i := 67) rfl) (pV_cons (List.mem_of_getElem? (i := 68) rfl) (pV_nil))))), f_198_58⟩
theorem q_198_59 : pQ_198 u_198_59 := ⟨_, _, _, (pS_nil), (pV_nil), f_198_59⟩
theorem q_198_60 : pQ_198 u_198_60 := ⟨_, _, _, (pS_nil), (pV_nil), f_198_60⟩
theorem q_198_61 : pQ_198 u_198_61 := ⟨_, _, _, (pS_nil), (pV_cons (List.mem_of_getElem? (i := 69) rfl) (pV_nil)), f_198_61⟩
theorem q_198_62 : pQ_198 u_198_62 := ⟨_, _, _, (pS_nil), (pV_cons (List.mem_of_getElem? (i := 70) rfl) (pV_nil)), f_198_62⟩
theorem q_198_63 : pQ_198 u_198_63 := ⟨_, _, _, (pS_nil), (pV_cons (List.mem_of_getElem? (i := 55) rfl) (pV_nil)), f_198_63⟩
theorem q_198_64 : pQ_198 u_198_64 := ⟨_, _, _, (pS_nil), (pV_cons (List.mem_of_getElem? (i := 56) rfl) (pV_nil)), f_198_64⟩
theorem q_198_65 : pQ_198 u_198_65 := ⟨_, _, _, (pS_nil), (pV_cons (List.mem_of_getElem? (i := 71) rfl) (pV_nil)), f_198_65⟩
theorem q_198_66 : pQ_198 u_198_66 := ⟨_, _, _, (pS_nil), (pV_cons (List.mem_of_getElem? (i := 72) rfl) (pV_nil)), f_198_66⟩
theorem q_198_67 : pQ_198 u_198_67 := ⟨_, _, _, (pS_nil), (pV_cons (List.mem_of_getElem? (i := 73) rfl) (pV_nil)), f_198_67⟩
theorem q_198_68 : pQ_198 u_198_68 := ⟨_, _, _, (pS_cons ok_87 (pS_nil)), (pV_cons (List.mem_of_getElem? (i := 74) rfl) (pV_nil)), f_198_68⟩
theorem q_198_69 : pQ_198 u_198_69 := ⟨_, _, _, (pS_nil), (pV_cons (List.mem_of_getElem? (i := 75) rfl) (pV_nil)), f_198_69⟩
theorem q_198_70 : pQ_198 u_198_70 := ⟨_, _, _, (pS_nil), (pV_cons (List.mem_of_getElem? (i := 76) rfl) (pV_nil)), f_198_70⟩
theorem q_198_71 : pQ_198 u_198_71 := ⟨_, _, _, (pS_nil), (pV_cons (List.mem_of_getElem? (i := 77) rfl) (pV_nil)), f_198_71⟩
theorem q_198_72 : pQ_198 u_198_72 := ⟨_, _, _, (pS_nil), (pV_cons (List.mem_of_getElem? (i := 78) rfl) (pV_nil)), f_198_72⟩
theorem q_198_73 : pQ_198 u_198_73 := ⟨_, _, _, (pS_cons ok_87 (pS_cons ok_194 (pS_nil))), (pV_cons (List.mem_of_getElem? (i := 65) rfl) (pV_cons (List.mem_of_getElem? (i := 66) rfl) (pV_nil))), f_198_73⟩
theorem q_198_74 : pQ_198 u_198_74 := ⟨_, _, _, (pS_cons ok_134 (pS_cons ok_194 (pS_nil))), (pV_cons (List.mem_of_getElem? (i := 81) rfl) (pV_cons (List.mem_of_getElem? (i := 82) rfl) (pV_cons (List.mem_of_getElem? (i := 83) rfl) (pV_cons (List.mem_of_getElem? (i := 84) rfl) (pV_nil))))), f_198_74⟩
theorem q_198_75 : pQ_198 u_198_75 := ⟨_, _, _, (pS_nil), (pV_cons (List.mem_of_getElem? (i := 85) rfl) (pV_nil)), f_198_75⟩
theorem q_198_76 : pQ_198 u_198_76 := ⟨_, _, _, (pS_nil), (pV_cons (List.mem_of_getElem? (i := 86) rfl) (pV_nil)), f_198_76⟩
theorem q_198_77 : pQ_198 u_198_77 := ⟨_, _, _, (pS_nil), (pV_cons (List.mem_of_getElem? (i := 87) rfl) (pV_nil)), f_198_77⟩
theorem q_198_78 : pQ_198 u_198_78 := ⟨_, _, _, (pS_nil), (pV_cons (List.mem_of_getElem? (i := 88) rfl) (pV_nil)), f_198_78⟩
theorem q_198_79 : pQ_198 u_198_79 := ⟨_, _, _, (pS_nil), (pV_cons (List.mem_of_getElem? (i := 71) rfl) (pV_nil)), f_198_79⟩
theorem q_198_80 : pQ_198 u_198_80 := ⟨_, _, _, (pS_nil), (pV_cons (List.mem_of_getElem? (i := 72) rfl) (pV_nil)), f_198_80⟩
theorem q_198_81 : pQ_198 u_198_81 := ⟨_, _, _, (pS_nil), (pV_cons (List.mem_of_getElem? (i := 89) rfl) (pV_nil)), f_198_81⟩
theorem q_198_82 : pQ_198 u_198_82 := ⟨_, _, _, (pS_nil), (pV_cons (List.mem_of_getElem? (i := 90) rfl) (pV_nil)), f_198_82⟩
theorem q_198_83 : pQ_198 u_198_83 := ⟨_, _, _, (pS_nil), (pV_cons (List.mem_of_getElem? (i := 91) rfl) (pV_nil)), f_198_83⟩
theorem q_198_84 : pQ_198 u_198_84 := ⟨_, _, _, (pS_nil), (pV_cons (List.mem_of_getElem? (i := 92) rfl) (pV_nil)), f_198_84⟩
theorem q_198_85 : pQ_198 u_198_85 := ⟨_, _, _, (pS_nil), (pV_nil), f_198_85⟩
theorem q_198_86 : pQ_198 u_198_86 := ⟨_, _, _, (pS_nil), (pV_nil), f_198_86⟩
theorem q_198_87 : pQ_198 u_198_87 := ⟨_, _, _, (pS_nil), (pV_cons (List.mem_of_getElem? (i := 93) rfl) (pV_nil)), f_198_87⟩
theorem q_198_88 : pQ_198 u_198_88 := ⟨_, _, _, (pS_nil), (pV_cons (List.mem_of_getElem? (i := 94) rfl) (pV_nil)), f_198_88⟩
theorem q_198_89 : pQ_198 u_198_89 := ⟨_, _, _, (pS_nil), (pV_cons (List.mem_of_getElem? (i := 95) rfl) (pV_nil)), f_198_89⟩
theorem q_198_90 : pQ_198 u_198_90 := ⟨_, _, _, (pS_nil), (pV_cons (List.mem_of_getElem? (i := 96) rfl) (pV_nil)), f_198_90⟩
theorem q_198_91 : pQ_198 u_198_91 := ⟨_, _, _, (pS_cons ok_87 (pS_cons ok_194 (pS_nil))), (pV_cons (List.mem_of_getElem? (i := 81) rfl) (pV_cons (List.mem_of_getElem? (i := 82) rfl) (pV_nil))), f_198_91⟩
theorem q_198_92 : pQ_198 u_198_92 := ⟨_, _, _, (pS_cons ok_135 (pS_cons ok_197 (pS_nil))), (pV_cons (List.mem_of_getElem? (i := 99) rfl) (pV_nil)), f_198_92⟩
theorem q_198_93 : pQ_198 u_198_93 := ⟨_, _, _, (pS_nil), (pV_cons (List.mem_of_getElem? (i := 100) rfl) (pV_nil)), f_198_93⟩
theorem q_198_94 : pQ_198 u_198_94 := ⟨_, _, _, (pS_nil), (pV_cons (List.mem_of_getElem? (i := 101) rfl) (pV_nil)), f_198_94⟩
theorem q_198_95 : pQ_198 u_198_95 := ⟨_, _, _, (pS_nil), (pV_cons (List.mem_of_getElem? (i := 102) rfl) (pV_nil)), f_198_95⟩
theorem q_198_96 : pQ_198 u_198_96 := ⟨_, _, _, (pS_nil), (pV_cons (List.mem_of_getElem? (i := 103) rfl) (pV_nil)), f_198_96⟩
theorem q_198_97 : pQ_198 u_198_97 := ⟨_, _, _, (pS_nil), (pV_cons (List.mem_of_getElem? (i := 89) rfl) (pV_nil)), f_198_97⟩
theorem q_198_98 : pQ_198 u_198_98 := ⟨_, _, _, (pS_nil), (pV_cons (List.mem_of_getElem? (i := 90) rfl) (pV_nil)), f_198_98⟩
theorem q_198_99 : pQ_198 u_198_99 := ⟨_, _, _, (pS_nil), (pV_cons (List.mem_of_getElem? (i := 104) rfl) (pV_nil)), f_198_99⟩
theorem q_198_100 : pQ_198 u_198_100 := ⟨_, _, _, (pS_nil), (pV_cons (List.mem_of_getElem? (i := 105) rfl) (pV_nil)), f_198_100⟩
theorem q_198_101 : pQ_198 u_198_101 := ⟨_, _, _, (pS_nil), (pV_cons (List.mem_of_getElem? (i := 106) rfl) (pV_nil)), f_198_101⟩
theorem q_198_102 : pQ_198 u_198_102 := ⟨_, _, _, (pS_nil), (pV_cons (List.mem_of_getElem? (i := 107) rfl) (pV_nil)), f_198_102⟩
theorem q_198_103 : pQ_198 u_198_103 := ⟨_, _, _, (pS_nil), (pV_cons (List.mem_of_getElem? (i := 108) rfl) (pV_nil)), f_198_103⟩
theorem q_198_104 : pQ_198 u_198_104 := ⟨_, _, _, (pS_nil), (pV_cons (List.mem_of_getElem? (i := 109) rfl) (pV_nil)), f_198_104⟩
theorem q_198_105 : pQ_198 u_198_105 := ⟨_, _, _, (pS_nil), (pV_nil), f_198_105⟩
theorem q_198_106 : pQ_198 u_198_106 := ⟨_, _, _, (pS_nil), (pV_nil), f_198_106⟩
theorem q_198_107 : pQ_198 u_198_107 := ⟨_, _, _, (pS_nil), (pV_cons (List.mem_of_getElem? (i := 110) rfl) (pV_nil)), f_198_107⟩
theorem q_198_108 : pQ_198 u_198_108 := ⟨_, _, _, (pS_nil), (pV_cons (List.mem_of_getElem? (i := 111) rfl) (pV_nil)), f_198_108⟩
theorem q_198_109 : pQ_198 u_198_109 := ⟨_, _, _, (pS_nil), (pV_cons (List.mem_of_getElem? (i := 112) rfl) (pV_nil)), f_198_109⟩
theorem q_198_110 : pQ_198 u_198_110 := ⟨_, _, _, (pS_nil), (pV_cons (List.mem_of_getElem? (i := 113) rfl) (pV_nil)), f_198_110⟩
theorem q_198_111 : pQ_198 u_198_111 := ⟨_, _, _, (pS_nil), (pV_cons (List.mem_of_getElem? (i := 114) rfl) (pV_nil)), f_198_111⟩
theorem q_198_112 : pQ_198 u_198_112 := ⟨_, _, _, (pS_nil), (pV_cons (List.mem_of_getElem? (i := 115) rfl) (pV_nil)), f_198_112⟩
theorem q_198_113 : pQ_198 u_198_113 := ⟨_, _, _, (pS_nil), (pV_cons (List.mem_of_getElem? (i := 116) rfl) (pV_nil)), f_198_113⟩
theorem q_198_114 : pQ_198 u_198_114 := ⟨_, _, _, (pS_nil), (pV_cons (List.mem_of_getElem? (i := 117) rfl) (pV_nil)), f_198_114⟩
theorem q_198_115 : pQ_198 u_198_115 := ⟨_, _, _, (pS_nil), (pV_cons (List.mem_of_getElem? (i := 118) rfl) (pV_nil)), f_198_115⟩
theorem q_198_116 : pQ_198 u_198_116 := ⟨_, _, _, (pS_nil), (pV_nil), f_198_116⟩
theorem q_198_117 : pQ_198 u_198_117 := ⟨_, _, _, (pS_nil), (pV_nil), f_198_117⟩
theorem q_198_118 : pQ_198 u_198_118 := ⟨_, _, _, (pS_nil), (pV_cons (List.mem_of_getElem? (i := 119) rfl) (pV_nil)), f_198_118⟩
theorem q_198_119 : pQ_198 u_198_119 := ⟨_, _, _, (pS_nil), (pV_cons (List.mem_of_getElem? (i := 120) rfl) (pV_nil)), f_198_119⟩
theorem q_198_120 : pQ_198 u_198_120 := ⟨_, _, _, (pS_nil), (pV_cons (List.mem_of_getElem? (i := 121) rfl) (pV_nil)), f_198_120⟩
theorem q_198_121 : pQ_198 u_198_121 := ⟨_, _, _, (pS_nil), (pV_nil), f_198_121⟩
theorem qb_198_0 : ∀ u ∈ [u_198_0, u_198_1, u_198_2, u_198_3, u_198_4, u_198_5, u_198_6, u_198_7, u_198_8, u_198_9], pQ_198 u := pU_cons q_198_0 (pU_cons q_198_1 (pU_cons q_198_2 (pU_cons q_198_3 (pU_cons q_198_4 (pU_cons q_198_5 (pU_cons q_198_6 (pU_cons q_198_7 (pU_cons q_198_8 (pU_cons q_198_9 (pU_nil))))))))))
theorem qb_198_1 : ∀ u ∈ [u_198_10, u_198_11, u_198_12, u_198_13, u_198_14, u_198_15, u_198_16, u_198_17, u_198_18, u_198_19], pQ_198 u := pU_cons q_198_10 (pU_cons q_198_11 (pU_cons q_198_12 (pU_cons q_198_13 (pU_cons q_198_14 (pU_cons q_198_15 (pU_cons q_198_16 (pU_cons q_198_17 (pU_cons q_198_18 (pU_cons q_198_19 (pU_nil))))))))))
theorem qb_198_2 : ∀ u ∈ [u_198_20, u_198_21, u_198_22, u_198_23, u_198_24, u_198_25, u_198_26, u_198_27, u_198_28, u_198_29], pQ_198 u := pU_cons q_198_20 (pU_cons q_198_21 (pU_cons q_198_22 (pU_cons q_198_23 (pU_cons q_198_24 (pU_cons q_198_25 (pU_cons q_198_26 (pU_cons q_198_27 (pU_cons q_198_28 (pU_cons q_198_29 (pU_nil))))))))))
theorem qb_198_3 : ∀ u ∈ [u_198_30, u_198_31, u_198_32, u_198_33, u_198_34, u_198_35, u_198_36, u_198_37, u_198_38, u_198_39], pQ_198 u := pU_cons q_198_30 (pU_cons q_198_31 (pU_cons q_198_32 (pU_cons q_198_33 (pU_cons q_198_34 (pU_cons q_198_35 (pU_cons q_198_36 (pU_cons q_198_37 (pU_cons q_198_38 (pU_cons q_198_39 (pU_nil))))))))))
theorem qb_198_4 : ∀ u ∈ [u_198_40, u_198_41, u_198_42, u_198_43, u_198_44, u_198_45, u_198_46, u_198_47, u_198_48, u_198_49], pQ_198 u := pU_cons q_198_40 (pU_cons q_198_41 (pU_cons q_198_42 (pU_cons q_198_43 (pU_cons q_198_44 (pU_cons q_198_45 (pU_cons q_198_46 (pU_cons q_198_47 (pU_cons q_198_48 (pU_cons q_198_49 (pU_nil))))))))))
theorem qb_198_5 : ∀ u ∈ [u_198_50, u_198_51, u_198_52, u_198_53, u_198_54, u_198_55, u_198_56, u_198_57, u_198_58, u_198_59], pQ_198 u := pU_cons q_198_50 (pU_cons q_198_51 (pU_cons q_198_52 (pU_cons q_198_53 (pU_cons q_198_54 (pU_cons q_198_55 (pU_cons q_198_56 (pU_cons q_198_57 (pU_cons q_198_58 (pU_cons q_198_59 (pU_nil))))))))))
theorem qb_198_6 : ∀ u ∈ [u_198_60, u_198_61, u_198_62, u_198_63, u_198_64, u_198_65, u_198_66, u_198_67, u_198_68, u_198_69], pQ_198 u := pU_cons q_198_60 (pU_cons q_198_61 (pU_cons q_198_62 (pU_cons q_198_63 (pU_cons q_198_64 (pU_cons q_198_65 (pU_cons q_198_66 (pU_cons q_198_67 (pU_cons q_198_68 (pU_cons q_198_69 (pU_nil))))))))))
theorem qb_198_7 : ∀ u ∈ [u_198_70, u_198_71, u_198_72, u_198_73, u_198_74, u_198_75, u_198_76, u_198_77, u_198_78, u_198_79], pQ_198 u := pU_cons q_198_70 (pU_cons q_198_71 (pU_cons q_198_72 (pU_cons q_198_73 (pU_cons q_198_74 (pU_cons q_198_75 (pU_cons q_198_76 (pU_cons q_198_77 (pU_cons q_198_78 (pU_cons q_198_79 (pU_nil))))))))))
theorem qb_198_8 : ∀ u ∈ [u_198_80, u_198_81, u_198_82, u_198_83, u_198_84, u_198_85, u_198_86, u_198_87, u_198_88, u_198_89], pQ_198 u := pU_cons q_198_80 (pU_cons q_198_81 (pU_cons q_198_82 (pU_cons q_198_83 (pU_cons q_198_84 (pU_cons q_198_85 (pU_cons q_198_86 (pU_cons q_198_87 (pU_cons q_198_88 (pU_cons q_198_89 (pU_nil))))))))))
theorem qb_198_9 : ∀ u ∈ [u_198_90, u_198_91, u_198_92, u_198_93, u_198_94, u_198_95, u_198_96, u_198_97, u_198_98, u_198_99], pQ_198 u := pU_cons q_198_90 (pU_cons q_198_91 (pU_cons q_198_92 (pU_cons q_198_93 (pU_cons q_198_94 (pU_cons q_198_95 (pU_cons q_198_96 (pU_cons q_198_97 (pU_cons q_198_98 (pU_cons q_198_99 (pU_nil))))))))))
theorem qb_198_10 : ∀ u ∈ [u_198_100, u_198_101, u_198_102, u_198_103, u_198_104, u_198_105, u_198_106, u_198_107, u_198_108, u_198_109], pQ_198 u := pU_cons q_198_100 (pU_cons q_198_101 (pU_cons q_198_102 (pU_cons q_198_103 (pU_cons q_198_104 (pU_cons q_198_105 (pU_cons q_198_106 (pU_cons q_198_107 (pU_cons q_198_108 (pU_cons q_198_109 (pU_nil))))))))))
theorem qb_198_11 : ∀ u ∈ [u_198_110, u_198_111, u_198_112, u_198_113, u_198_114, u_198_115, u_198_116, u_198_117, u_198_118, u_198_119], pQ_198 u := pU_cons q_198_110 (pU_cons q_198_111 (pU_cons q_198_112 (pU_cons q_198_113 (pU_cons q_198_114 (pU_cons q_198_115 (pU_cons q_198_116 (pU_cons q_198_117 (pU_cons q_198_118 (pU_cons q_198_119 (pU_nil))))))))))
theorem qb_198_12 : ∀ u ∈ [u_198_120, u_198_121], pQ_198 u := pU_cons q_198_120 (pU_cons q_198_121 (pU_nil))
theorem ok_198 : sInOk pPT i_198 := sInst2 (M := pm_94) (cus := us_198) pOk pg_94 (by decide +kernel) ⟨_, _, _, (pS_nil), (pV_cons (List.mem_of_getElem? (i := 0) rfl) (pV_nil)), e_198⟩ (show ∀ u ∈ us_198, pQ_198 u from (pU_app qb_198_0 (pU_app qb_198_1 (pU_app qb_198_2 (pU_app qb_198_3 (pU_app qb_198_4 (pU_app qb_198_5 (pU_app qb_198_6 (pU_app qb_198_7 (pU_app qb_198_8 (pU_app qb_198_9 (pU_app qb_198_10 (pU_app qb_198_11 qb_198_12)))))))))))))
def pQ_199 (u : sCu) : Prop := ∃ (SM : List sIn) (cu : List sCu) (n : Nat), (∀ I ∈ SM, sInOk pPT I) ∧ (∀ v ∈ cu, v ∈ us_199) ∧ sWkU pPT SM i_199 (mR pm_91) cu n u = true
theorem q_199_0 : pQ_199 u_199_0 := ⟨_, _, _, (pS_cons ok_133 (pS_nil)), (pV_nil), f_199_0⟩
theorem q_199_1 : pQ_199 u_199_1 := ⟨_, _, _, (pS_cons ok_87 (pS_cons ok_132 (pS_cons ok_198 (pS_nil)))), (pV_cons (List.mem_of_getElem? (i := 0) rfl) (pV_cons (List.mem_of_getElem? (i := 1) rfl) (pV_nil))), f_199_1⟩
theorem qb_199_0 : ∀ u ∈ [u_199_0, u_199_1], pQ_199 u := pU_cons q_199_0 (pU_cons q_199_1 (pU_nil))
theorem ok_199 : sInOk pPT i_199 := sInst2 (M := pm_91) (cus := us_199) pOk pg_91 (by decide +kernel) ⟨_, _, _, (pS_cons ok_198 (pS_nil)), (pV_cons (List.mem_of_getElem? (i := 0) rfl) (pV_cons (List.mem_of_getElem? (i := 1) rfl) (pV_nil))), e_199⟩ (show ∀ u ∈ us_199, pQ_199 u from qb_199_0)
def pQ_200 (u : sCu) : Prop := ∃ (SM : List sIn) (cu : List sCu) (n : Nat), (∀ I ∈ SM, sInOk pPT I) ∧ (∀ v ∈ cu, v ∈ us_200) ∧ sWkU pPT SM i_200 (mR pm_94) cu n u = true
theorem q_200_0 : pQ_200 u_200_0 := ⟨_, _, _, (pS_cons ok_135 (pS_cons ok_197 (pS_nil))), (pV_cons (List.mem_of_getElem? (i := 1) rfl) (pV_nil)), f_200_0⟩
theorem q_200_1 : pQ_200 u_200_1 := ⟨_, _, _, (pS_nil), (pV_cons (List.mem_of_getElem? (i := 2) rfl) (pV_nil)), f_200_1⟩
theorem q_200_2 : pQ_200 u_200_2 := ⟨_, _, _, (pS_nil), (pV_nil), f_200_2⟩
theorem qb_200_0 : ∀ u ∈ [u_200_0, u_200_1, u_200_2], pQ_200 u := pU_cons q_200_0 (pU_cons q_200_1 (pU_cons q_200_2 (pU_nil)))
theorem ok_200 : sInOk pPT i_200 := sInst2 (M := pm_94) (cus := us_200) pOk pg_94 (by decide +kernel) ⟨_, _, _, (pS_nil), (pV_cons (List.mem_of_getElem? (i := 0) rfl) (pV_nil)), e_200⟩ (show ∀ u ∈ us_200, pQ_200 u from qb_200_0)
def pQ_201 (u : sCu) : Prop := ∃ (SM : List sIn) (cu : List sCu) (n : Nat), (∀ I ∈ SM, sInOk pPT I) ∧ (∀ v ∈ cu, v ∈ us_201) ∧ sWkU pPT SM i_201 (mR pm_91) cu n u = true
theorem q_201_0 : pQ_201 u_201_0 := ⟨_, _, _, (pS_cons ok_133 (pS_nil)), (pV_nil), f_201_0⟩
theorem qb_201_0 : ∀ u ∈ [u_201_0], pQ_201 u := pU_cons q_201_0 (pU_nil)
theorem ok_201 : sInOk pPT i_201 := sInst2 (M := pm_91) (cus := us_201) pOk pg_91 (by decide +kernel) ⟨_, _, _, (pS_cons ok_200 (pS_nil)), (pV_cons (List.mem_of_getElem? (i := 0) rfl) (pV_nil)), e_201⟩ (show ∀ u ∈ us_201, pQ_201 u from qb_201_0)
def pQ_202 (u : sCu) : Prop := ∃ (SM : List sIn) (cu : List sCu) (n : Nat), (∀ I ∈ SM, sInOk pPT I) ∧ (∀ v ∈ cu, v ∈ us_202) ∧ sWkU pPT SM i_202 (mR pm_92) cu n u = true
theorem q_202_0 : pQ_202 u_202_0 := ⟨_, _, _, (pS_nil), (pV_cons (List.mem_of_getElem? (i := 1) rfl) (pV_nil)), f_202_0⟩
theorem q_202_1 : pQ_202 u_202_1 := ⟨_, _, _, (pS_nil), (pV_cons (List.mem_of_getElem? (i := 2) rfl) (pV_cons (List.mem_of_getElem? (i := 3) rfl) (pV_nil))), f_202_1⟩
theorem q_202_2 : pQ_202 u_202_2 := ⟨_, _, _, (pS_cons ok_199 (pS_nil)), (pV_cons (List.mem_of_getElem? (i := 4) rfl) (pV_cons (List.mem_of_getElem? (i := 5) rfl) (pV_nil))), f_202_2⟩
theorem q_202_3 : pQ_202 u_202_3 := ⟨_, _, _, (pS_cons ok_201 (pS_nil)), (pV_cons (List.mem_of_getElem? (i := 4) rfl) (pV_nil)), f_202_3⟩
theorem q_202_4 : pQ_202 u_202_4 := ⟨_, _, _, (pS_cons ok_131 (pS_nil)), (pV_nil), f_202_4⟩
theorem q_202_5 : pQ_202 u_202_5 := ⟨_, _, _, (pS_cons ok_87 (pS_cons ok_130 (pS_cons ok_199 (pS_nil)))), (pV_cons (List.mem_of_getElem? (i := 4) rfl) (pV_cons (List.mem_of_getElem? (i := 5) rfl) (pV_nil))), f_202_5⟩
theorem qb_202_0 : ∀ u ∈ [u_202_0, u_202_1, u_202_2, u_202_3, u_202_4, u_202_5], pQ_202 u := pU_cons q_202_0 (pU_cons q_202_1 (pU_cons q_202_2 (pU_cons q_202_3 (pU_cons q_202_4 (pU_cons q_202_5 (pU_nil))))))
theorem ok_202 : sInOk pPT i_202 := sInst2 (M := pm_92) (cus := us_202) pOk pg_92 (by decide +kernel) ⟨_, _, _, (pS_nil), (pV_cons (List.mem_of_getElem? (i := 0) rfl) (pV_cons (List.mem_of_getElem? (i := 1) rfl) (pV_nil))), e_202⟩ (show ∀ u ∈ us_202, pQ_202 u from qb_202_0)
theorem ok_203 : sInOk pPT i_203 := sInst2 (M := pm_92) (cus := []) pOk pg_92 (by decide +kernel) ⟨_, _, _, (pS_nil), pV_nil, e_203⟩ pU_nil
def pQ_204 (u : sCu) : Prop := ∃ (SM : List sIn) (cu : List sCu) (n : Nat), (∀ I ∈ SM, sInOk pPT I) ∧ (∀ v ∈ cu, v ∈ us_204) ∧ sWkU pPT SM i_204 (mR pm_96) cu n u = true
theorem q_204_0 : pQ_204 u_204_0 := ⟨_, _, _, (pS_cons ok_87 (pS_nil)), (pV_nil), f_204_0⟩
theorem q_204_1 : pQ_204 u_204_1 := ⟨_, _, _, (pS_nil), (pV_nil), f_204_1⟩
theorem qb_204_0 : ∀ u ∈ [u_204_0, u_204_1], pQ_204 u := pU_cons q_204_0 (pU_cons q_204_1 (pU_nil))
theorem ok_204 : sInOk pPT i_204 := sInst2 (M := pm_96) (cus := us_204) pOk pg_96 (by decide +kernel) ⟨_, _, _, (pS_cons ok_144 (pS_cons ok_145 (pS_cons ok_146 (pS_cons ok_147 (pS_cons ok_155 (pS_cons ok_202 (pS_cons ok_203 (pS_nil)))))))), (pV_cons (List.mem_of_getElem? (i := 0) rfl) (pV_cons (List.mem_of_getElem? (i := 1) rfl) (pV_nil))), e_204⟩ (show ∀ u ∈ us_204, pQ_204 u from qb_204_0)
def pQ_205 (u : sCu) : Prop := ∃ (SM : List sIn) (cu : List sCu) (n : Nat), (∀ I ∈ SM, sInOk pPT I) ∧ (∀ v ∈ cu, v ∈ us_205) ∧ sWkU pPT SM i_205 (mR pm_97) cu n u = true
theorem q_205_0 : pQ_205 u_205_0 := ⟨_, _, _, (pS_nil), (pV_nil), f_205_0⟩
theorem q_205_1 : pQ_205 u_205_1 := ⟨_, _, _, (pS_nil), (pV_cons (List.mem_of_getElem? (i := 2) rfl) (pV_nil)), f_205_1⟩
theorem q_205_2 : pQ_205 u_205_2 := ⟨_, _, _, (pS_nil), (pV_cons (List.mem_of_getElem? (i := 3) rfl) (pV_nil)), f_205_2⟩
theorem q_205_3 : pQ_205 u_205_3 := ⟨_, _, _, (pS_cons ok_87 (pS_cons ok_204 (pS_nil))), (pV_cons (List.mem_of_getElem? (i := 0) rfl) (pV_cons (List.mem_of_getElem? (i := 1) rfl) (pV_nil))), f_205_3⟩
theorem qb_205_0 : ∀ u ∈ [u_205_0, u_205_1, u_205_2, u_205_3], pQ_205 u := pU_cons q_205_0 (pU_cons q_205_1 (pU_cons q_205_2 (pU_cons q_205_3 (pU_nil))))
theorem ok_205 : sInOk pPT i_205 := sInst2 (M := pm_97) (cus := us_205) pOk pg_97 (by decide +kernel) ⟨_, _, _, (pS_cons ok_204 (pS_nil)), (pV_cons (List.mem_of_getElem? (i := 0) rfl) (pV_cons (List.mem_of_getElem? (i := 1) rfl) (pV_nil))), e_205⟩ (show ∀ u ∈ us_205, pQ_205 u from qb_205_0)
def pQ_206 (u : sCu) : Prop := ∃ (SM : List sIn) (cu : List sCu) (n : Nat), (∀ I ∈ SM, sInOk pPT I) ∧ (∀ v ∈ cu, v ∈ us_206) ∧ sWkU pPT SM i_206 (mR pm_98) cu n u = true
theorem q_206_0 : pQ_206 u_206_0 := ⟨_, _, _, (pS_nil), (pV_nil), f_206_0⟩
theorem q_206_1 : pQ_206 u_206_1 := ⟨_, _, _, (pS_nil), (pV_cons (List.mem_of_getElem? (i := 2) rfl) (pV_nil)), f_206_1⟩
theorem q_206_2 : pQ_206 u_206_2 := ⟨_, _, _, (pS_nil), (pV_cons (List.mem_of_getElem? (i := 3) rfl) (pV_nil)), f_206_2⟩
theorem q_206_3 : pQ_206 u_206_3 := ⟨_, _, _, (pS_cons ok_87 (pS_cons ok_205 (pS_nil))), (pV_cons (List.mem_of_getElem? (i := 0) rfl) (pV_cons (List.mem_of_getElem? (i := 1) rfl) (pV_nil))), f_206_3⟩
theorem qb_206_0 : ∀ u ∈ [u_206_0, u_206_1, u_206_2, u_206_3], pQ_206 u := pU_cons q_206_0 (pU_cons q_206_1 (pU_cons q_206_2 (pU_cons q_206_3 (pU_nil))))
theorem ok_206 : sInOk pPT i_206 := sInst2 (M := pm_98) (cus := us_206) pOk pg_98 (by decide +kernel) ⟨_, _, _, (pS_cons ok_205 (pS_nil)), (pV_cons (List.mem_of_getElem? (i := 0) rfl) (pV_cons (List.mem_of_getElem? (i := 1) rfl) (pV_nil))), e_206⟩ (show ∀ u ∈ us_206, pQ_206 u from qb_206_0)
theorem ok_207 : sInOk pPT i_207 := sInst2 (M := pm_96) (cus := []) pOk pg_96 (by decide +kernel) ⟨_, _, _, (pS_nil), pV_nil, e_207⟩ pU_nil
def pQ_208 (u : sCu) : Prop := ∃ (SM : List sIn) (cu : List sCu) (n : Nat), (∀ I ∈ SM, sInOk pPT I) ∧ (∀ v ∈ cu, v ∈ us_208) ∧ sWkU pPT SM i_208 (mR pm_97) cu n u = true
theorem q_208_0 : pQ_208 u_208_0 := ⟨_, _, _, (pS_nil), (pV_nil), f_208_0⟩
theorem qb_208_0 : ∀ u ∈ [u_208_0], pQ_208 u := pU_cons q_208_0 (pU_nil)
theorem ok_208 : sInOk pPT i_208 := sInst2 (M := pm_97) (cus := us_208) pOk pg_97 (by decide +kernel) ⟨_, _, _, (pS_cons ok_207 (pS_nil)), (pV_cons (List.mem_of_getElem? (i := 0) rfl) (pV_nil)), e_208⟩ (show ∀ u ∈ us_208, pQ_208 u from qb_208_0)
def pQ_209 (u : sCu) : Prop := ∃ (SM : List sIn) (cu : List sCu) (n : Nat), (∀ I ∈ SM, sInOk pPT I) ∧ (∀ v ∈ cu, v ∈ us_209) ∧ sWkU pPT SM i_209 (mR pm_98) cu n u = true
theorem q_209_0 : pQ_209 u_209_0 := ⟨_, _, _, (pS_nil), (pV_nil), f_209_0⟩
theorem qb_209_0 : ∀ u ∈ [u_209_0], pQ_209 u := pU_cons q_209_0 (pU_nil)
theorem ok_209 : sInOk pPT i_209 := sInst2 (M := pm_98) (cus := us_209) pOk pg_98 (by decide +kernel) ⟨_, _, _, (pS_cons ok_208 (pS_nil)), (pV_cons (List.mem_of_getElem? (i := 0) rfl) (pV_nil)), e_209⟩ (show ∀ u ∈ us_209, pQ_209 u from qb_209_0)
def pQ_210 (u : sCu) : Prop := ∃ (SM : List sIn) (cu : List sCu) (n : Nat), (∀ I ∈ SM, sInOk pPT I) ∧ (∀ v ∈ cu, v ∈ us_210) ∧ sWkU pPT SM i_210 (mR pm_94) cu n u = true
theorem q_210_0 : pQ_210 u_210_0 := ⟨_, _, _, (pS_cons ok_134 (pS_cons ok_206 (pS_nil))), (pV_cons (List.mem_of_getElem? (i := 1) rfl) (pV_cons (List.mem_of_getElem? (i := 2) rfl) (pV_cons (List.mem_of_getElem? (i := 3) rfl) (pV_cons (List.mem_of_getElem? (i := 4) rfl) (pV_nil))))), f_210_0⟩
theorem q_210_1 : pQ_210 u_210_1 := ⟨_, _, _, (pS_nil), (pV_cons (List.mem_of_getElem? (i := 5) rfl) (pV_nil)), f_210_1⟩
theorem q_210_2 : pQ_210 u_210_2 := ⟨_, _, _, (pS_nil), (pV_cons (List.mem_of_getElem? (i := 6) rfl) (pV_nil)), f_210_2⟩
theorem q_210_3 : pQ_210 u_210_3 := ⟨_, _, _, (pS_nil), (pV_cons (List.mem_of_getElem? (i := 7) rfl) (pV_nil)), f_210_3⟩
theorem q_210_4 : pQ_210 u_210_4 := ⟨_, _, _, (pS_cons ok_87 (pS_nil)), (pV_cons (List.mem_of_getElem? (i := 8) rfl) (pV_nil)), f_210_4⟩
theorem q_210_5 : pQ_210 u_210_5 := ⟨_, _, _, (pS_nil), (pV_nil), f_210_5⟩
theorem q_210_6 : pQ_210 u_210_6 := ⟨_, _, _, (pS_nil), (pV_nil), f_210_6⟩
theorem q_210_7 : pQ_210 u_210_7 := ⟨_, _, _, (pS_cons ok_87 (pS_cons ok_206 (pS_nil))), (pV_cons (List.mem_of_getElem? (i := 1) rfl) (pV_cons (List.mem_of_getElem? (i := 2) rfl) (pV_nil))), f_210_7⟩
theorem q_210_8 : pQ_210 u_210_8 := ⟨_, _, _, (pS_cons ok_134 (pS_cons ok_206 (pS_nil))), (pV_cons (List.mem_of_getElem? (i := 11) rfl) (pV_cons (List.mem_of_getElem? (i := 12) rfl) (pV_cons (List.mem_of_getElem? (i := 13) rfl) (pV_cons (List.mem_of_getElem? (i := 14) rfl) (pV_nil))))), f_210_8⟩
theorem q_210_9 : pQ_210 u_210_9 := ⟨_, _, _, (pS_nil), (pV_cons (List.mem_of_getElem? (i := 5) rfl) (pV_nil)), f_210_9⟩
theorem q_210_10 : pQ_210 u_210_10 := ⟨_, _, _, (pS_nil), (pV_cons (List.mem_of_getElem? (i := 6) rfl) (pV_nil)), f_210_10⟩
theorem q_210_11 : pQ_210 u_210_11 := ⟨_, _, _, (pS_nil), (pV_cons (List.mem_of_getElem? (i := 15) rfl) (pV_nil)), f_210_11⟩
theorem q_210_12 : pQ_210 u_210_12 := ⟨_, _, _, (pS_nil), (pV_cons (List.mem_of_getElem? (i := 16) rfl) (pV_nil)), f_210_12⟩
theorem q_210_13 : pQ_210 u_210_13 := ⟨_, _, _, (pS_nil), (pV_cons (List.mem_of_getElem? (i := 17) rfl) (pV_nil)), f_210_13⟩
theorem q_210_14 : pQ_210 u_210_14 := ⟨_, _, _, (pS_cons ok_87 (pS_nil)), (pV_cons (List.mem_of_getElem? (i := 18) rfl) (pV_nil)), f_210_14⟩
theorem q_210_15 : pQ_210 u_210_15 := ⟨_, _, _, (pS_nil), (pV_cons (List.mem_of_getElem? (i := 19) rfl) (pV_nil)), f_210_15⟩
theorem q_210_16 : pQ_210 u_210_16 := ⟨_, _, _, (pS_nil), (pV_cons (List.mem_of_getElem? (i := 20) rfl) (pV_nil)), f_210_16⟩
theorem q_210_17 : pQ_210 u_210_17 := ⟨_, _, _, (pS_cons ok_87 (pS_cons ok_206 (pS_nil))), (pV_cons (List.mem_of_getElem? (i := 11) rfl) (pV_cons (List.mem_of_getElem? (i := 12) rfl) (pV_nil))), f_210_17⟩
theorem q_210_18 : pQ_210 u_210_18 := ⟨_, _, _, (pS_cons ok_134 (pS_cons ok_206 (pS_nil))), (pV_cons (List.mem_of_getElem? (i := 23) rfl) (pV_cons (List.mem_of_getElem? (i := 24) rfl) (pV_cons (List.mem_of_getElem? (i := 25) rfl) (pV_cons (List.mem_of_getElem? (i := 26) rfl) (pV_nil))))), f_210_18⟩
theorem q_210_19 : pQ_210 u_210_19 := ⟨_, _, _, (pS_nil), (pV_nil), f_210_19⟩
theorem q_210_20 : pQ_210 u_210_20 := ⟨_, _, _, (pS_nil), (pV_nil), f_210_20⟩
theorem q_210_21 : pQ_210 u_210_21 := ⟨_, _, _, (pS_nil), (pV_cons (List.mem_of_getElem? (i := 15) rfl) (pV_nil)), f_210_21⟩
theorem q_210_22 : pQ_210 u_210_22 := ⟨_, _, _, (pS_nil), (pV_cons (List.mem_of_getElem? (i := 16) rfl) (pV_nil)), f_210_22⟩
theorem q_210_23 : pQ_210 u_210_23 := ⟨_, _, _, (pS_nil), (pV_cons (List.mem_of_getElem? (i := 27) rfl) (pV_nil)), f_210_23⟩
theorem q_210_24 : pQ_210 u_210_24 := ⟨_, _, _, (pS_nil), (pV_cons (List.mem_of_getElem? (i := 28) rfl) (pV_nil)), f_210_24⟩
theorem q_210_25 : pQ_210 u_210_25 := ⟨_, _, _, (pS_nil), (pV_cons (List.mem_of_getElem? (i := 29) rfl) (pV_nil)), f_210_25⟩
theorem q_210_26 : pQ_210 u_210_26 := ⟨_, _, _, (pS_cons ok_87 (pS_nil)), (pV_cons (List.mem_of_getElem? (i := 30) rfl) (pV_nil)), f_210_26⟩
theorem q_210_27 : pQ_210 u_210_27 := ⟨_, _, _, (pS_nil), (pV_cons (List.mem_of_getElem? (i := 31) rfl) (pV_nil)), f_210_27⟩
theorem q_210_28 : pQ_210 u_210_28 := ⟨_, _, _, (pS_nil), (pV_cons (List.mem_of_getElem? (i := 32) rfl) (pV_nil)), f_210_28⟩
theorem q_210_29 : pQ_210 u_210_29 := ⟨_, _, _, (pS_cons ok_87 (pS_cons ok_206 (pS_nil))), (pV_cons (List.mem_of_getElem? (i := 23) rfl) (pV_cons (List.mem_of_getElem? (i := 24) rfl) (pV_nil))), f_210_29⟩
theorem q_210_30 : pQ_210 u_210_30 := ⟨_, _, _, (pS_cons ok_134 (pS_cons ok_206 (pS_nil))), (pV_cons (List.mem_of_getElem? (i := 35) rfl) (pV_cons (List.mem_of_getElem? (i := 36) rfl) (pV_cons (List.mem_of_getElem? (i := 37) rfl) (pV_cons (List.mem_of_getElem? (i := 38) rfl) (pV_nil))))), f_210_30⟩
theorem q_210_31 : pQ_210 u_210_31 := ⟨_, _, _, (pS_nil), (pV_cons (List.mem_of_getElem? (i := 39) rfl) (pV_nil)), f_210_31⟩
theorem q_210_32 : pQ_210 u_210_32 := ⟨_, _, _, (pS_nil), (pV_cons (List.mem_of_getElem? (i := 40) rfl) (pV_nil)), f_210_32⟩
theorem q_210_33 : pQ_210 u_210_33 := ⟨_, _, _, (pS_nil), (pV_cons (List.mem_of_getElem? (i := 27) rfl) (pV_nil)), f_210_33⟩
theorem q_210_34 : pQ_210 u_210_34 := ⟨_, _, _, (pS_nil), (pV_cons (List.mem_of_getElem? (i := 28) rfl) (pV_nil)), f_210_34⟩
theorem q_210_35 : pQ_210 u_210_35 := ⟨_, _, _, (pS_nil), (pV_cons (List.mem_of_getElem? (i := 41) rfl) (pV_nil)), f_210_35⟩
theorem q_210_36 : pQ_210 u_210_36 := ⟨_, _, _, (pS_nil), (pV_cons (List.mem_of_getElem? (i := 42) rfl) (pV_nil)), f_210_36⟩
theorem q_210_37 : pQ_210 u_210_37 := ⟨_, _, _, (pS_nil), (pV_cons (List.mem_of_getElem? (i := 43) rfl) (pV_nil)), f_210_37⟩
theorem q_210_38 : pQ_210 u_210_38 := ⟨_, _, _, (pS_cons ok_87 (pS_nil)), (pV_cons (List.mem_of_getElem? (i := 44) rfl) (pV_nil)), f_210_38⟩
theorem q_210_39 : pQ_210 u_210_39 := ⟨_, _, _, (pS_nil), (pV_nil), f_210_39⟩
theorem q_210_40 : pQ_210 u_210_40 := ⟨_, _, _, (pS_nil), (pV_nil), f_210_40⟩
theorem q_210_41 : pQ_210 u_210_41 := ⟨_, _, _, (pS_nil), (pV_cons (List.mem_of_getElem? (i := 45) rfl) (pV_nil)), f_210_41⟩
theorem q_210_42 : pQ_210 u_210_42 := ⟨_, _, _, (pS_nil), (pV_cons (List.mem_of_getElem? (i := 46) rfl) (pV_nil)), f_210_42⟩
theorem q_210_43 : pQ_210 u_210_43 := ⟨_, _, _, (pS_cons ok_87 (pS_cons ok_206 (pS_nil))), (pV_cons (List.mem_of_getElem? (i := 35) rfl) (pV_cons (List.mem_of_getElem? (i := 36) rfl) (pV_nil))), f_210_43⟩
theorem q_210_44 : pQ_210 u_210_44 := ⟨_, _, _, (pS_cons ok_134 (pS_cons ok_206 (pS_nil))), (pV_cons (List.mem_of_getElem? (i := 49) rfl) (pV_cons (List.mem_of_getElem? (i := 50) rfl) (pV_cons (List.mem_of_getElem? (i := 51) rfl) (pV_cons (List.mem_of_getElem? (i := 52) rfl) (pV_nil))))), f_210_44⟩
theorem q_210_45 : pQ_210 u_210_45 := ⟨_, _, _, (pS_nil), (pV_cons (List.mem_of_getElem? (i := 53) rfl) (pV_nil)), f_210_45⟩
theorem q_210_46 : pQ_210 u_210_46 := ⟨_, _, _, (pS_nil), (pV_cons (List.mem_of_getElem? (i := 54) rfl) (pV_nil)), f_210_46⟩
theorem q_210_47 : pQ_210 u_210_47 := ⟨_, _, _, (pS_nil), (pV_cons (List.mem_of_getElem? (i := 41) rfl) (pV_nil)), f_210_47⟩
theorem q_210_48 : pQ_210 u_210_48 := ⟨_, _, _, (pS_nil), (pV_cons (List.mem_of_getElem? (i := 42) rfl) (pV_nil)), f_210_48⟩
theorem q_210_49 : pQ_210 u_210_49 := ⟨_, _, _, (pS_nil), (pV_cons (List.mem_of_getElem? (i := 55) rfl) (pV_nil)), f_210_49⟩
theorem q_210_50 : pQ_210 u_210_50 := ⟨_, _, _, (pS_nil), (pV_cons (List.mem_of_getElem? (i := 56) rfl) (pV_nil)), f_210_50⟩
theorem q_210_51 : pQ_210 u_210_51 := ⟨_, _, _, (pS_nil), (pV_cons (List.mem_of_getElem? (i := 57) rfl) (pV_nil)), f_210_51⟩
theorem q_210_52 : pQ_210 u_210_52 := ⟨_, _, _, (pS_cons ok_87 (pS_nil)), (pV_cons (List.mem_of_getElem? (i := 58) rfl) (pV_nil)), f_210_52⟩
theorem q_210_53 : pQ_210 u_210_53 := ⟨_, _, _, (pS_nil), (pV_cons (List.mem_of_getElem? (i := 59) rfl) (pV_nil)), f_210_53⟩
theorem q_210_54 : pQ_210 u_210_54 := ⟨_, _, _, (pS_nil), (pV_cons (List.mem_of_getElem? (i := 60) rfl) (pV_nil)), f_210_54⟩
theorem q_210_55 : pQ_210 u_210_55 := ⟨_, _, _, (pS_nil), (pV_cons (List.mem_of_getElem? (i := 61) rfl) (pV_nil)), f_210_55⟩
theorem q_210_56 : pQ_210 u_210_56 := ⟨_, _, _, (pS_nil), (pV_cons (List.mem_of_getElem? (i := 62) rfl) (pV_nil)), f_210_56⟩
theorem q_210_57 : pQ_210 u_210_57 := ⟨_, _, _, (pS_cons ok_87 (pS_cons ok_206 (pS_nil))), (pV_cons (List.mem_of_getElem? (i := 49) rfl) (pV_cons (List.mem_of_getElem? (i := 50) rfl) (pV_nil))), f_210_57⟩
theorem q_210_58 : pQ_210 u_210_58 := ⟨_, _, _, (pS_cons ok_134 (pS_cons ok_206 (pS_nil))), (pV_cons (List.mem_of_getElem? (i := 65) rfl) (pV_cons (List.mem_of_getElem? (i := 66) rfl) (pV_cons (List.mem_of_getElem? (i := 67) rfl) (pV_cons (List.mem_of_getElem? (i := 68) rfl) (pV_nil))))), f_210_58⟩
theorem q_210_59 : pQ_210 u_210_59 := ⟨_, _, _, (pS_nil), (pV_nil), f_210_59⟩
theorem q_210_60 : pQ_210 u_210_60 := ⟨_, _, _, (pS_nil), (pV_nil), f_210_60⟩
theorem q_210_61 : pQ_210 u_210_61 := ⟨_, _, _, (pS_nil), (pV_cons (List.mem_of_getElem? (i := 69) rfl) (pV_nil)), f_210_61⟩
theorem q_210_62 : pQ_210 u_210_62 := ⟨_, _, _, (pS_nil), (pV_cons (List.mem_of_getElem? (i := 70) rfl) (pV_nil)), f_210_62⟩
theorem q_210_63 : pQ_210 u_210_63 := ⟨_, _, _, (pS_nil), (pV_cons (List.mem_of_getElem? (i := 55) rfl) (pV_nil)), f_210_63⟩
theorem q_210_64 : pQ_210 u_210_64 := ⟨_, _, _, (pS_nil), (pV_cons (List.mem_of_getElem? (i := 56) rfl) (pV_nil)), f_210_64⟩
theorem q_210_65 : pQ_210 u_210_65 := ⟨_, _, _, (pS_nil), (pV_cons (List.mem_of_getElem? (i := 71) rfl) (pV_nil)), f_210_65⟩
theorem q_210_66 : pQ_210 u_210_66 := ⟨_, _, _, (pS_nil), (pV_cons (List.mem_of_getElem? (i := 72) rfl) (pV_nil)), f_210_66⟩
theorem q_210_67 : pQ_210 u_210_67 := ⟨_, _, _, (pS_nil), (pV_cons (List.mem_of_getElem? (i := 73) rfl) (pV_nil)), f_210_67⟩
theorem q_210_68 : pQ_210 u_210_68 := ⟨_, _, _, (pS_cons ok_87 (pS_nil)), (pV_cons (List.mem_of_getElem? (i := 74) rfl) (pV_nil)), f_210_68⟩
theorem q_210_69 : pQ_210 u_210_69 := ⟨_, _, _, (pS_nil), (pV_cons (List.mem_of_getElem? (i := 75) rfl) (pV_nil)), f_210_69⟩
theorem q_210_70 : pQ_210 u_210_70 := ⟨_, _, _, (pS_nil), (pV_cons (List.mem_of_getElem? (i := 76) rfl) (pV_nil)), f_210_70⟩
theorem q_210_71 : pQ_210 u_210_71 := ⟨_, _, _, (pS_nil), (pV_cons (List.mem_of_getElem? (i := 77) rfl) (pV_nil)), f_210_71⟩
theorem q_210_72 : pQ_210 u_210_72 := ⟨_, _, _, (pS_nil), (pV_cons (List.mem_of_getElem? (i := 78) rfl) (pV_nil)), f_210_72⟩
theorem q_210_73 : pQ_210 u_210_73 := ⟨_, _, _, (pS_cons ok_87 (pS_cons ok_206 (pS_nil))), (pV_cons (List.mem_of_getElem? (i := 65) rfl) (pV_cons (List.mem_of_getElem? (i := 66) rfl) (pV_nil))), f_210_73⟩
theorem q_210_74 : pQ_210 u_210_74 := ⟨_, _, _, (pS_cons ok_134 (pS_cons ok_206 (pS_nil))), (pV_cons (List.mem_of_getElem? (i := 81) rfl) (pV_cons (List.mem_of_getElem? (i := 82) rfl) (pV_cons (List.mem_of_getElem? (i := 83) rfl) (pV_cons (List.mem_of_getElem? (i := 84) rfl) (pV_nil))))), f_210_74⟩
theorem q_210_75 : pQ_210 u_210_75 := ⟨_, _, _, (pS_nil), (pV_cons (List.mem_of_getElem? (i := 85) rfl) (pV_nil)), f_210_75⟩
theorem q_210_76 : pQ_210 u_210_76 := ⟨_, _, _, (pS_nil), (pV_cons (List.mem_of_getElem? (i := 86) rfl) (pV_nil)), f_210_76⟩
theorem q_210_77 : pQ_210 u_210_77 := ⟨_, _, _, (pS_nil), (pV_cons (List.mem_of_getElem? (i := 87) rfl) (pV_nil)), f_210_77⟩
theorem q_210_78 : pQ_210 u_210_78 := ⟨_, _, _, (pS_nil), (pV_cons (List.mem_of_getElem? (i := 88) rfl) (pV_nil)), f_210_78⟩
theorem q_210_79 : pQ_210 u_210_79 := ⟨_, _, _, (pS_nil), (pV_cons (List.mem_of_getElem? (i := 71) rfl) (pV_nil)), f_210_79⟩
theorem q_210_80 : pQ_210 u_210_80 := ⟨_, _, _, (pS_nil), (pV_cons (List.mem_of_getElem? (i := 72) rfl) (pV_nil)), f_210_80⟩
theorem q_210_81 : pQ_210 u_210_81 := ⟨_, _, _, (pS_nil), (pV_cons (List.mem_of_getElem? (i := 89) rfl) (pV_nil)), f_210_81⟩
theorem q_210_82 : pQ_210 u_210_82 := ⟨_, _, _, (pS_nil), (pV_cons (List.mem_of_getElem? (i := 90) rfl) (pV_nil)), f_210_82⟩
theorem q_210_83 : pQ_210 u_210_83 := ⟨_, _, _, (pS_nil), (pV_cons (List.mem_of_getElem? (i := 91) rfl) (pV_nil)), f_210_83⟩
theorem q_210_84 : pQ_210 u_210_84 := ⟨_, _, _, (pS_nil), (pV_cons (List.mem_of_getElem? (i := 92) rfl) (pV_nil)), f_210_84⟩
theorem q_210_85 : pQ_210 u_210_85 := ⟨_, _, _, (pS_nil), (pV_nil), f_210_85⟩
theorem q_210_86 : pQ_210 u_210_86 := ⟨_, _, _, (pS_nil), (pV_nil), f_210_86⟩
theorem q_210_87 : pQ_210 u_210_87 := ⟨_, _, _, (pS_nil), (pV_cons (List.mem_of_getElem? (i := 93) rfl) (pV_nil)), f_210_87⟩
theorem q_210_88 : pQ_210 u_210_88 := ⟨_, _, _, (pS_nil), (pV_cons (List.mem_of_getElem? (i := 94) rfl) (pV_nil)), f_210_88⟩
theorem q_210_89 : pQ_210 u_210_89 := ⟨_, _, _, (pS_nil), (pV_cons (List.mem_of_getElem? (i := 95) rfl) (pV_nil)), f_210_89⟩
theorem q_210_90 : pQ_210 u_210_90 := ⟨_, _, _, (pS_nil), (pV_cons (List.mem_of_getElem? (i := 96) rfl) (pV_nil)), f_210_90⟩
theorem q_210_91 : pQ_210 u_210_91 := ⟨_, _, _, (pS_cons ok_87 (pS_cons ok_206 (pS_nil))), (pV_cons (List.mem_of_getElem? (i := 81) rfl) (pV_cons (List.mem_of_getElem? (i := 82) rfl) (pV_nil))), f_210_91⟩
theorem q_210_92 : pQ_210 u_210_92 := ⟨_, _, _, (pS_cons ok_135 (pS_cons ok_209 (pS_nil))), (pV_cons (List.mem_of_getElem? (i := 99) rfl) (pV_nil)), f_210_92⟩
theorem q_210_93 : pQ_210 u_210_93 := ⟨_, _, _, (pS_nil), (pV_cons (List.mem_of_getElem? (i := 100) rfl) (pV_nil)), f_210_93⟩
theorem q_210_94 : pQ_210 u_210_94 := ⟨_, _, _, (pS_nil), (pV_cons (List.mem_of_getElem? (i := 101) rfl) (pV_nil)), f_210_94⟩
theorem q_210_95 : pQ_210 u_210_95 := ⟨_, _, _, (pS_nil), (pV_cons (List.mem_of_getElem? (i := 102) rfl) (pV_nil)), f_210_95⟩
theorem q_210_96 : pQ_210 u_210_96 := ⟨_, _, _, (pS_nil), (pV_cons (List.mem_of_getElem? (i := 103) rfl) (pV_nil)), f_210_96⟩
theorem q_210_97 : pQ_210 u_210_97 := ⟨_, _, _, (pS_nil), (pV_cons (List.mem_of_getElem? (i := 89) rfl) (pV_nil)), f_210_97⟩
theorem q_210_98 : pQ_210 u_210_98 := ⟨_, _, _, (pS_nil), (pV_cons (List.mem_of_getElem? (i := 90) rfl) (pV_nil)), f_210_98⟩
theorem q_210_99 : pQ_210 u_210_99 := ⟨_, _, _, (pS_nil), (pV_cons (List.mem_of_getElem? (i := 104) rfl) (pV_nil)), f_210_99⟩
theorem q_210_100 : pQ_210 u_210_100 := ⟨_, _, _, (pS_nil), (pV_cons (List.mem_of_getElem? (i := 105) rfl) (pV_nil)), f_210_100⟩
theorem q_210_101 : pQ_210 u_210_101 := ⟨_, _, _, (pS_nil), (pV_cons (List.mem_of_getElem? (i := 106) rfl) (pV_nil)), f_210_101⟩
theorem q_210_102 : pQ_210 u_210_102 := ⟨_, _, _, (pS_nil), (pV_cons (List.mem_of_getElem? (i := 107) rfl) (pV_nil)), f_210_102⟩
theorem q_210_103 : pQ_210 u_210_103 := ⟨_, _, _, (pS_nil), (pV_cons (List.mem_of_getElem? (i := 108) rfl) (pV_nil)), f_210_103⟩
theorem q_210_104 : pQ_210 u_210_104 := ⟨_, _, _, (pS_nil), (pV_cons (List.mem_of_getElem? (i := 109) rfl) (pV_nil)), f_210_104⟩
theorem q_210_105 : pQ_210 u_210_105 := ⟨_, _, _, (pS_nil), (pV_nil), f_210_105⟩
theorem q_210_106 : pQ_210 u_210_106 := ⟨_, _, _, (pS_nil), (pV_nil), f_210_106⟩
theorem q_210_107 : pQ_210 u_210_107 := ⟨_, _, _, (pS_nil), (pV_cons (List.mem_of_getElem? (i := 110) rfl) (pV_nil)), f_210_107⟩
theorem q_210_108 : pQ_210 u_210_108 := ⟨_, _, _, (pS_nil), (pV_cons (List.mem_of_getElem? (i := 111) rfl) (pV_nil)), f_210_108⟩
theorem q_210_109 : pQ_210 u_210_109 := ⟨_, _, _, (pS_nil), (pV_cons (List.mem_of_getElem? (i := 112) rfl) (pV_nil)), f_210_109⟩
theorem q_210_110 : pQ_210 u_210_110 := ⟨_, _, _, (pS_nil), (pV_cons (List.mem_of_getElem? (i := 113) rfl) (pV_nil)), f_210_110⟩
theorem q_210_111 : pQ_210 u_210_111 := ⟨_, _, _, (pS_nil), (pV_cons (List.mem_of_getElem? (i := 114) rfl) (pV_nil)), f_210_111⟩
theorem q_210_112 : pQ_210 u_210_112 := ⟨_, _, _, (pS_nil), (pV_cons (List.mem_of_getElem? (i := 115) rfl) (pV_nil)), f_210_112⟩
theorem q_210_113 : pQ_210 u_210_113 := ⟨_, _, _, (pS_nil), (pV_cons (List.mem_of_getElem? (i := 116) rfl) (pV_nil)), f_210_113⟩
theorem q_210_114 : pQ_210 u_210_114 := ⟨_, _, _, (pS_nil), (pV_cons (List.mem_of_getElem? (i := 117) rfl) (pV_nil)), f_210_114⟩
theorem q_210_115 : pQ_210 u_210_115 := ⟨_, _, _, (pS_nil), (pV_cons (List.mem_of_getElem? (i := 118) rfl) (pV_nil)), f_210_115⟩
theorem q_210_116 : pQ_210 u_210_116 := ⟨_, _, _, (pS_nil), (pV_nil), f_210_116⟩
theorem q_210_117 : pQ_210 u_210_117 := ⟨_, _, _, (pS_nil), (pV_nil), f_210_117⟩
theorem q_210_118 : pQ_210 u_210_118 := ⟨_, _, _, (pS_nil), (pV_cons (List.mem_of_getElem? (i := 119) rfl) (pV_nil)), f_210_118⟩
theorem q_210_119 : pQ_210 u_210_119 := ⟨_, _, _, (pS_nil), (pV_cons (List.mem_of_getElem? (i := 120) rfl) (pV_nil)), f_210_119⟩
theorem q_210_120 : pQ_210 u_210_120 := ⟨_, _, _, (pS_nil), (pV_cons (List.mem_of_getElem? (i := 121) rfl) (pV_nil)), f_210_120⟩
theorem q_210_121 : pQ_210 u_210_121 := ⟨_, _, _, (pS_nil), (pV_nil), f_210_121⟩
theorem qb_210_0 : ∀ u ∈ [u_210_0, u_210_1, u_210_2, u_210_3, u_210_4, u_210_5, u_210_6, u_210_7, u_210_8, u_210_9], pQ_210 u := pU_cons q_210_0 (pU_cons q_210_1 (pU_cons q_210_2 (pU_cons q_210_3 (pU_cons q_210_4 (pU_cons q_210_5 (pU_cons q_210_6 (pU_cons q_210_7 (pU_cons q_210_8 (pU_cons q_210_9 (pU_nil))))))))))
theorem qb_210_1 : ∀ u ∈ [u_210_10, u_210_11, u_210_12, u_210_13, u_210_14, u_210_15, u_210_16, u_210_17, u_210_18, u_210_19], pQ_210 u := pU_cons q_210_10 (pU_cons q_210_11 (pU_cons q_210_12 (pU_cons q_210_13 (pU_cons q_210_14 (pU_cons q_210_15 (pU_cons q_210_16 (pU_cons q_210_17 (pU_cons q_210_18 (pU_cons q_210_19 (pU_nil))))))))))
theorem qb_210_2 : ∀ u ∈ [u_210_20, u_210_21, u_210_22, u_210_23, u_210_24, u_210_25, u_210_26, u_210_27, u_210_28, u_210_29], pQ_210 u := pU_cons q_210_20 (pU_cons q_210_21 (pU_cons q_210_22 (pU_cons q_210_23 (pU_cons q_210_24 (pU_cons q_210_25 (pU_cons q_210_26 (pU_cons q_210_27 (pU_cons q_210_28 (pU_cons q_210_29 (pU_nil))))))))))
theorem qb_210_3 : ∀ u ∈ [u_210_30, u_210_31, u_210_32, u_210_33, u_210_34, u_210_35, u_210_36, u_210_37, u_210_38, u_210_39], pQ_210 u := pU_cons q_210_30 (pU_cons q_210_31 (pU_cons q_210_32 (pU_cons q_210_33 (pU_cons q_210_34 (pU_cons q_210_35 (pU_cons q_210_36 (pU_cons q_210_37 (pU_cons q_210_38 (pU_cons q_210_39 (pU_nil))))))))))
theorem qb_210_4 : ∀ u ∈ [u_210_40, u_210_41, u_210_42, u_210_43, u_210_44, u_210_45, u_210_46, u_210_47, u_210_48, u_210_49], pQ_210 u := pU_cons q_210_40 (pU_cons q_210_41 (pU_cons q_210_42 (pU_cons q_210_43 (pU_cons q_210_44 (pU_cons q_210_45 (pU_cons q_210_46 (pU_cons q_210_47 (pU_cons q_210_48 (pU_cons q_210_49 (pU_nil))))))))))
theorem qb_210_5 : ∀ u ∈ [u_210_50, u_210_51, u_210_52, u_210_53, u_210_54, u_210_55, u_210_56, u_210_57, u_210_58, u_210_59], pQ_210 u := pU_cons q_210_50 (pU_cons q_210_51 (pU_cons q_210_52 (pU_cons q_210_53 (pU_cons q_210_54 (pU_cons q_210_55 (pU_cons q_210_56 (pU_cons q_210_57 (pU_cons q_210_58 (pU_cons q_210_59 (pU_nil))))))))))
theorem qb_210_6 : ∀ u ∈ [u_210_60, u_210_61, u_210_62, u_210_63, u_210_64, u_210_65, u_210_66, u_210_67, u_210_68, u_210_69], pQ_210 u := pU_cons q_210_60 (pU_cons q_210_61 (pU_cons q_210_62 (pU_cons q_210_63 (pU_cons q_210_64 (pU_cons q_210_65 (pU_cons q_210_66 (pU_cons q_210_67 (pU_cons q_210_68 (pU_cons q_210_69 (pU_nil))))))))))
theorem qb_210_7 : ∀ u ∈ [u_210_70, u_210_71, u_210_72, u_210_73, u_210_74, u_210_75, u_210_76, u_210_77, u_210_78, u_210_79], pQ_210 u := pU_cons q_210_70 (pU_cons q_210_71 (pU_cons q_210_72 (pU_cons q_210_73 (pU_cons q_210_74 (pU_cons q_210_75 (pU_cons q_210_76 (pU_cons q_210_77 (pU_cons q_210_78 (pU_cons q_210_79 (pU_nil))))))))))
theorem qb_210_8 : ∀ u ∈ [u_210_80, u_210_81, u_210_82, u_210_83, u_210_84, u_210_85, u_210_86, u_210_87, u_210_88, u_210_89], pQ_210 u := pU_cons q_210_80 (pU_cons q_210_81 (pU_cons q_210_82 (pU_cons q_210_83 (pU_cons q_210_84 (pU_cons q_210_85 (pU_cons q_210_86 (pU_cons q_210_87 (pU_cons q_210_88 (pU_cons q_210_89 (pU_nil))))))))))
theorem qb_210_9 : ∀ u ∈ [u_210_90, u_210_91, u_210_92, u_210_93, u_210_94, u_210_95, u_210_96, u_210_97, u_210_98, u_210_99], pQ_210 u := pU_cons q_210_90 (pU_cons q_210_91 (pU_cons q_210_92 (pU_cons q_210_93 (pU_cons q_210_94 (pU_cons q_210_95 (pU_cons q_210_96 (pU_cons q_210_97 (pU_cons q_210_98 (pU_cons q_210_99 (pU_nil))))))))))
theorem qb_210_10 : ∀ u ∈ [u_210_100, u_210_101, u_210_102, u_210_103, u_210_104, u_210_105, u_210_106, u_210_107, u_210_108, u_210_109], pQ_210 u := pU_cons q_210_100 (pU_cons q_210_101 (pU_cons q_210_102 (pU_cons q_210_103 (pU_cons q_210_104 (pU_cons q_210_105 (pU_cons q_210_106 (pU_cons q_210_107 (pU_cons q_210_108 (pU_cons q_210_109 (pU_nil))))))))))
theorem qb_210_11 : ∀ u ∈ [u_210_110, u_210_111, u_210_112, u_210_113, u_210_114, u_210_115, u_210_116, u_210_117, u_210_118, u_210_119], pQ_210 u := pU_cons q_210_110 (pU_cons q_210_111 (pU_cons q_210_112 (pU_cons q_210_113 (pU_cons q_210_114 (pU_cons q_210_115 (pU_cons q_210_116 (pU_cons q_210_117 (pU_cons q_210_118 (pU_cons q_210_119 (pU_nil))))))))))
theorem qb_210_12 : ∀ u ∈ [u_210_120, u_210_121], pQ_210 u := pU_cons q_210_120 (pU_cons q_210_121 (pU_nil))
theorem ok_210 : sInOk pPT i_210 := sInst2 (M := pm_94) (cus := us_210) pOk pg_94 (by decide +kernel) ⟨_, _, _, (pS_nil), (pV_cons (List.mem_of_getElem? (i := 0) rfl) (pV_nil)), e_210⟩ (show ∀ u ∈ us_210, pQ_210 u from (pU_app qb_210_0 (pU_app qb_210_1 (pU_app qb_210_2 (pU_app qb_210_3 (pU_app qb_210_4 (pU_app qb_210_5 (pU_app qb_210_6 (pU_app qb_210_7 (pU_app qb_210_8 (pU_app qb_210_9 (pU_app qb_210_10 (pU_app qb_210_11 qb_210_12)))))))))))))
def pQ_211 (u : sCu) : Prop := ∃ (SM : List sIn) (cu : List sCu) (n : Nat), (∀ I ∈ SM, sInOk pPT I) ∧ (∀ v ∈ cu, v ∈ us_211) ∧ sWkU pPT SM i_211 (mR pm_91) cu n u = true
theorem q_211_0 : pQ_211 u_211_0 := ⟨_, _, _, (pS_cons ok_133 (pS_nil)), (pV_nil), f_211_0⟩
theorem q_211_1 : pQ_211 u_211_1 := ⟨_, _, _, (pS_cons ok_87 (pS_cons ok_132 (pS_cons ok_210 (pS_nil)))), (pV_cons (List.mem_of_getElem? (i := 0) rfl) (pV_cons (List.mem_of_getElem? (i := 1) rfl) (pV_nil))), f_211_1⟩
theorem qb_211_0 : ∀ u ∈ [u_211_0, u_211_1], pQ_211 u := pU_cons q_211_0 (pU_cons q_211_1 (pU_nil))
theorem ok_211 : sInOk pPT i_211 := sInst2 (M := pm_91) (cus := us_211) pOk pg_91 (by decide +kernel) ⟨_, _, _, (pS_cons ok_210 (pS_nil)), (pV_cons (List.mem_of_getElem? (i := 0) rfl) (pV_cons (List.mem_of_getElem? (i := 1) rfl) (pV_nil))), e_211⟩ (show ∀ u ∈ us_211, pQ_211 u from qb_211_0)
def pQ_212 (u : sCu) : Prop := ∃ (SM : List sIn) (cu : List sCu) (n : Nat), (∀ I ∈ SM, sInOk pPT I) ∧ (∀ v ∈ cu, v ∈ us_212) ∧ sWkU pPT SM i_212 (mR pm_94) cu n u = true
theorem q_212_0 : pQ_212 u_212_0 := ⟨_, _, _, (pS_cons ok_135 (pS_cons ok_209 (pS_nil))), (pV_cons (List.mem_of_getElem? (i := 1) rfl) (pV_nil)), f_212_0⟩
theorem q_212_1 : pQ_212 u_212_1 := ⟨_, _, _, (pS_nil), (pV_cons (List.mem_of_getElem? (i := 2) rfl) (pV_nil)), f_212_1⟩
theorem q_212_2 : pQ_212 u_212_2 := ⟨_, _, _, (pS_nil), (pV_nil), f_212_2⟩
theorem qb_212_0 : ∀ u ∈ [u_212_0, u_212_1, u_212_2], pQ_212 u := pU_cons q_212_0 (pU_cons q_212_1 (pU_cons q_212_2 (pU_nil)))
theorem ok_212 : sInOk pPT i_212 := sInst2 (M := pm_94) (cus := us_212) pOk pg_94 (by decide +kernel) ⟨_, _, _, (pS_nil), (pV_cons (List.mem_of_getElem? (i := 0) rfl) (pV_nil)), e_212⟩ (show ∀ u ∈ us_212, pQ_212 u from qb_212_0)
def pQ_213 (u : sCu) : Prop := ∃ (SM : List sIn) (cu : List sCu) (n : Nat), (∀ I ∈ SM, sInOk pPT I) ∧ (∀ v ∈ cu, v ∈ us_213) ∧ sWkU pPT SM i_213 (mR pm_91) cu n u = true
theorem q_213_0 : pQ_213 u_213_0 := ⟨_, _, _, (pS_cons ok_133 (pS_nil)), (pV_nil), f_213_0⟩
theorem qb_213_0 : ∀ u ∈ [u_213_0], pQ_213 u := pU_cons q_213_0 (pU_nil)
theorem ok_213 : sInOk pPT i_213 := sInst2 (M := pm_91) (cus := us_213) pOk pg_91 (by decide +kernel) ⟨_, _, _, (pS_cons ok_212 (pS_nil)), (pV_cons (List.mem_of_getElem? (i := 0) rfl) (pV_nil)), e_213⟩ (show ∀ u ∈ us_213, pQ_213 u from qb_213_0)
def pQ_214 (u : sCu) : Prop := ∃ (SM : List sIn) (cu : List sCu) (n : Nat), (∀ I ∈ SM, sInOk pPT I) ∧ (∀ v ∈ cu, v ∈ us_214) ∧ sWkU pPT SM i_214 (mR pm_92) cu n u = true
theorem q_214_0 : pQ_214 u_214_0 := ⟨_, _, _, (pS_nil), (pV_cons (List.mem_of_getElem? (i := 1) rfl) (pV_nil)), f_214_0⟩
theorem q_214_1 : pQ_214 u_214_1 := ⟨_, _, _, (pS_nil), (pV_cons (List.mem_of_getElem? (i := 2) rfl) (pV_cons (List.mem_of_getElem? (i := 3) rfl) (pV_nil))), f_214_1⟩
theorem q_214_2 : pQ_214 u_214_2 := ⟨_, _, _, (pS_cons ok_211 (pS_nil)), (pV_cons (List.mem_of_getElem? (i := 4) rfl) (pV_cons (List.mem_of_getElem? (i := 5) rfl) (pV_nil))), f_214_2⟩
theorem q_214_3 : pQ_214 u_214_3 := ⟨_, _, _, (pS_cons ok_213 (pS_nil)), (pV_cons (List.mem_of_getElem? (i := 4) rfl) (pV_nil)), f_214_3⟩
theorem q_214_4 : pQ_214 u_214_4 := ⟨_, _, _, (pS_cons ok_131 (pS_nil)), (pV_nil), f_214_4⟩
theorem q_214_5 : pQ_214 u_214_5 := ⟨_, _, _, (pS_cons ok_87 (pS_cons ok_130 (pS_cons ok_211 (pS_nil)))), (pV_cons (List.mem_of_getElem? (i := 4) rfl) (pV_cons (List.mem_of_getElem? (i := 5) rfl) (pV_nil))), f_214_5⟩
theorem qb_214_0 : ∀ u ∈ [u_214_0, u_214_1, u_214_2, u_214_3, u_214_4, u_214_5], pQ_214 u := pU_cons q_214_0 (pU_cons q_214_1 (pU_cons q_214_2 (pU_cons q_214_3 (pU_cons q_214_4 (pU_cons q_214_5 (pU_nil))))))
theorem ok_214 : sInOk pPT i_214 := sInst2 (M := pm_92) (cus := us_214) pOk pg_92 (by decide +kernel) ⟨_, _, _, (pS_nil), (pV_cons (List.mem_of_getElem? (i := 0) rfl) (pV_cons (List.mem_of_getElem? (i := 1) rfl) (pV_nil))), e_214⟩ (show ∀ u ∈ us_214, pQ_214 u from qb_214_0)
theorem ok_215 : sInOk pPT i_215 := sInst2 (M := pm_92) (cus := []) pOk pg_92 (by decide +kernel) ⟨_, _, _, (pS_nil), pV_nil, e_215⟩ pU_nil
def pQ_216 (u : sCu) : Prop := ∃ (SM : List sIn) (cu : List sCu) (n : Nat), (∀ I ∈ SM, sInOk pPT I) ∧ (∀ v ∈ cu, v ∈ us_216) ∧ sWkU pPT SM i_216 (mR pm_96) cu n u = true
theorem q_216_0 : pQ_216 u_216_0 := ⟨_, _, _, (pS_cons ok_87 (pS_nil)), (pV_nil), f_216_0⟩
theorem q_216_1 : pQ_216 u_216_1 := ⟨_, _, _, (pS_nil), (pV_nil), f_216_1⟩
theorem qb_216_0 : ∀ u ∈ [u_216_0, u_216_1], pQ_216 u := pU_cons q_216_0 (pU_cons q_216_1 (pU_nil))
theorem ok_216 : sInOk pPT i_216 := sInst2 (M := pm_96) (cus := us_216) pOk pg_96 (by decide +kernel) ⟨_, _, _, (pS_cons ok_144 (pS_cons ok_145 (pS_cons ok_146 (pS_cons ok_147 (pS_cons ok_155 (pS_cons ok_214 (pS_cons ok_215 (pS_nil)))))))), (pV_cons (List.mem_of_getElem? (i := 0) rfl) (pV_cons (List.mem_of_getElem? (i := 1) rfl) (pV_nil))), e_216⟩ (show ∀ u ∈ us_216, pQ_216 u from qb_216_0)
def pQ_217 (u : sCu) : Prop := ∃ (SM : List sIn) (cu : List sCu) (n : Nat), (∀ I ∈ SM, sInOk pPT I) ∧ (∀ v ∈ cu, v ∈ us_217) ∧ sWkU pPT SM i_217 (mR pm_97) cu n u = true
theorem q_217_0 : pQ_217 u_217_0 := ⟨_, _, _, (pS_nil), (pV_nil), f_217_0⟩
theorem q_217_1 : pQ_217 u_217_1 := ⟨_, _, _, (pS_nil), (pV_cons (List.mem_of_getElem? (i := 2) rfl) (pV_nil)), f_217_1⟩
theorem q_217_2 : pQ_217 u_217_2 := ⟨_, _, _, (pS_nil), (pV_cons (List.mem_of_getElem? (i := 3) rfl) (pV_nil)), f_217_2⟩
theorem q_217_3 : pQ_217 u_217_3 := ⟨_, _, _, (pS_cons ok_87 (pS_cons ok_216 (pS_nil))), (pV_cons (List.mem_of_getElem? (i := 0) rfl) (pV_cons (List.mem_of_getElem? (i := 1) rfl) (pV_nil))), f_217_3⟩
theorem qb_217_0 : ∀ u ∈ [u_217_0, u_217_1, u_217_2, u_217_3], pQ_217 u := pU_cons q_217_0 (pU_cons q_217_1 (pU_cons q_217_2 (pU_cons q_217_3 (pU_nil))))
theorem ok_217 : sInOk pPT i_217 := sInst2 (M := pm_97) (cus := us_217) pOk pg_97 (by decide +kernel) ⟨_, _, _, (pS_cons ok_216 (pS_nil)), (pV_cons (List.mem_of_getElem? (i := 0) rfl) (pV_cons (List.mem_of_getElem? (i := 1) rfl) (pV_nil))), e_217⟩ (show ∀ u ∈ us_217, pQ_217 u from qb_217_0)
def pQ_218 (u : sCu) : Prop := ∃ (SM : List sIn) (cu : List sCu) (n : Nat), (∀ I ∈ SM, sInOk pPT I) ∧ (∀ v ∈ cu, v ∈ us_218) ∧ sWkU pPT SM i_218 (mR pm_98) cu n u = true
theorem q_218_0 : pQ_218 u_218_0 := ⟨_, _, _, (pS_nil), (pV_nil), f_218_0⟩
theorem q_218_1 : pQ_218 u_218_1 := ⟨_, _, _, (pS_nil), (pV_cons (List.mem_of_getElem? (i := 2) rfl) (pV_nil)), f_218_1⟩
theorem q_218_2 : pQ_218 u_218_2 := ⟨_, _, _, (pS_nil), (pV_cons (List.mem_of_getElem? (i := 3) rfl) (pV_nil)), f_218_2⟩
theorem q_218_3 : pQ_218 u_218_3 := ⟨_, _, _, (pS_cons ok_87 (pS_cons ok_217 (pS_nil))), (pV_cons (List.mem_of_getElem? (i := 0) rfl) (pV_cons (List.mem_of_getElem? (i := 1) rfl) (pV_nil))), f_218_3⟩
theorem qb_218_0 : ∀ u ∈ [u_218_0, u_218_1, u_218_2, u_218_3], pQ_218 u := pU_cons q_218_0 (pU_cons q_218_1 (pU_cons q_218_2 (pU_cons q_218_3 (pU_nil))))
theorem ok_218 : sInOk pPT i_218 := sInst2 (M := pm_98) (cus := us_218) pOk pg_98 (by decide +kernel) ⟨_, _, _, (pS_cons ok_217 (pS_nil)), (pV_cons (List.mem_of_getElem? (i := 0) rfl) (pV_cons (List.mem_of_getElem? (i := 1) rfl) (pV_nil))), e_218⟩ (show ∀ u ∈ us_218, pQ_218 u from qb_218_0)
theorem ok_219 : sInOk pPT i_219 := sInst2 (M := pm_96) (cus := []) pOk pg_96 (by decide +kernel) ⟨_, _, _, (pS_nil), pV_nil, e_219⟩ pU_nil
def pQ_220 (u : sCu) : Prop := ∃ (SM : List sIn) (cu : List sCu) (n : Nat), (∀ I ∈ SM, sInOk pPT I) ∧ (∀ v ∈ cu, v ∈ us_220) ∧ sWkU pPT SM i_220 (mR pm_97) cu n u = true
theorem q_220_0 : pQ_220 u_220_0 := ⟨_, _, _, (pS_nil), (pV_nil), f_220_0⟩
theorem qb_220_0 : ∀ u ∈ [u_220_0], pQ_220 u := pU_cons q_220_0 (pU_nil)
theorem ok_220 : sInOk pPT i_220 := sInst2 (M := pm_97) (cus := us_220) pOk pg_97 (by decide +kernel) ⟨_, _, _, (pS_cons ok_219 (pS_nil)), (pV_cons (List.mem_of_getElem? (i := 0) rfl) (pV_nil)), e_220⟩ (show ∀ u ∈ us_220, pQ_220 u from qb_220_0)
def pQ_221 (u : sCu) : Prop := ∃ (SM : List sIn) (cu : List sCu) (n : Nat), (∀ I ∈ SM, sInOk pPT I) ∧ (∀ v ∈ cu, v ∈ us_221) ∧ sWkU pPT SM i_221 (mR pm_98) cu n u = true
theorem q_221_0 : pQ_221 u_221_0 := ⟨_, _, _, (pS_nil), (pV_nil), f_221_0⟩
theorem qb_221_0 : ∀ u ∈ [u_221_0], pQ_221 u := pU_cons q_221_0 (pU_nil)
theorem ok_221 : sInOk pPT i_221 := sInst2 (M := pm_98) (cus := us_221) pOk pg_98 (by decide +kernel) ⟨_, _, _, (pS_cons ok_220 (pS_nil)), (pV_cons (List.mem_of_getElem? (i := 0) rfl) (pV_nil)), e_221⟩ (show ∀ u ∈ us_221, pQ_221 u from qb_221_0)
def pQ_222 (u : sCu) : Prop := ∃ (SM : List sIn) (cu : List sCu) (n : Nat), (∀ I ∈ SM, sInOk pPT I) ∧ (∀ v ∈ cu, v ∈ us_222) ∧ sWkU pPT SM i_222 (mR pm_94) cu n u = true
theorem q_222_0 : pQ_222 u_222_0 := ⟨_, _, _, (pS_cons ok_134 (pS_cons ok_218 (pS_nil))), (pV_cons (List.mem_of_getElem? (i := 1) rfl) (pV_cons (List.mem_of_getElem? (i := 2) rfl) (pV_cons (List.mem_of_getElem? (i := 3) rfl) (pV_cons (List.mem_of_getElem? (i := 4) rfl) (pV_nil))))), f_222_0⟩
theorem q_222_1 : pQ_222 u_222_1 := ⟨_, _, _, (pS_nil), (pV_cons (List.mem_of_getElem? (i := 5) rfl) (pV_nil)), f_222_1⟩
theorem q_222_2 : pQ_222 u_222_2 := ⟨_, _, _, (pS_nil), (pV_cons (List.mem_of_getElem? (i := 6) rfl) (pV_nil)), f_222_2⟩
theorem q_222_3 : pQ_222 u_222_3 := ⟨_, _, _, (pS_nil), (pV_cons (List.mem_of_getElem? (i := 7) rfl) (pV_nil)), f_222_3⟩
theorem q_222_4 : pQ_222 u_222_4 := ⟨_, _, _, (pS_cons ok_87 (pS_nil)), (pV_cons (List.mem_of_getElem? (i := 8) rfl) (pV_nil)), f_222_4⟩
theorem q_222_5 : pQ_222 u_222_5 := ⟨_, _, _, (pS_nil), (pV_nil), f_222_5⟩
theorem q_222_6 : pQ_222 u_222_6 := ⟨_, _, _, (pS_nil), (pV_nil), f_222_6⟩
theorem q_222_7 : pQ_222 u_222_7 := ⟨_, _, _, (pS_cons ok_87 (pS_cons ok_218 (pS_nil))), (pV_cons (List.mem_of_getElem? (i := 1) rfl) (pV_cons (List.mem_of_getElem? (i := 2) rfl) (pV_nil))), f_222_7⟩
theorem q_222_8 : pQ_222 u_222_8 := ⟨_, _, _, (pS_cons ok_134 (pS_cons ok_218 (pS_nil))), (pV_cons (List.mem_of_getElem? (i := 11) rfl) (pV_cons (List.mem_of_getElem? (i := 12) rfl) (pV_cons (List.mem_of_getElem? (i := 13) rfl) (pV_cons (List.mem_of_getElem? (i := 14) rfl) (pV_nil))))), f_222_8⟩
theorem q_222_9 : pQ_222 u_222_9 := ⟨_, _, _, (pS_nil), (pV_cons (List.mem_of_getElem? (i := 5) rfl) (pV_nil)), f_222_9⟩
theorem q_222_10 : pQ_222 u_222_10 := ⟨_, _, _, (pS_nil), (pV_cons (List.mem_of_getElem? (i := 6) rfl) (pV_nil)), f_222_10⟩
theorem q_222_11 : pQ_222 u_222_11 := ⟨_, _, _, (pS_nil), (pV_cons (List.mem_of_getElem? (i := 15) rfl) (pV_nil)), f_222_11⟩
theorem q_222_12 : pQ_222 u_222_12 := ⟨_, _, _, (pS_nil), (pV_cons (List.mem_of_getElem? (i := 16) rfl) (pV_nil)), f_222_12⟩
theorem q_222_13 : pQ_222 u_222_13 := ⟨_, _, _, (pS_nil), (pV_cons (List.mem_of_getElem? (i := 17) rfl) (pV_nil)), f_222_13⟩
theorem q_222_14 : pQ_222 u_222_14 := ⟨_, _, _, (pS_cons ok_87 (pS_nil)), (pV_cons (List.mem_of_getElem? (i := 18) rfl) (pV_nil)), f_222_14⟩
theorem q_222_15 : pQ_222 u_222_15 := ⟨_, _, _, (pS_nil), (pV_cons (List.mem_of_getElem? (i := 19) rfl) (pV_nil)), f_222_15⟩
theorem q_222_16 : pQ_222 u_222_16 := ⟨_, _, _, (pS_nil), (pV_cons (List.mem_of_getElem? (i := 20) rfl) (pV_nil)), f_222_16⟩
theorem q_222_17 : pQ_222 u_222_17 := ⟨_, _, _, (pS_cons ok_87 (pS_cons ok_218 (pS_nil))), (pV_cons (List.mem_of_getElem? (i := 11) rfl) (pV_cons (List.mem_of_getElem? (i := 12) rfl) (pV_nil))), f_222_17⟩
theorem q_222_18 : pQ_222 u_222_18 := ⟨_, _, _, (pS_cons ok_134 (pS_cons ok_218 (pS_nil))), (pV_cons (List.mem_of_getElem? (i := 23) rfl) (pV_cons (List.mem_of_getElem? (i := 24) rfl) (pV_cons (List.mem_of_getElem? (i := 25) rfl) (pV_cons (List.mem_of_getElem? (i := 26) rfl) (pV_nil))))), f_222_18⟩
theorem q_222_19 : pQ_222 u_222_19 := ⟨_, _, _, (pS_nil), (pV_nil), f_222_19⟩
theorem q_222_20 : pQ_222 u_222_20 := ⟨_, _, _, (pS_nil), (pV_nil), f_222_20⟩
theorem q_222_21 : pQ_222 u_222_21 := ⟨_, _, _, (pS_nil), (pV_cons (List.mem_of_getElem? (i := 15) rfl) (pV_nil)), f_222_21⟩
theorem q_222_22 : pQ_222 u_222_22 := ⟨_, _, _, (pS_nil), (pV_cons (List.mem_of_getElem? (i := 16) rfl) (pV_nil)), f_222_22⟩
theorem q_222_23 : pQ_222 u_222_23 := ⟨_, _, _, (pS_nil), (pV_cons (List.mem_of_getElem? (i := 27) rfl) (pV_nil)), f_222_23⟩
theorem q_222_24 : pQ_222 u_222_24 := ⟨_, _, _, (pS_nil), (pV_cons (List.mem_of_getElem? (i := 28) rfl) (pV_nil)), f_222_24⟩
theorem q_222_25 : pQ_222 u_222_25 := ⟨_, _, _, (pS_nil), (pV_cons (List.mem_of_getElem? (i := 29) rfl) (pV_nil)), f_222_25⟩
theorem q_222_26 : pQ_222 u_222_26 := ⟨_, _, _, (pS_cons ok_87 (pS_nil)), (pV_cons (List.mem_of_getElem? (i := 30) rfl) (pV_nil)), f_222_26⟩
theorem q_222_27 : pQ_222 u_222_27 := ⟨_, _, _, (pS_nil), (pV_cons (List.mem_of_getElem? (i := 31) rfl) (pV_nil)), f_222_27⟩
theorem q_222_28 : pQ_222 u_222_28 := ⟨_, _, _, (pS_nil), (pV_cons (List.mem_of_getElem? (i := 32) rfl) (pV_nil)), f_222_28⟩
theorem q_222_29 : pQ_222 u_222_29 := ⟨_, _, _, (pS_cons ok_87 (pS_cons ok_218 (pS_nil))), (pV_cons (List.mem_of_getElem? (i := 23) rfl) (pV_cons (List.mem_of_getElem? (i := 24) rfl) (pV_nil))), f_222_29⟩
theorem q_222_30 : pQ_222 u_222_30 := ⟨_, _, _, (pS_cons ok_134 (pS_cons ok_218 (pS_nil))), (pV_cons (List.mem_of_getElem? (i := 35) rfl) (pV_cons (List.mem_of_getElem? (i := 36) rfl) (pV_cons (List.mem_of_getElem? (i := 37) rfl) (pV_cons (List.mem_of_getElem? (i := 38) rfl) (pV_nil))))), f_222_30⟩
theorem q_222_31 : pQ_222 u_222_31 := ⟨_, _, _, (pS_nil), (pV_cons (List.mem_of_getElem? (i := 39) rfl) (pV_nil)), f_222_31⟩
theorem q_222_32 : pQ_222 u_222_32 := ⟨_, _, _, (pS_nil), (pV_cons (List.mem_of_getElem? (i := 40) rfl) (pV_nil)), f_222_32⟩
theorem q_222_33 : pQ_222 u_222_33 := ⟨_, _, _, (pS_nil), (pV_cons (List.mem_of_getElem? (i := 27) rfl) (pV_nil)), f_222_33⟩
theorem q_222_34 : pQ_222 u_222_34 := ⟨_, _, _, (pS_nil), (pV_cons (List.mem_of_getElem? (i := 28) rfl) (pV_nil)), f_222_34⟩
theorem q_222_35 : pQ_222 u_222_35 := ⟨_, _, _, (pS_nil), (pV_cons (List.mem_of_getElem? (i := 41) rfl) (pV_nil)), f_222_35⟩
theorem q_222_36 : pQ_222 u_222_36 := ⟨_, _, _, (pS_nil), (pV_cons (List.mem_of_getElem? (i := 42) rfl) (pV_nil)), f_222_36⟩
theorem q_222_37 : pQ_222 u_222_37 := ⟨_, _, _, (pS_nil), (pV_cons (List.mem_of_getElem? (i := 43) rfl) (pV_nil)), f_222_37⟩
theorem q_222_38 : pQ_222 u_222_38 := ⟨_, _, _, (pS_cons ok_87 (pS_nil)), (pV_cons (List.mem_of_getElem? (i := 44) rfl) (pV_nil)), f_222_38⟩
theorem q_222_39 : pQ_222 u_222_39 := ⟨_, _, _, (pS_nil), (pV_nil), f_222_39⟩
theorem q_222_40 : pQ_222 u_222_40 := ⟨_, _, _, (pS_nil), (pV_nil), f_222_40⟩
theorem q_222_41 : pQ_222 u_222_41 := ⟨_, _, _, (pS_nil), (pV_cons (List.mem_of_getElem? (i := 45) rfl) (pV_nil)), f_222_41⟩
theorem q_222_42 : pQ_222 u_222_42 := ⟨_, _, _, (pS_nil), (pV_cons (List.mem_of_getElem? (i := 46) rfl) (pV_nil)), f_222_42⟩
theorem q_222_43 : pQ_222 u_222_43 := ⟨_, _, _, (pS_cons ok_87 (pS_cons ok_218 (pS_nil))), (pV_cons (List.mem_of_getElem? (i := 35) rfl) (pV_cons (List.mem_of_getElem? (i := 36) rfl) (pV_nil))), f_222_43⟩
theorem q_222_44 : pQ_222 u_222_44 := ⟨_, _, _, (pS_cons ok_134 (pS_cons ok_218 (pS_nil))), (pV_cons (List.mem_of_getElem? (i := 49) rfl) (pV_cons (List.mem_of_getElem? (i := 50) rfl) (pV_cons (List.mem_of_getElem? (i := 51) rfl) (pV_cons (List.mem_of_getElem? (i := 52) rfl) (pV_nil))))), f_222_44⟩
theorem q_222_45 : pQ_222 u_222_45 := ⟨_, _, _, (pS_nil), (pV_cons (List.mem_of_getElem? (i := 53) rfl) (pV_nil)), f_222_45⟩
theorem q_222_46 : pQ_222 u_222_46 := ⟨_, _, _, (pS_nil), (pV_cons (List.mem_of_getElem? (i := 54) rfl) (pV_nil)), f_222_46⟩
theorem q_222_47 : pQ_222 u_222_47 := ⟨_, _, _, (pS_nil), (pV_cons (List.mem_of_getElem? (i := 41) rfl) (pV_nil)), f_222_47⟩
theorem q_222_48 : pQ_222 u_222_48 := ⟨_, _, _, (pS_nil), (pV_cons (List.mem_of_getElem? (i := 42) rfl) (pV_nil)), f_222_48⟩
theorem q_222_49 : pQ_222 u_222_49 := ⟨_, _, _, (pS_nil), (pV_cons (List.mem_of_getElem? (i := 55) rfl) (pV_nil)), f_222_49⟩
theorem q_222_50 : pQ_222 u_222_50 := ⟨_, _, _, (pS_nil), (pV_cons (List.mem_of_getElem? (i := 56) rfl) (pV_nil)), f_222_50⟩
theorem q_222_51 : pQ_222 u_222_51 := ⟨_, _, _, (pS_nil), (pV_cons (List.mem_of_getElem? (i := 57) rfl) (pV_nil)), f_222_51⟩
theorem q_222_52 : pQ_222 u_222_52 := ⟨_, _, _, (pS_cons ok_87 (pS_nil)), (pV_cons (List.mem_of_getElem? (i := 58) rfl) (pV_nil)), f_222_52⟩
theorem q_222_53 : pQ_222 u_222_53 := ⟨_, _, _, (pS_nil), (pV_cons (List.mem_of_getElem? (i := 59) rfl) (pV_nil)), f_222_53⟩
theorem q_222_54 : pQ_222 u_222_54 := ⟨_, _, _, (pS_nil), (pV_cons (List.mem_of_getElem? (i := 60) rfl) (pV_nil)), f_222_54⟩
theorem q_222_55 : pQ_222 u_222_55 := ⟨_, _, _, (pS_nil), (pV_cons (List.mem_of_getElem? (i := 61) rfl) (pV_nil)), f_222_55⟩
theorem q_222_56 : pQ_222 u_222_56 := ⟨_, _, _, (pS_nil), (pV_cons (List.mem_of_getElem? (i := 62) rfl) (pV_nil)), f_222_56⟩
theorem q_222_57 : pQ_222 u_222_57 := ⟨_, _, _, (pS_cons ok_87 (pS_cons ok_218 (pS_nil))), (pV_cons (List.mem_of_getElem? (i := 49) rfl) (pV_cons (List.mem_of_getElem? (i := 50) rfl) (pV_nil))), f_222_57⟩
theorem q_222_58 : pQ_222 u_222_58 := ⟨_, _, _, (pS_cons ok_134 (pS_cons ok_218 (pS_nil))), (pV_cons (List.mem_of_getElem? (i := 65) rfl) (pV_cons (List.mem_of_getElem? (i := 66) rfl) (pV_cons (List.mem_of_getElem? (i := 67) rfl) (pV_cons (List.mem_of_getElem? (i := 68) rfl) (pV_nil))))), f_222_58⟩
theorem q_222_59 : pQ_222 u_222_59 := ⟨_, _, _, (pS_nil), (pV_nil), f_222_59⟩
theorem q_222_60 : pQ_222 u_222_60 := ⟨_, _, _, (pS_nil), (pV_nil), f_222_60⟩
theorem q_222_61 : pQ_222 u_222_61 := ⟨_, _, _, (pS_nil), (pV_cons (List.mem_of_getElem? (i := 69) rfl) (pV_nil)), f_222_61⟩
theorem q_222_62 : pQ_222 u_222_62 := ⟨_, _, _, (pS_nil), (pV_cons (List.mem_of_getElem? (i := 70) rfl) (pV_nil)), f_222_62⟩
theorem q_222_63 : pQ_222 u_222_63 := ⟨_, _, _, (pS_nil), (pV_cons (List.mem_of_getElem? (i := 55) rfl) (pV_nil)), f_222_63⟩
theorem q_222_64 : pQ_222 u_222_64 := ⟨_, _, _, (pS_nil), (pV_cons (List.mem_of_getElem? (i := 56) rfl) (pV_nil)), f_222_64⟩
theorem q_222_65 : pQ_222 u_222_65 := ⟨_, _, _, (pS_nil), (pV_cons (List.mem_of_getElem? (i := 71) rfl) (pV_nil)), f_222_65⟩
theorem q_222_66 : pQ_222 u_222_66 := ⟨_, _, _, (pS_nil), (pV_cons (List.mem_of_getElem? (i := 72) rfl) (pV_nil)), f_222_66⟩
theorem q_222_67 : pQ_222 u_222_67 := ⟨_, _, _, (pS_nil), (pV_cons (List.mem_of_getElem? (i := 73) rfl) (pV_nil)), f_222_67⟩
theorem q_222_68 : pQ_222 u_222_68 := ⟨_, _, _, (pS_cons ok_87 (pS_nil)), (pV_cons (List.mem_of_getElem? (i := 74) rfl) (pV_nil)), f_222_68⟩
theorem q_222_69 : pQ_222 u_222_69 := ⟨_, _, _, (pS_nil), (pV_cons (List.mem_of_getElem? (i := 75) rfl) (pV_nil)), f_222_69⟩
theorem q_222_70 : pQ_222 u_222_70 := ⟨_, _, _, (pS_nil), (pV_cons (List.mem_of_getElem? (i := 76) rfl) (pV_nil)), f_222_70⟩
theorem q_222_71 : pQ_222 u_222_71 := ⟨_, _, _, (pS_nil), (pV_cons (List.mem_of_getElem? (i := 77) rfl) (pV_nil)), f_222_71⟩
theorem q_222_72 : pQ_222 u_222_72 := ⟨_, _, _, (pS_nil), (pV_cons (List.mem_of_getElem? (i := 78) rfl) (pV_nil)), f_222_72⟩
theorem q_222_73 : pQ_222 u_222_73 := ⟨_, _, _, (pS_cons ok_87 (pS_cons ok_218 (pS_nil))), (pV_cons (List.mem_of_getElem? (i := 65) rfl) (pV_cons (List.mem_of_getElem? (i := 66) rfl) (pV_nil))), f_222_73⟩
theorem q_222_74 : pQ_222 u_222_74 := ⟨_, _, _, (pS_cons ok_134 (pS_cons ok_218 (pS_nil))), (pV_cons (List.mem_of_getElem? (i := 81) rfl) (pV_cons (List.mem_of_getElem? (i := 82) rfl) (pV_cons (List.mem_of_getElem? (i := 83) rfl) (pV_cons (List.mem_of_getElem? (i := 84) rfl) (pV_nil))))), f_222_74⟩
theorem q_222_75 : pQ_222 u_222_75 := ⟨_, _, _, (pS_nil), (pV_cons (List.mem_of_getElem? (i := 85) rfl) (pV_nil)), f_222_75⟩
theorem q_222_76 : pQ_222 u_222_76 := ⟨_, _, _, (pS_nil), (pV_cons (List.mem_of_getElem? (i := 86) rfl) (pV_nil)), f_222_76⟩
theorem q_222_77 : pQ_222 u_222_77 := ⟨_, _, _, (pS_nil), (pV_cons (List.mem_of_getElem? (i := 87) rfl) (pV_nil)), f_222_77⟩
theorem q_222_78 : pQ_222 u_222_78 := ⟨_, _, _, (pS_nil), (pV_cons (List.mem_of_getElem? (i := 88) rfl) (pV_nil)), f_222_78⟩
theorem q_222_79 : pQ_222 u_222_79 := ⟨_, _, _, (pS_nil), (pV_cons (List.mem_of_getElem? (i := 71) rfl) (pV_nil)), f_222_79⟩
theorem q_222_80 : pQ_222 u_222_80 := ⟨_, _, _, (pS_nil), (pV_cons (List.mem_of_getElem? (i := 72) rfl) (pV_nil)), f_222_80⟩
theorem q_222_81 : pQ_222 u_222_81 := ⟨_, _, _, (pS_nil), (pV_cons (List.mem_of_getElem? (i := 89) rfl) (pV_nil)), f_222_81⟩
theorem q_222_82 : pQ_222 u_222_82 := ⟨_, _, _, (pS_nil), (pV_cons (List.mem_of_getElem? (i := 90) rfl) (pV_nil)), f_222_82⟩
theorem q_222_83 : pQ_222 u_222_83 := ⟨_, _, _, (pS_nil), (pV_cons (List.mem_of_getElem? (i := 91) rfl) (pV_nil)), f_222_83⟩
theorem q_222_84 : pQ_222 u_222_84 := ⟨_, _, _, (pS_nil), (pV_cons (List.mem_of_getElem? (i := 92) rfl) (pV_nil)), f_222_84⟩
theorem q_222_85 : pQ_222 u_222_85 := ⟨_, _, _, (pS_nil), (pV_nil), f_222_85⟩
theorem q_222_86 : pQ_222 u_222_86 := ⟨_, _, _, (pS_nil), (pV_nil), f_222_86⟩
theorem q_222_87 : pQ_222 u_222_87 := ⟨_, _, _, (pS_nil), (pV_cons (List.mem_of_getElem? (i := 93) rfl) (pV_nil)), f_222_87⟩
theorem q_222_88 : pQ_222 u_222_88 := ⟨_, _, _, (pS_nil), (pV_cons (List.mem_of_getElem? (i := 94) rfl) (pV_nil)), f_222_88⟩
theorem q_222_89 : pQ_222 u_222_89 := ⟨_, _, _, (pS_nil), (pV_cons (List.mem_of_getElem? (i := 95) rfl) (pV_nil)), f_222_89⟩
theorem q_222_90 : pQ_222 u_222_90 := ⟨_, _, _, (pS_nil), (pV_cons (List.mem_of_getElem? (i := 96) rfl) (pV_nil)), f_222_90⟩
theorem q_222_91 : pQ_222 u_222_91 := ⟨_, _, _, (pS_cons ok_87 (pS_cons ok_218 (pS_nil))), (pV_cons (List.mem_of_getElem? (i := 81) rfl) (pV_cons (List.mem_of_getElem? (i := 82) rfl) (pV_nil))), f_222_91⟩
theorem q_222_92 : pQ_222 u_222_92 := ⟨_, _, _, (pS_cons ok_135 (pS_cons ok_221 (pS_nil))), (pV_cons (List.mem_of_getElem? (i := 99) rfl) (pV_nil)), f_222_92⟩
theorem q_222_93 : pQ_222 u_222_93 := ⟨_, _, _, (pS_nil), (pV_cons (List.mem_of_getElem? (i := 100) rfl) (pV_nil)), f_222_93⟩
theorem q_222_94 : pQ_222 u_222_94 := ⟨_, _, _, (pS_nil), (pV_cons (List.mem_of_getElem? (i := 101) rfl) (pV_nil)), f_222_94⟩
theorem q_222_95 : pQ_222 u_222_95 := ⟨_, _, _, (pS_nil), (pV_cons (List.mem_of_getElem? (i := 102) rfl) (pV_nil)), f_222_95⟩
theorem q_222_96 : pQ_222 u_222_96 := ⟨_, _, _, (pS_nil), (pV_cons (List.mem_of_getElem? (i := 103) rfl) (pV_nil)), f_222_96⟩
theorem q_222_97 : pQ_222 u_222_97 := ⟨_, _, _, (pS_nil), (pV_cons (List.mem_of_getElem? (i := 89) rfl) (pV_nil)), f_222_97⟩
theorem q_222_98 : pQ_222 u_222_98 := ⟨_, _, _, (pS_nil), (pV_cons (List.mem_of_getElem? (i := 90) rfl) (pV_nil)), f_222_98⟩
theorem q_222_99 : pQ_222 u_222_99 := ⟨_, _, _, (pS_nil), (pV_cons (List.mem_of_getElem? (i := 104) rfl) (pV_nil)), f_222_99⟩
theorem q_222_100 : pQ_222 u_222_100 := ⟨_, _, _, (pS_nil), (pV_cons (List.mem_of_getElem? (i := 105) rfl) (pV_nil)), f_222_100⟩
theorem q_222_101 : pQ_222 u_222_101 := ⟨_, _, _, (pS_nil), (pV_cons (List.mem_of_getElem? (i := 106) rfl) (pV_nil)), f_222_101⟩
theorem q_222_102 : pQ_222 u_222_102 := ⟨_, _, _, (pS_nil), (pV_cons (List.mem_of_getElem? (i := 107) rfl) (pV_nil)), f_222_102⟩
theorem q_222_103 : pQ_222 u_222_103 := ⟨_, _, _, (pS_nil), (pV_cons (List.mem_of_getElem? (i := 108) rfl) (pV_nil)), f_222_103⟩
theorem q_222_104 : pQ_222 u_222_104 := ⟨_, _, _, (pS_nil), (pV_cons (List.mem_of_getElem? (i := 109) rfl) (pV_nil)), f_222_104⟩
theorem q_222_105 : pQ_222 u_222_105 := ⟨_, _, _, (pS_nil), (pV_nil), f_222_105⟩
theorem q_222_106 : pQ_222 u_222_106 := ⟨_, _, _, (pS_nil), (pV_nil), f_222_106⟩
theorem q_222_107 : pQ_222 u_222_107 := ⟨_, _, _, (pS_nil), (pV_cons (List.mem_of_getElem? (i := 110) rfl) (pV_nil)), f_222_107⟩
theorem q_222_108 : pQ_222 u_222_108 := ⟨_, _, _, (pS_nil), (pV_cons (List.mem_of_getElem? (i := 111) rfl) (pV_nil)), f_222_108⟩
theorem q_222_109 : pQ_222 u_222_109 := ⟨_, _, _, (pS_nil), (pV_cons (List.mem_of_getElem? (i := 112) rfl) (pV_nil)), f_222_109⟩
theorem q_222_110 : pQ_222 u_222_110 := ⟨_, _, _, (pS_nil), (pV_cons (List.mem_of_getElem? (i := 113) rfl) (pV_nil)), f_222_110⟩
theorem q_222_111 : pQ_222 u_222_111 := ⟨_, _, _, (pS_nil), (pV_cons (List.mem_of_getElem? (i := 114) rfl) (pV_nil)), f_222_111⟩
theorem q_222_112 : pQ_222 u_222_112 := ⟨_, _, _, (pS_nil), (pV_cons (List.mem_of_getElem? (i := 115) rfl) (pV_nil)), f_222_112⟩
theorem q_222_113 : pQ_222 u_222_113 := ⟨_, _, _, (pS_nil), (pV_cons (List.mem_of_getElem? (i := 116) rfl) (pV_nil)), f_222_113⟩
theorem q_222_114 : pQ_222 u_222_114 := ⟨_, _, _, (pS_nil), (pV_cons (List.mem_of_getElem? (i := 117) rfl) (pV_nil)), f_222_114⟩
theorem q_222_115 : pQ_222 u_222_115 := ⟨_, _, _, (pS_nil), (pV_cons (List.mem_of_getElem? (i := 118) rfl) (pV_nil)), f_222_115⟩
theorem q_222_116 : pQ_222 u_222_116 := ⟨_, _, _, (pS_nil), (pV_nil), f_222_116⟩
theorem q_222_117 : pQ_222 u_222_117 := ⟨_, _, _, (pS_nil), (pV_nil), f_222_117⟩
theorem q_222_118 : pQ_222 u_222_118 := ⟨_, _, _, (pS_nil), (pV_cons (List.mem_of_getElem? (i := 119) rfl) (pV_nil)), f_222_118⟩
theorem q_222_119 : pQ_222 u_222_119 := ⟨_, _, _, (pS_nil), (pV_cons (List.mem_of_getElem? (i := 120) rfl) (pV_nil)), f_222_119⟩
theorem q_222_120 : pQ_222 u_222_120 := ⟨_, _, _, (pS_nil), (pV_cons (List.mem_of_getElem? (i := 121) rfl) (pV_nil)), f_222_120⟩
theorem q_222_121 : pQ_222 u_222_121 := ⟨_, _, _, (pS_nil), (pV_nil), f_222_121⟩
theorem qb_222_0 : ∀ u ∈ [u_222_0, u_222_1, u_222_2, u_222_3, u_222_4, u_222_5, u_222_6, u_222_7, u_222_8, u_222_9], pQ_222 u := pU_cons q_222_0 (pU_cons q_222_1 (pU_cons q_222_2 (pU_cons q_222_3 (pU_cons q_222_4 (pU_cons q_222_5 (pU_cons q_222_6 (pU_cons q_222_7 (pU_cons q_222_8 (pU_cons q_222_9 (pU_nil))))))))))
theorem qb_222_1 : ∀ u ∈ [u_222_10, u_222_11, u_222_12, u_222_13, u_222_14, u_222_15, u_222_16, u_222_17, u_222_18, u_222_19], pQ_222 u := pU_cons q_222_10 (pU_cons q_222_11 (pU_cons q_222_12 (pU_cons q_222_13 (pU_cons q_222_14 (pU_cons q_222_15 (pU_cons q_222_16 (pU_cons q_222_17 (pU_cons q_222_18 (pU_cons q_222_19 (pU_nil))))))))))
theorem qb_222_2 : ∀ u ∈ [u_222_20, u_222_21, u_222_22, u_222_23, u_222_24, u_222_25, u_222_26, u_222_27, u_222_28, u_222_29], pQ_222 u := pU_cons q_222_20 (pU_cons q_222_21 (pU_cons q_222_22 (pU_cons q_222_23 (pU_cons q_222_24 (pU_cons q_222_25 (pU_cons q_222_26 (pU_cons q_222_27 (pU_cons q_222_28 (pU_cons q_222_29 (pU_nil))))))))))
theorem qb_222_3 : ∀ u ∈ [u_222_30, u_222_31, u_222_32, u_222_33, u_222_34, u_222_35, u_222_36, u_222_37, u_222_38, u_222_39], pQ_222 u := pU_cons q_222_30 (pU_cons q_222_31 (pU_cons q_222_32 (pU_cons q_222_33 (pU_cons q_222_34 (pU_cons q_222_35 (pU_cons q_222_36 (pU_cons q_222_37 (pU_cons q_222_38 (pU_cons q_222_39 (pU_nil))))))))))
theorem qb_222_4 : ∀ u ∈ [u_222_40, u_222_41, u_222_42, u_222_43, u_222_44, u_222_45, u_222_46, u_222_47, u_222_48, u_222_49], pQ_222 u := pU_cons q_222_40 (pU_cons q_222_41 (pU_cons q_222_42 (pU_cons q_222_43 (pU_cons q_222_44 (pU_cons q_222_45 (pU_cons q_222_46 (pU_cons q_222_47 (pU_cons q_222_48 (pU_cons q_222_49 (pU_nil))))))))))
theorem qb_222_5 : ∀ u ∈ [u_222_50, u_222_51, u_222_52, u_222_53, u_222_54, u_222_55, u_222_56, u_222_57, u_222_58, u_222_59], pQ_222 u := pU_cons q_222_50 (pU_cons q_222_51 (pU_cons q_222_52 (pU_cons q_222_53 (pU_cons q_222_54 (pU_cons q_222_55 (pU_cons q_222_56 (pU_cons q_222_57 (pU_cons q_222_58 (pU_cons q_222_59 (pU_nil))))))))))
theorem qb_222_6 : ∀ u ∈ [u_222_60, u_222_61, u_222_62, u_222_63, u_222_64, u_222_65, u_222_66, u_222_67, u_222_68, u_222_69], pQ_222 u := pU_cons q_222_60 (pU_cons q_222_61 (pU_cons q_222_62 (pU_cons q_222_63 (pU_cons q_222_64 (pU_cons q_222_65 (pU_cons q_222_66 (pU_cons q_222_67 (pU_cons q_222_68 (pU_cons q_222_69 (pU_nil))))))))))
theorem qb_222_7 : ∀ u ∈ [u_222_70, u_222_71, u_222_72, u_222_73, u_222_74, u_222_75, u_222_76, u_222_77, u_222_78, u_222_79], pQ_222 u := pU_cons q_222_70 (pU_cons q_222_71 (pU_cons q_222_72 (pU_cons q_222_73 (pU_cons q_222_74 (pU_cons q_222_75 (pU_cons q_222_76 (pU_cons q_222_77 (pU_cons q_222_78 (pU_cons q_222_79 (pU_nil))))))))))
theorem qb_222_8 : ∀ u ∈ [u_222_80, u_222_81, u_222_82, u_222_83, u_222_84, u_222_85, u_222_86, u_222_87, u_222_88, u_222_89], pQ_222 u := pU_cons q_222_80 (pU_cons q_222_81 (pU_cons q_222_82 (pU_cons q_222_83 (pU_cons q_222_84 (pU_cons q_222_85 (pU_cons q_222_86 (pU_cons q_222_87 (pU_cons q_222_88 (pU_cons q_222_89 (pU_nil))))))))))
theorem qb_222_9 : ∀ u ∈ [u_222_90, u_222_91, u_222_92, u_222_93, u_222_94, u_222_95, u_222_96, u_222_97, u_222_98, u_222_99], pQ_222 u := pU_cons q_222_90 (pU_cons q_222_91 (pU_cons q_222_92 (pU_cons q_222_93 (pU_cons q_222_94 (pU_cons q_222_95 (pU_cons q_222_96 (pU_cons q_222_97 (pU_cons q_222_98 (pU_cons q_222_99 (pU_nil))))))))))
theorem qb_222_10 : ∀ u ∈ [u_222_100, u_222_101, u_222_102, u_222_103, u_222_104, u_222_105, u_222_106, u_222_107, u_222_108, u_222_109], pQ_222 u := pU_cons q_222_100 (pU_cons q_222_101 (pU_cons q_222_102 (pU_cons q_222_103 (pU_cons q_222_104 (pU_cons q_222_105 (pU_cons q_222_106 (pU_cons q_222_107 (pU_cons q_222_108 (pU_cons q_222_109 (pU_nil))))))))))
theorem qb_222_11 : ∀ u ∈ [u_222_110, u_222_111, u_222_112, u_222_113, u_222_114, u_222_115, u_222_116, u_222_117, u_222_118, u_222_119], pQ_222 u := pU_cons q_222_110 (pU_cons q_222_111 (pU_cons q_222_112 (pU_cons q_222_113 (pU_cons q_222_114 (pU_cons q_222_115 (pU_cons q_222_116 (pU_cons q_222_117 (pU_cons q_222_118 (pU_cons q_222_119 (pU_nil))))))))))
theorem qb_222_12 : ∀ u ∈ [u_222_120, u_222_121], pQ_222 u := pU_cons q_222_120 (pU_cons q_222_121 (pU_nil))
theorem ok_222 : sInOk pPT i_222 := sInst2 (M := pm_94) (cus := us_222) pOk pg_94 (by decide +kernel) ⟨_, _, _, (pS_nil), (pV_cons (List.mem_of_getElem? (i := 0) rfl) (pV_nil)), e_222⟩ (show ∀ u ∈ us_222, pQ_222 u from (pU_app qb_222_0 (pU_app qb_222_1 (pU_app qb_222_2 (pU_app qb_222_3 (pU_app qb_222_4 (pU_app qb_222_5 (pU_app qb_222_6 (pU_app qb_222_7 (pU_app qb_222_8 (pU_app qb_222_9 (pU_app qb_222_10 (pU_app qb_222_11 qb_222_12)))))))))))))
def pQ_223 (u : sCu) : Prop := ∃ (SM : List sIn) (cu : List sCu) (n : Nat), (∀ I ∈ SM, sInOk pPT I) ∧ (∀ v ∈ cu, v ∈ us_223) ∧ sWkU pPT SM i_223 (mR pm_91) cu n u = true
theorem q_223_0 : pQ_223 u_223_0 := ⟨_, _, _, (pS_cons ok_133 (pS_nil)), (pV_nil), f_223_0⟩
theorem q_223_1 : pQ_223 u_223_1 := ⟨_, _, _, (pS_cons ok_87 (pS_cons ok_132 (pS_cons ok_222 (pS_nil)))), (pV_cons (List.mem_of_getElem? (i := 0) rfl) (pV_cons (List.mem_of_getElem? (i := 1) rfl) (pV_nil))), f_223_1⟩
theorem qb_223_0 : ∀ u ∈ [u_223_0, u_223_1], pQ_223 u := pU_cons q_223_0 (pU_cons q_223_1 (pU_nil))
theorem ok_223 : sInOk pPT i_223 := sInst2 (M := pm_91) (cus := us_223) pOk pg_91 (by decide +kernel) ⟨_, _, _, (pS_cons ok_222 (pS_nil)), (pV_cons (List.mem_of_getElem? (i := 0) rfl) (pV_cons (List.mem_of_getElem? (i := 1) rfl) (pV_nil))), e_223⟩ (show ∀ u ∈ us_223, pQ_223 u from qb_223_0)
def pQ_224 (u : sCu) : Prop := ∃ (SM : List sIn) (cu : List sCu) (n : Nat), (∀ I ∈ SM, sInOk pPT I) ∧ (∀ v ∈ cu, v ∈ us_224) ∧ sWkU pPT SM i_224 (mR pm_94) cu n u = true
theorem q_224_0 : pQ_224 u_224_0 := ⟨_, _, _, (pS_cons ok_135 (pS_cons ok_221 (pS_nil))), (pV_cons (List.mem_of_getElem? (i := 1) rfl) (pV_nil)), f_224_0⟩
theorem q_224_1 : pQ_224 u_224_1 := ⟨_, _, _, (pS_nil), (pV_cons (List.mem_of_getElem? (i := 2) rfl) (pV_nil)), f_224_1⟩
theorem q_224_2 : pQ_224 u_224_2 := ⟨_, _, _, (pS_nil), (pV_nil), f_224_2⟩
theorem qb_224_0 : ∀ u ∈ [u_224_0, u_224_1, u_224_2], pQ_224 u := pU_cons q_224_0 (pU_cons q_224_1 (pU_cons q_224_2 (pU_nil)))
theorem ok_224 : sInOk pPT i_224 := sInst2 (M := pm_94) (cus := us_224) pOk pg_94 (by decide +kernel) ⟨_, _, _, (pS_nil), (pV_cons (List.mem_of_getElem? (i := 0) rfl) (pV_nil)), e_224⟩ (show ∀ u ∈ us_224, pQ_224 u from qb_224_0)
def pQ_225 (u : sCu) : Prop := ∃ (SM : List sIn) (cu : List sCu) (n : Nat), (∀ I ∈ SM, sInOk pPT I) ∧ (∀ v ∈ cu, v ∈ us_225) ∧ sWkU pPT SM i_225 (mR pm_91) cu n u = true
theorem q_225_0 : pQ_225 u_225_0 := ⟨_, _, _, (pS_cons ok_133 (pS_nil)), (pV_nil), f_225_0⟩
theorem qb_225_0 : ∀ u ∈ [u_225_0], pQ_225 u := pU_cons q_225_0 (pU_nil)
theorem ok_225 : sInOk pPT i_225 := sInst2 (M := pm_91) (cus := us_225) pOk pg_91 (by decide +kernel) ⟨_, _, _, (pS_cons ok_224 (pS_nil)), (pV_cons (List.mem_of_getElem? (i := 0) rfl) (pV_nil)), e_225⟩ (show ∀ u ∈ us_225, pQ_225 u from qb_225_0)
def pQ_226 (u : sCu) : Prop := ∃ (SM : List sIn) (cu : List sCu) (n : Nat), (∀ I ∈ SM, sInOk pPT I) ∧ (∀ v ∈ cu, v ∈ us_226) ∧ sWkU pPT SM i_226 (mR pm_92) cu n u = true
theorem q_226_0 : pQ_226 u_226_0 := ⟨_, _, _, (pS_nil), (pV_cons (List.mem_of_getElem? (i := 1) rfl) (pV_nil)), f_226_0⟩
theorem q_226_1 : pQ_226 u_226_1 := ⟨_, _, _, (pS_nil), (pV_cons (List.mem_of_getElem? (i := 2) rfl) (pV_cons (List.mem_of_getElem? (i := 3) rfl) (pV_nil))), f_226_1⟩
theorem q_226_2 : pQ_226 u_226_2 := ⟨_, _, _, (pS_cons ok_223 (pS_nil)), (pV_cons (List.mem_of_getElem? (i := 4) rfl) (pV_cons (List.mem_of_getElem? (i := 5) rfl) (pV_nil))), f_226_2⟩
theorem q_226_3 : pQ_226 u_226_3 := ⟨_, _, _, (pS_cons ok_225 (pS_nil)), (pV_cons (List.mem_of_getElem? (i := 4) rfl) (pV_nil)), f_226_3⟩
theorem q_226_4 : pQ_226 u_226_4 := ⟨_, _, _, (pS_cons ok_131 (pS_nil)), (pV_nil), f_226_4⟩
theorem q_226_5 : pQ_226 u_226_5 := ⟨_, _, _, (pS_cons ok_87 (pS_cons ok_130 (pS_cons ok_223 (pS_nil)))), (pV_cons (List.mem_of_getElem? (i := 4) rfl) (pV_cons (List.mem_of_getElem? (i := 5) rfl) (pV_nil))), f_226_5⟩
theorem qb_226_0 : ∀ u ∈ [u_226_0, u_226_1, u_226_2, u_226_3, u_226_4, u_226_5], pQ_226 u := pU_cons q_226_0 (pU_cons q_226_1 (pU_cons q_226_2 (pU_cons q_226_3 (pU_cons q_226_4 (pU_cons q_226_5 (pU_nil))))))
theorem ok_226 : sInOk pPT i_226 := sInst2 (M := pm_92) (cus := us_226) pOk pg_92 (by decide +kernel) ⟨_, _, _, (pS_nil), (pV_cons (List.mem_of_getElem? (i := 0) rfl) (pV_cons (List.mem_of_getElem? (i := 1) rfl) (pV_nil))), e_226⟩ (show ∀ u ∈ us_226, pQ_226 u from qb_226_0)
def pQ_227 (u : sCu) : Prop := ∃ (SM : List sIn) (cu : List sCu) (n : Nat), (∀ I ∈ SM, sInOk pPT I) ∧ (∀ v ∈ cu, v ∈ us_227) ∧ sWkU pPT SM i_227 (mR pm_93) cu n u = true
theorem q_227_0 : pQ_227 u_227_0 := ⟨_, _, _, (pS_cons ok_129 (pS_nil)), (pV_nil), f_227_0⟩
theorem q_227_1 : pQ_227 u_227_1 := ⟨_, _, _, (pS_cons ok_128 (pS_nil)), (pV_nil), f_227_1⟩
theorem q_227_2 : pQ_227 u_227_2 := ⟨_, _, _, (pS_cons ok_87 (pS_nil)), (pV_cons (List.mem_of_getElem? (i := 3) rfl) (pV_nil)), f_227_2⟩
theorem q_227_3 : pQ_227 u_227_3 := ⟨_, _, _, (pS_cons ok_128 (pS_cons ok_129 (pS_cons ok_226 (pS_nil)))), (pV_nil), f_227_3⟩
theorem qb_227_0 : ∀ u ∈ [u_227_0, u_227_1, u_227_2, u_227_3], pQ_227 u := pU_cons q_227_0 (pU_cons q_227_1 (pU_cons q_227_2 (pU_cons q_227_3 (pU_nil))))
theorem ok_227 : sInOk pPT i_227 := sInst2 (M := pm_93) (cus := us_227) pOk pg_93 (by decide +kernel) ⟨_, _, _, (pS_cons ok_106 (pS_cons ok_109 (pS_cons ok_113 (pS_cons ok_117 (pS_cons ok_123 (pS_cons ok_124 (pS_cons ok_125 (pS_cons ok_126 (pS_cons ok_127 (pS_nil)))))))))), (pV_cons (List.mem_of_getElem? (i := 0) rfl) (pV_cons (List.mem_of_getElem? (i := 1) rfl) (pV_cons (List.mem_of_getElem? (i := 2) rfl) (pV_nil)))), e_227⟩ (show ∀ u ∈ us_227, pQ_227 u from qb_227_0)
theorem ok_228 : sInOk pPT i_228 := sInst2 (M := pm_92) (cus := []) pOk pg_92 (by decide +kernel) ⟨_, _, _, (pS_nil), pV_nil, e_228⟩ pU_nil
def pQ_229 (u : sCu) : Prop := ∃ (SM : List sIn) (cu : List sCu) (n : Nat), (∀ I ∈ SM, sInOk pPT I) ∧ (∀ v ∈ cu, v ∈ us_229) ∧ sWkU pPT SM i_229 (mR pm_93) cu n u = true
theorem q_229_0 : pQ_229 u_229_0 := ⟨_, _, _, (pS_cons ok_129 (pS_nil)), (pV_nil), f_229_0⟩
theorem q_229_1 : pQ_229 u_229_1 := ⟨_, _, _, (pS_cons ok_128 (pS_nil)), (pV_nil), f_229_1⟩
theorem q_229_2 : pQ_229 u_229_2 := ⟨_, _, _, (pS_nil), (pV_cons (List.mem_of_getElem? (i := 3) rfl) (pV_nil)), f_229_2⟩
theorem q_229_3 : pQ_229 u_229_3 := ⟨_, _, _, (pS_cons ok_129 (pS_cons ok_228 (pS_nil))), (pV_nil), f_229_3⟩
theorem qb_229_0 : ∀ u ∈ [u_229_0, u_229_1, u_229_2, u_229_3], pQ_229 u := pU_cons q_229_0 (pU_cons q_229_1 (pU_cons q_229_2 (pU_cons q_229_3 (pU_nil))))
theorem ok_229 : sInOk pPT i_229 := sInst2 (M := pm_93) (cus := us_229) pOk pg_93 (by decide +kernel) ⟨_, _, _, (pS_cons ok_106 (pS_cons ok_109 (pS_cons ok_113 (pS_cons ok_117 (pS_cons ok_123 (pS_cons ok_124 (pS_cons ok_125 (pS_cons ok_126 (pS_cons ok_127 (pS_nil)))))))))), (pV_cons (List.mem_of_getElem? (i := 0) rfl) (pV_cons (List.mem_of_getElem? (i := 1) rfl) (pV_cons (List.mem_of_getElem? (i := 2) rfl) (pV_nil)))), e_229⟩ (show ∀ u ∈ us_229, pQ_229 u from qb_229_0)
def pQ_230 (u : sCu) : Prop := ∃ (SM : List sIn) (cu : List sCu) (n : Nat), (∀ I ∈ SM, sInOk pPT I) ∧ (∀ v ∈ cu, v ∈ us_230) ∧ sWkU pPT SM i_230 (mR pm_85) cu n u = true
theorem q_230_0 : pQ_230 u_230_0 := ⟨_, _, _, (pS_nil), (pV_nil), f_230_0⟩
theorem q_230_1 : pQ_230 u_230_1 := ⟨_, _, _, (pS_nil), (pV_cons (List.mem_of_getElem? (i := 3) rfl) (pV_nil)), f_230_1⟩
theorem q_230_2 : pQ_230 u_230_2 := ⟨_, _, _, (pS_nil), (pV_nil), f_230_2⟩
theorem q_230_3 : pQ_230 u_230_3 := ⟨_, _, _, (pS_nil), (pV_cons (List.mem_of_getElem? (i := 4) rfl) (pV_nil)), f_230_3⟩
theorem q_230_4 : pQ_230 u_230_4 := ⟨_, _, _, (pS_nil), (pV_cons (List.mem_of_getElem? (i := 5) rfl) (pV_nil)), f_230_4⟩
theorem q_230_5 : pQ_230 u_230_5 := ⟨_, _, _, (pS_nil), (pV_cons (List.mem_of_getElem? (i := 6) rfl) (pV_nil)), f_230_5⟩
theorem q_230_6 : pQ_230 u_230_6 := ⟨_, _, _, (pS_nil), (pV_cons (List.mem_of_getElem? (i := 7) rfl) (pV_nil)), f_230_6⟩
theorem q_230_7 : pQ_230 u_230_7 := ⟨_, _, _, (pS_nil), (pV_cons (List.mem_of_getElem? (i := 8) rfl) (pV_nil)), f_230_7⟩
theorem q_230_8 : pQ_230 u_230_8 := ⟨_, _, _, (pS_nil), (pV_cons (List.mem_of_getElem? (i := 9) rfl) (pV_nil)), f_230_8⟩
theorem q_230_9 : pQ_230 u_230_9 := ⟨_, _, _, (pS_cons ok_87 (pS_nil)), (pV_cons (List.mem_of_getElem? (i := 10) rfl) (pV_nil)), f_230_9⟩
theorem q_230_10 : pQ_230 u_230_10 := ⟨_, _, _, (pS_cons ok_227 (pS_nil)), (pV_cons (List.mem_of_getElem? (i := 11) rfl) (pV_cons (List.mem_of_getElem? (i := 12) rfl) (pV_cons (List.mem_of_getElem? (i := 10) rfl) (pV_cons (List.mem_of_getElem? (i := 13) rfl) (pV_cons (List.mem_of_getElem? (i := 14) rfl) (pV_nil)))))), f_230_10⟩
theorem q_230_11 : pQ_230 u_230_11 := ⟨_, _, _, (pS_cons ok_100 (pS_nil)), (pV_nil), f_230_11⟩
theorem q_230_12 : pQ_230 u_230_12 := ⟨_, _, _, (pS_nil), (pV_cons (List.mem_of_getElem? (i := 15) rfl) (pV_nil)), f_230_12⟩
theorem q_230_13 : pQ_230 u_230_13 := ⟨_, _, _, (pS_nil), (pV_cons (List.mem_of_getElem? (i := 16) rfl) (pV_nil)), f_230_13⟩
theorem q_230_14 : pQ_230 u_230_14 := ⟨_, _, _, (pS_cons ok_229 (pS_nil)), (pV_cons (List.mem_of_getElem? (i := 17) rfl) (pV_cons (List.mem_of_getElem? (i := 13) rfl) (pV_cons (List.mem_of_getElem? (i := 14) rfl) (pV_nil)))), f_230_14⟩
theorem q_230_15 : pQ_230 u_230_15 := ⟨_, _, _, (pS_nil), (pV_nil), f_230_15⟩
theorem q_230_16 : pQ_230 u_230_16 := ⟨_, _, _, (pS_nil), (pV_nil), f_230_16⟩
theorem q_230_17 : pQ_230 u_230_17 := ⟨_, _, _, (pS_cons ok_100 (pS_nil)), (pV_nil), f_230_17⟩
theorem qb_230_0 : ∀ u ∈ [u_230_0, u_230_1, u_230_2, u_230_3, u_230_4, u_230_5, u_230_6, u_230_7, u_230_8, u_230_9], pQ_230 u := pU_cons q_230_0 (pU_cons q_230_1 (pU_cons q_230_2 (pU_cons q_230_3 (pU_cons q_230_4 (pU_cons q_230_5 (pU_cons q_230_6 (pU_cons q_230_7 (pU_cons q_230_8 (pU_cons q_230_9 (pU_nil))))))))))
theorem qb_230_1 : ∀ u ∈ [u_230_10, u_230_11, u_230_12, u_230_13, u_230_14, u_230_15, u_230_16, u_230_17], pQ_230 u := pU_cons q_230_10 (pU_cons q_230_11 (pU_cons q_230_12 (pU_cons q_230_13 (pU_cons q_230_14 (pU_cons q_230_15 (pU_cons q_230_16 (pU_cons q_230_17 (pU_nil))))))))
theorem ok_230 : sInOk pPT i_230 := sInst2 (M := pm_85) (cus := us_230) pOk pg_85 (by decide +kernel) ⟨_, _, _, (pS_nil), (pV_cons (List.mem_of_getElem? (i := 0) rfl) (pV_cons (List.mem_of_getElem? (i := 1) rfl) (pV_cons (List.mem_of_getElem? (i := 2) rfl) (pV_nil)))), e_230⟩ (show ∀ u ∈ us_230, pQ_230 u from (pU_app qb_230_0 qb_230_1))
def pQ_231 (u : sCu) : Prop := ∃ (SM : List sIn) (cu : List sCu) (n : Nat), (∀ I ∈ SM, sInOk pPT I) ∧ (∀ v ∈ cu, v ∈ us_231) ∧ sWkU pPT SM i_231 (mR pm_141) cu n u = true
theorem q_231_0 : pQ_231 u_231_0 := ⟨_, _, _, (pS_nil), (pV_cons (List.mem_of_getElem? (i := 1) rfl) (pV_cons (List.mem_of_getElem? (i := 2) rfl) (pV_nil))), f_231_0⟩
theorem q_231_1 : pQ_231 u_231_1 := ⟨_, _, _, (pS_nil), (pV_cons (List.mem_of_getElem? (i := 0) rfl) (pV_nil)), f_231_1⟩
theorem q_231_2 : pQ_231 u_231_2 := ⟨_, _, _, (pS_nil), (pV_cons (List.mem_of_getElem? (i := 1) rfl) (pV_nil)), f_231_2⟩
theorem qb_231_0 : ∀ u ∈ [u_231_0, u_231_1, u_231_2], pQ_231 u := pU_cons q_231_0 (pU_cons q_231_1 (pU_cons q_231_2 (pU_nil)))
theorem ok_231 : sInOk pPT i_231 := sInst2 (M := pm_141) (cus := us_231) pOk pg_141 (by decide +kernel) ⟨_, _, _, (pS_nil), (pV_cons (List.mem_of_getElem? (i := 0) rfl) (pV_nil)), e_231⟩ (show ∀ u ∈ us_231, pQ_231 u from qb_231_0)
def pQ_232 (u : sCu) : Prop := ∃ (SM : List sIn) (cu : List sCu) (n : Nat), (∀ I ∈ SM, sInOk pPT I) ∧ (∀ v ∈ cu, v ∈ us_232) ∧ sWkU pPT SM i_232 (mR pm_140) cu n u = true
theorem q_232_0 : pQ_232 u_232_0 := ⟨_, _, _, (pS_cons ok_231 (pS_nil)), (pV_cons (List.mem_of_getElem? (i := 1) rfl) (pV_nil)), f_232_0⟩
theorem q_232_1 : pQ_232 u_232_1 := ⟨_, _, _, (pS_nil), (pV_cons (List.mem_of_getElem? (i := 0) rfl) (pV_nil)), f_232_1⟩
theorem qb_232_0 : ∀ u ∈ [u_232_0, u_232_1], pQ_232 u := pU_cons q_232_0 (pU_cons q_232_1 (pU_nil))
theorem ok_232 : sInOk pPT i_232 := sInst2 (M := pm_140) (cus := us_232) pOk pg_140 (by decide +kernel) ⟨_, _, _, (pS_nil), (pV_cons (List.mem_of_getElem? (i := 0) rfl) (pV_nil)), e_232⟩ (show ∀ u ∈ us_232, pQ_232 u from qb_232_0)
def pQ_233 (u : sCu) : Prop := ∃ (SM : List sIn) (cu : List sCu) (n : Nat), (∀ I ∈ SM, sInOk pPT I) ∧ (∀ v ∈ cu, v ∈ us_233) ∧ sWkU pPT SM i_233 (mR pm_159) cu n u = true
theorem q_233_0 : pQ_233 u_233_0 := ⟨_, _, _, (pS_nil), (pV_cons (List.mem_of_getElem? (i := 1) rfl) (pV_nil)), f_233_0⟩
theorem q_233_1 : pQ_233 u_233_1 := ⟨_, _, _, (pS_nil), (pV_cons (List.mem_of_getElem? (i := 0) rfl) (pV_nil)), f_233_1⟩
theorem qb_233_0 : ∀ u ∈ [u_233_0, u_233_1], pQ_233 u := pU_cons q_233_0 (pU_cons q_233_1 (pU_nil))
theorem ok_233 : sInOk pPT i_233 := sInst2 (M := pm_159) (cus := us_233) pOk pg_159 (by decide +kernel) ⟨_, _, _, (pS_nil), (pV_cons (List.mem_of_getElem? (i := 0) rfl) (pV_nil)), e_233⟩ (show ∀ u ∈ us_233, pQ_233 u from qb_233_0)
theorem ok_234 : sInOk pPT i_234 := sInst2 (M := pm_142) (cus := []) pOk pg_142 (by decide +kernel) ⟨_, _, _, (pS_cons ok_232 (pS_cons ok_233 (pS_nil))), pV_nil, e_234⟩ pU_nil
def pQ_235 (u : sCu) : Prop := ∃ (SM : List sIn) (cu : List sCu) (n : Nat), (∀ I ∈ SM, sInOk pPT I) ∧ (∀ v ∈ cu, v ∈ us_235) ∧ sWkU pPT SM i_235 (mR pm_137) cu n u = true
theorem q_235_0 : pQ_235 u_235_0 := ⟨_, _, _, (pS_nil), (pV_cons (List.mem_of_getElem? (i := 1) rfl) (pV_nil)), f_235_0⟩
theorem q_235_1 : pQ_235 u_235_1 := ⟨_, _, _, (pS_nil), (pV_cons (List.mem_of_getElem? (i := 0) rfl) (pV_nil)), f_235_1⟩
theorem qb_235_0 : ∀ u ∈ [u_235_0, u_235_1], pQ_235 u := pU_cons q_235_0 (pU_cons q_235_1 (pU_nil))
theorem ok_235 : sInOk pPT i_235 := sInst2 (M := pm_137) (cus := us_235) pOk pg_137 (by decide +kernel) ⟨_, _, _, (pS_nil), (pV_cons (List.mem_of_getElem? (i := 0) rfl) (pV_nil)), e_235⟩ (show ∀ u ∈ us_235, pQ_235 u from qb_235_0)
def pQ_236 (u : sCu) : Prop := ∃ (SM : List sIn) (cu : List sCu) (n : Nat), (∀ I ∈ SM, sInOk pPT I) ∧ (∀ v ∈ cu, v ∈ us_236) ∧ sWkU pPT SM i_236 (mR pm_131) cu n u = true
theorem q_236_0 : pQ_236 u_236_0 := ⟨_, _, _, (pS_cons ok_235 (pS_nil)), (pV_cons (List.mem_of_getElem? (i := 0) rfl) (pV_nil)), f_236_0⟩
theorem qb_236_0 : ∀ u ∈ [u_236_0], pQ_236 u := pU_cons q_236_0 (pU_nil)
theorem ok_236 : sInOk pPT i_236 := sInst2 (M := pm_131) (cus := us_236) pOk pg_131 (by decide +kernel) ⟨_, _, _, (pS_nil), (pV_cons (List.mem_of_getElem? (i := 0) rfl) (pV_nil)), e_236⟩ (show ∀ u ∈ us_236, pQ_236 u from qb_236_0)
theorem ok_237 : sInOk pPT i_237 := sInst2 (M := pm_236) (cus := []) pOk pg_236 (by decide +kernel) ⟨_, _, _, (pS_cons ok_232 (pS_cons ok_234 (pS_cons ok_236 (pS_nil)))), pV_nil, e_237⟩ pU_nil
theorem ok_238 : sInOk pPT i_238 := sInst2 (M := pm_4) (cus := []) pOk pg_4 (by decide +kernel) ⟨_, _, _, (pS_cons ok_237 (pS_nil)), pV_nil, e_238⟩ pU_nil
def pQ_239 (u : sCu) : Prop := ∃ (SM : List sIn) (cu : List sCu) (n : Nat), (∀ I ∈ SM, sInOk pPT I) ∧ (∀ v ∈ cu, v ∈ us_239) ∧ sWkU pPT SM i_239 (mR pm_115) cu n u = true
theorem q_239_0 : pQ_239 u_239_0 := ⟨_, _, _, (pS_nil), (pV_cons (List.mem_of_getElem? (i := 1) rfl) (pV_cons (List.mem_of_getElem? (i := 0) rfl) (pV_nil))), f_239_0⟩
theorem q_239_1 : pQ_239 u_239_1 := ⟨_, _, _, (pS_nil), (pV_cons (List.mem_of_getElem? (i := 2) rfl) (pV_nil)), f_239_1⟩
theorem q_239_2 : pQ_239 u_239_2 := ⟨_, _, _, (pS_nil), (pV_cons (List.mem_of_getElem? (i := 1) rfl) (pV_nil)), f_239_2⟩
theorem qb_239_0 : ∀ u ∈ [u_239_0, u_239_1, u_239_2], pQ_239 u := pU_cons q_239_0 (pU_cons q_239_1 (pU_cons q_239_2 (pU_nil)))
theorem ok_239 : sInOk pPT i_239 := sInst2 (M := pm_115) (cus := us_239) pOk pg_115 (by decide +kernel) ⟨_, _, _, (pS_nil), (pV_cons (List.mem_of_getElem? (i := 0) rfl) (pV_nil)), e_239⟩ (show ∀ u ∈ us_239, pQ_239 u from qb_239_0)
def pQ_240 (u : sCu) : Prop := ∃ (SM : List sIn) (cu : List sCu) (n : Nat), (∀ I ∈ SM, sInOk pPT I) ∧ (∀ v ∈ cu, v ∈ us_240) ∧ sWkU pPT SM i_240 (mR pm_122) cu n u = true
theorem q_240_0 : pQ_240 u_240_0 := ⟨_, _, _, (pS_nil), (pV_cons (List.mem_of_getElem? (i := 2) rfl) (pV_cons (List.mem_of_getElem? (i := 3) rfl) (pV_cons (List.mem_of_getElem? (i := 1) rfl) (pV_nil)))), f_240_0⟩
theorem q_240_1 : pQ_240 u_240_1 := ⟨_, _, _, (pS_nil), (pV_cons (List.mem_of_getElem? (i := 2) rfl) (pV_nil)), f_240_1⟩
theorem q_240_2 : pQ_240 u_240_2 := ⟨_, _, _, (pS_nil), (pV_cons (List.mem_of_getElem? (i := 0) rfl) (pV_nil)), f_240_2⟩
theorem q_240_3 : pQ_240 u_240_3 := ⟨_, _, _, (pS_nil), (pV_cons (List.mem_of_getElem? (i := 2) rfl) (pV_nil)), f_240_3⟩
theorem qb_240_0 : ∀ u ∈ [u_240_0, u_240_1, u_240_2, u_240_3], pQ_240 u := pU_cons q_240_0 (pU_cons q_240_1 (pU_cons q_240_2 (pU_cons q_240_3 (pU_nil))))
theorem ok_240 : sInOk pPT i_240 := sInst2 (M := pm_122) (cus := us_240) pOk pg_122 (by decide +kernel) ⟨_, _, _, (pS_nil), (pV_cons (List.mem_of_getElem? (i := 0) rfl) (pV_nil)), e_240⟩ (show ∀ u ∈ us_240, pQ_240 u from qb_240_0)
def pQ_241 (u : sCu) : Prop := ∃ (SM : List sIn) (cu : List sCu) (n : Nat), (∀ I ∈ SM, sInOk pPT I) ∧ (∀ v ∈ cu, v ∈ us_241) ∧ sWkU pPT SM i_241 (mR pm_117) cu n u = true
theorem q_241_0 : pQ_241 u_241_0 := ⟨_, _, _, (pS_nil), (pV_cons (List.mem_of_getElem? (i := 1) rfl) (pV_cons (List.mem_of_getElem? (i := 2) rfl) (pV_nil))), f_241_0⟩
theorem q_241_1 : pQ_241 u_241_1 := ⟨_, _, _, (pS_nil), (pV_cons (List.mem_of_getElem? (i := 2) rfl) (pV_nil)), f_241_1⟩
theorem q_241_2 : pQ_241 u_241_2 := ⟨_, _, _, (pS_nil), (pV_cons (List.mem_of_getElem? (i := 3) rfl) (pV_nil)), f_241_2⟩
theorem q_241_3 : pQ_241 u_241_3 := ⟨_, _, _, (pS_nil), (pV_cons (List.mem_of_getElem? (i := 4) rfl) (pV_nil)), f_241_3⟩
theorem q_241_4 : pQ_241 u_241_4 := ⟨_, _, _, (pS_nil), (pV_cons (List.mem_of_getElem? (i := 5) rfl) (pV_nil)), f_241_4⟩
theorem q_241_5 : pQ_241 u_241_5 := ⟨_, _, _, (pS_cons ok_240 (pS_nil)), (pV_nil), f_241_5⟩
theorem qb_241_0 : ∀ u ∈ [u_241_0, u_241_1, u_241_2, u_241_3, u_241_4, u_241_5], pQ_241 u := pU_cons q_241_0 (pU_cons q_241_1 (pU_cons q_241_2 (pU_cons q_241_3 (pU_cons q_241_4 (pU_cons q_241_5 (pU_nil))))))
theorem ok_241 : sInOk pPT i_241 := sInst2 (M := pm_117) (cus := us_241) pOk pg_117 (by decide +kernel) ⟨_, _, _, (pS_nil), (pV_cons (List.mem_of_getElem? (i := 0) rfl) (pV_nil)), e_241⟩ (show ∀ u ∈ us_241, pQ_241 u from qb_241_0)
def pQ_242 (u : sCu) : Prop := ∃ (SM : List sIn) (cu : List sCu) (n : Nat), (∀ I ∈ SM, sInOk pPT I) ∧ (∀ v ∈ cu, v ∈ us_242) ∧ sWkU pPT SM i_242 (mR pm_55) cu n u = true
theorem q_242_0 : pQ_242 u_242_0 := ⟨_, _, _, (pS_nil), (pV_nil), f_242_0⟩
theorem qb_242_0 : ∀ u ∈ [u_242_0], pQ_242 u := pU_cons q_242_0 (pU_nil)
theorem ok_242 : sInOk pPT i_242 := sInst2 (M := pm_55) (cus := us_242) pOk pg_55 (by decide +kernel) ⟨_, _, _, (pS_cons ok_241 (pS_nil)), (pV_cons (List.mem_of_getElem? (i := 0) rfl) (pV_nil)), e_242⟩ (show ∀ u ∈ us_242, pQ_242 u from qb_242_0)
def pQ_243 (u : sCu) : Prop := ∃ (SM : List sIn) (cu : List sCu) (n : Nat), (∀ I ∈ SM, sInOk pPT I) ∧ (∀ v ∈ cu, v ∈ us_243) ∧ sWkU pPT SM i_243 (mR pm_116) cu n u = true
theorem q_243_0 : pQ_243 u_243_0 := ⟨_, _, _, (pS_nil), (pV_cons (List.mem_of_getElem? (i := 1) rfl) (pV_cons (List.mem_of_getElem? (i := 0) rfl) (pV_nil))), f_243_0⟩
theorem q_243_1 : pQ_243 u_243_1 := ⟨_, _, _, (pS_nil), (pV_cons (List.mem_of_getElem? (i := 2) rfl) (pV_nil)), f_243_1⟩
theorem q_243_2 : pQ_243 u_243_2 := ⟨_, _, _, (pS_nil), (pV_cons (List.mem_of_getElem? (i := 5) rfl) (pV_cons (List.mem_of_getElem? (i := 3) rfl) (pV_cons (List.mem_of_getElem? (i := 4) rfl) (pV_nil)))), f_243_2⟩
theorem q_243_3 : pQ_243 u_243_3 := ⟨_, _, _, (pS_nil), (pV_cons (List.mem_of_getElem? (i := 2) rfl) (pV_nil)), f_243_3⟩
theorem q_243_4 : pQ_243 u_243_4 := ⟨_, _, _, (pS_nil), (pV_cons (List.mem_of_getElem? (i := 3) rfl) (pV_nil)), f_243_4⟩
theorem q_243_5 : pQ_243 u_243_5 := ⟨_, _, _, (pS_cons ok_242 (pS_nil)), (pV_cons (List.mem_of_getElem? (i := 6) rfl) (pV_cons (List.mem_of_getElem? (i := 7) rfl) (pV_nil))), f_243_5⟩
theorem q_243_6 : pQ_243 u_243_6 := ⟨_, _, _, (pS_nil), (pV_cons (List.mem_of_getElem? (i := 1) rfl) (pV_nil)), f_243_6⟩
theorem q_243_7 : pQ_243 u_243_7 := ⟨_, _, _, (pS_nil), (pV_cons (List.mem_of_getElem? (i := 5) rfl) (pV_nil)), f_243_7⟩
theorem qb_243_0 : ∀ u ∈ [u_243_0, u_243_1, u_243_2, u_243_3, u_243_4, u_243_5, u_243_6, u_243_7], pQ_243 u := pU_cons q_243_0 (pU_cons q_243_1 (pU_cons q_243_2 (pU_cons q_243_3 (pU_cons q_243_4 (pU_cons q_243_5 (pU_cons q_243_6 (pU_cons q_243_7 (pU_nil))))))))
theorem ok_243 : sInOk pPT i_243 := sInst2 (M := pm_116) (cus := us_243) pOk pg_116 (by decide +kernel) ⟨_, _, _, (pS_cons ok_239 (pS_nil)), (pV_cons (List.mem_of_getElem? (i := 0) rfl) (pV_nil)), e_243⟩ (show ∀ u ∈ us_243, pQ_243 u from qb_243_0)
def pQ_244 (u : sCu) : Prop := ∃ (SM : List sIn) (cu : List sCu) (n : Nat), (∀ I ∈ SM, sInOk pPT I) ∧ (∀ v ∈ cu, v ∈ us_244) ∧ sWkU pPT SM i_244 (mR pm_113) cu n u = true
theorem q_244_0 : pQ_244 u_244_0 := ⟨_, _, _, (pS_cons ok_243 (pS_nil)), (pV_cons (List.mem_of_getElem? (i := 1) rfl) (pV_nil)), f_244_0⟩
theorem q_244_1 : pQ_244 u_244_1 := ⟨_, _, _, (pS_nil), (pV_cons (List.mem_of_getElem? (i := 0) rfl) (pV_cons (List.mem_of_getElem? (i := 2) rfl) (pV_nil))), f_244_1⟩
theorem q_244_2 : pQ_244 u_244_2 := ⟨_, _, _, (pS_nil), (pV_cons (List.mem_of_getElem? (i := 3) rfl) (pV_nil)), f_244_2⟩
theorem q_244_3 : pQ_244 u_244_3 := ⟨_, _, _, (pS_nil), (pV_cons (List.mem_of_getElem? (i := 1) rfl) (pV_nil)), f_244_3⟩
theorem qb_244_0 : ∀ u ∈ [u_244_0, u_244_1, u_244_2, u_244_3], pQ_244 u := pU_cons q_244_0 (pU_cons q_244_1 (pU_cons q_244_2 (pU_cons q_244_3 (pU_nil))))
theorem ok_244 : sInOk pPT i_244 := sInst2 (M := pm_113) (cus := us_244) pOk pg_113 (by decide +kernel) ⟨_, _, _, (pS_nil), (pV_cons (List.mem_of_getElem? (i := 0) rfl) (pV_nil)), e_244⟩ (show ∀ u ∈ us_244, pQ_244 u from qb_244_0)
def pQ_245 (u : sCu) : Prop := ∃ (SM : List sIn) (cu : List sCu) (n : Nat), (∀ I ∈ SM, sInOk pPT I) ∧ (∀ v ∈ cu, v ∈ us_245) ∧ sWkU pPT SM i_245 (mR pm_76) cu n u = true
theorem q_245_0 : pQ_245 u_245_0 := ⟨_, _, _, (pS_nil), (pV_cons (List.mem_of_getElem? (i := 1) rfl) (pV_nil)), f_245_0⟩
theorem q_245_1 : pQ_245 u_245_1 := ⟨_, _, _, (pS_nil), (pV_cons (List.mem_of_getElem? (i := 0) rfl) (pV_nil)), f_245_1⟩
theorem qb_245_0 : ∀ u ∈ [u_245_0, u_245_1], pQ_245 u := pU_cons q_245_0 (pU_cons q_245_1 (pU_nil))
theorem ok_245 : sInOk pPT i_245 := sInst2 (M := pm_76) (cus := us_245) pOk pg_76 (by decide +kernel) ⟨_, _, _, (pS_nil), (pV_cons (List.mem_of_getElem? (i := 0) rfl) (pV_nil)), e_245⟩ (show ∀ u ∈ us_245, pQ_245 u from qb_245_0)
def pQ_246 (u : sCu) : Prop := ∃ (SM : List sIn) (cu : List sCu) (n : Nat), (∀ I ∈ SM, sInOk pPT I) ∧ (∀ v ∈ cu, v ∈ us_246) ∧ sWkU pPT SM i_246 (mR pm_77) cu n u = true
theorem q_246_0 : pQ_246 u_246_0 := ⟨_, _, _, (pS_nil), (pV_cons (List.mem_of_getElem? (i := 1) rfl) (pV_cons (List.mem_of_getElem? (i := 2) rfl) (pV_nil))), f_246_0⟩
theorem q_246_1 : pQ_246 u_246_1 := ⟨_, _, _, (pS_nil), (pV_cons (List.mem_of_getElem? (i := 3) rfl) (pV_nil)), f_246_1⟩
theorem q_246_2 : pQ_246 u_246_2 := ⟨_, _, _, (pS_nil), (pV_cons (List.mem_of_getElem? (i := 3) rfl) (pV_nil)), f_246_2⟩
theorem q_246_3 : pQ_246 u_246_3 := ⟨_, _, _, (pS_nil), (pV_cons (List.mem_of_getElem? (i := 0) rfl) (pV_nil)), f_246_3⟩
theorem qb_246_0 : ∀ u ∈ [u_246_0, u_246_1, u_246_2, u_246_3], pQ_246 u := pU_cons q_246_0 (pU_cons q_246_1 (pU_cons q_246_2 (pU_cons q_246_3 (pU_nil))))
theorem ok_246 : sInOk pPT i_246 := sInst2 (M := pm_77) (cus := us_246) pOk pg_77 (by decide +kernel) ⟨_, _, _, (pS_nil), (pV_cons (List.mem_of_getElem? (i := 0) rfl) (pV_nil)), e_246⟩ (show ∀ u ∈ us_246, pQ_246 u from qb_246_0)
def pQ_247 (u : sCu) : Prop := ∃ (SM : List sIn) (cu : List sCu) (n : Nat), (∀ I ∈ SM, sInOk pPT I) ∧ (∀ v ∈ cu, v ∈ us_247) ∧ sWkU pPT SM i_247 (mR pm_38) cu n u = true
theorem q_247_0 : pQ_247 u_247_0 := ⟨_, _, _, (pS_nil), (pV_cons (List.mem_of_getElem? (i := 1) rfl) (pV_nil)), f_247_0⟩
theorem q_247_1 : pQ_247 u_247_1 := ⟨_, _, _, (pS_nil), (pV_cons (List.mem_of_getElem? (i := 0) rfl) (pV_cons (List.mem_of_getElem? (i := 2) rfl) (pV_nil))), f_247_1⟩
theorem q_247_2 : pQ_247 u_247_2 := ⟨_, _, _, (pS_nil), (pV_cons (List.mem_of_getElem? (i := 1) rfl) (pV_nil)), f_247_2⟩
theorem qb_247_0 : ∀ u ∈ [u_247_0, u_247_1, u_247_2], pQ_247 u := pU_cons q_247_0 (pU_cons q_247_1 (pU_cons q_247_2 (pU_nil)))
theorem ok_247 : sInOk pPT i_247 := sInst2 (M := pm_38) (cus := us_247) pOk pg_38 (by decide +kernel) ⟨_, _, _, (pS_nil), (pV_cons (List.mem_of_getElem? (i := 0) rfl) (pV_nil)), e_247⟩ (show ∀ u ∈ us_247, pQ_247 u from qb_247_0)
theorem ok_248 : sInOk pPT i_248 := sInst2 (M := pm_37) (cus := []) pOk pg_37 (by decide +kernel) ⟨_, _, _, (pS_cons ok_244 (pS_cons ok_245 (pS_cons ok_246 (pS_cons ok_247 (pS_nil))))), pV_nil, e_248⟩ pU_nil
def pQ_249 (u : sCu) : Prop := ∃ (SM : List sIn) (cu : List sCu) (n : Nat), (∀ I ∈ SM, sInOk pPT I) ∧ (∀ v ∈ cu, v ∈ us_249) ∧ sWkU pPT SM i_249 (mR pm_135) cu n u = true
theorem q_249_0 : pQ_249 u_249_0 := ⟨_, _, _, (pS_nil), (pV_cons (List.mem_of_getElem? (i := 1) rfl) (pV_nil)), f_249_0⟩
theorem q_249_1 : pQ_249 u_249_1 := ⟨_, _, _, (pS_nil), (pV_cons (List.mem_of_getElem? (i := 0) rfl) (pV_nil)), f_249_1⟩
theorem qb_249_0 : ∀ u ∈ [u_249_0, u_249_1], pQ_249 u := pU_cons q_249_0 (pU_cons q_249_1 (pU_nil))
theorem ok_249 : sInOk pPT i_249 := sInst2 (M := pm_135) (cus := us_249) pOk pg_135 (by decide +kernel) ⟨_, _, _, (pS_nil), (pV_cons (List.mem_of_getElem? (i := 0) rfl) (pV_nil)), e_249⟩ (show ∀ u ∈ us_249, pQ_249 u from qb_249_0)
theorem ok_250 : sInOk pPT i_250 := sInst2 (M := pm_232) (cus := []) pOk pg_232 (by decide +kernel) ⟨_, _, _, (pS_cons ok_249 (pS_nil)), pV_nil, e_250⟩ pU_nil
theorem ok_251 : sInOk pPT i_251 := sInst2 (M := pm_1) (cus := []) pOk pg_1 (by decide +kernel) ⟨_, _, _, (pS_cons ok_250 (pS_nil)), pV_nil, e_251⟩ pU_nil
def pQ_252 (u : sCu) : Prop := ∃ (SM : List sIn) (cu : List sCu) (n : Nat), (∀ I ∈ SM, sInOk pPT I) ∧ (∀ v ∈ cu, v ∈ us_252) ∧ sWkU pPT SM i_252 (mR pm_54) cu n u = true
theorem q_252_0 : pQ_252 u_252_0 := ⟨_, _, _, (pS_nil), (pV_cons (List.mem_of_getElem? (i := 1) rfl) (pV_nil)), f_252_0⟩
theorem q_252_1 : pQ_252 u_252_1 := ⟨_, _, _, (pS_nil), (pV_cons (List.mem_of_getElem? (i := 0) rfl) (pV_nil)), f_252_1⟩
theorem qb_252_0 : ∀ u ∈ [u_252_0, u_252_1], pQ_252 u := pU_cons q_252_0 (pU_cons q_252_1 (pU_nil))
theorem ok_252 : sInOk pPT i_252 := sInst2 (M := pm_54) (cus := us_252) pOk pg_54 (by decide +kernel) ⟨_, _, _, (pS_nil), (pV_cons (List.mem_of_getElem? (i := 0) rfl) (pV_nil)), e_252⟩ (show ∀ u ∈ us_252, pQ_252 u from qb_252_0)
def pQ_253 (u : sCu) : Prop := ∃ (SM : List sIn) (cu : List sCu) (n : Nat), (∀ I ∈ SM, sInOk pPT I) ∧ (∀ v ∈ cu, v ∈ us_253) ∧ sWkU pPT SM i_253 (mR pm_28) cu n u = true
theorem q_253_0 : pQ_253 u_253_0 := ⟨_, _, _, (pS_nil), (pV_nil), f_253_0⟩
theorem qb_253_0 : ∀ u ∈ [u_253_0], pQ_253 u := pU_cons q_253_0 (pU_nil)
theorem ok_253 : sInOk pPT i_253 := sInst2 (M := pm_28) (cus := us_253) pOk pg_28 (by decide +kernel) ⟨_, _, _, (pS_cons ok_244 (pS_cons ok_252 (pS_nil))), (pV_cons (List.mem_of_getElem? (i := 0) rfl) (pV_nil)), e_253⟩ (show ∀ u ∈ us_253, pQ_253 u from qb_253_0)
def pQ_254 (u : sCu) : Prop := ∃ (SM : List sIn) (cu : List sCu) (n : Nat), (∀ I ∈ SM, sInOk pPT I) ∧ (∀ v ∈ cu, v ∈ us_254) ∧ sWkU pPT SM i_254 (mR pm_150) cu n u = true
theorem q_254_0 : pQ_254 u_254_0 := ⟨_, _, _, (pS_cons ok_80 (pS_nil)), (pV_cons (List.mem_of_getElem? (i := 2) rfl) (pV_nil)), f_254_0⟩
theorem q_254_1 : pQ_254 u_254_1 := ⟨_, _, _, (pS_nil), (pV_nil), f_254_1⟩
theorem q_254_2 : pQ_254 u_254_2 := ⟨_, _, _, (pS_nil), (pV_cons (List.mem_of_getElem? (i := 0) rfl) (pV_nil)), f_254_2⟩
theorem qb_254_0 : ∀ u ∈ [u_254_0, u_254_1, u_254_2], pQ_254 u := pU_cons q_254_0 (pU_cons q_254_1 (pU_cons q_254_2 (pU_nil)))
theorem ok_254 : sInOk pPT i_254 := sInst2 (M := pm_150) (cus := us_254) pOk pg_150 (by decide +kernel) ⟨_, _, _, (pS_nil), (pV_cons (List.mem_of_getElem? (i := 0) rfl) (pV_cons (List.mem_of_getElem? (i := 1) rfl) (pV_nil))), e_254⟩ (show ∀ u ∈ us_254, pQ_254 u from qb_254_0)
theorem ok_255 : sInOk pPT i_255 := sInst2 (M := pm_250) (cus := []) pOk pg_250 (by decide +kernel) ⟨_, _, _, (pS_cons ok_254 (pS_nil)), pV_nil, e_255⟩ pU_nil
theorem ok_256 : sInOk pPT i_256 := sInst2 (M := pm_11) (cus := []) pOk pg_11 (by decide +kernel) ⟨_, _, _, (pS_cons ok_255 (pS_nil)), pV_nil, e_256⟩ pU_nil
def pQ_257 (u : sCu) : Prop := ∃ (SM : List sIn) (cu : List sCu) (n : Nat), (∀ I ∈ SM, sInOk pPT I) ∧ (∀ v ∈ cu, v ∈ us_257) ∧ sWkU pPT SM i_257 (mR pm_118) cu n u = true
theorem q_257_0 : pQ_257 u_257_0 := ⟨_, _, _, (pS_cons ok_241 (pS_nil)), (pV_cons (List.mem_of_getElem? (i := 1) rfl) (pV_cons (List.mem_of_getElem? (i := 2) rfl) (pV_cons (List.mem_of_getElem? (i := 3) rfl) (pV_nil)))), f_257_0⟩
theorem q_257_1 : pQ_257 u_257_1 := ⟨_, _, _, (pS_nil), (pV_nil), f_257_1⟩
theorem q_257_2 : pQ_257 u_257_2 := ⟨_, _, _, (pS_nil), (pV_cons (List.mem_of_getElem? (i := 3) rfl) (pV_nil)), f_257_2⟩
theorem q_257_3 : pQ_257 u_257_3 := ⟨_, _, _, (pS_nil), (pV_cons (List.mem_of_getElem? (i := 0) rfl) (pV_nil)), f_257_3⟩
theorem qb_257_0 : ∀ u ∈ [u_257_0, u_257_1, u_257_2, u_257_3], pQ_257 u := pU_cons q_257_0 (pU_cons q_257_1 (pU_cons q_257_2 (pU_cons q_257_3 (pU_nil))))
theorem ok_257 : sInOk pPT i_257 := sInst2 (M := pm_118) (cus := us_257) pOk pg_118 (by decide +kernel) ⟨_, _, _, (pS_nil), (pV_cons (List.mem_of_getElem? (i := 0) rfl) (pV_nil)), e_257⟩ (show ∀ u ∈ us_257, pQ_257 u from qb_257_0)
def pQ_258 (u : sCu) : Prop := ∃ (SM : List sIn) (cu : List sCu) (n : Nat), (∀ I ∈ SM, sInOk pPT I) ∧ (∀ v ∈ cu, v ∈ us_258) ∧ sWkU pPT SM i_258 (mR pm_78) cu n u = true
theorem q_258_0 : pQ_258 u_258_0 := ⟨_, _, _, (pS_nil), (pV_nil), f_258_0⟩
theorem qb_258_0 : ∀ u ∈ [u_258_0], pQ_258 u := pU_cons q_258_0 (pU_nil)
theorem ok_258 : sInOk pPT i_258 := sInst2 (M := pm_78) (cus := us_258) pOk pg_78 (by decide +kernel) ⟨_, _, _, (pS_cons ok_244 (pS_cons ok_257 (pS_nil))), (pV_cons (List.mem_of_getElem? (i := 0) rfl) (pV_nil)), e_258⟩ (show ∀ u ∈ us_258, pQ_258 u from qb_258_0)
theorem ok_259 : sInOk pPT i_259 := sInst2 (M := pm_139) (cus := []) pOk pg_139 (by decide +kernel) ⟨_, _, _, (pS_cons ok_231 (pS_nil)), pV_nil, e_259⟩ pU_nil
theorem ok_260 : sInOk pPT i_260 := sInst2 (M := pm_262) (cus := []) pOk pg_262 (by decide +kernel) ⟨_, _, _, (pS_cons ok_231 (pS_cons ok_235 (pS_cons ok_259 (pS_nil)))), pV_nil, e_260⟩ pU_nil
theorem ok_261 : sInOk pPT i_261 := sInst2 (M := pm_17) (cus := []) pOk pg_17 (by decide +kernel) ⟨_, _, _, (pS_cons ok_260 (pS_nil)), pV_nil, e_261⟩ pU_nil
def pQ_262 (u : sCu) : Prop := ∃ (SM : List sIn) (cu : List sCu) (n : Nat), (∀ I ∈ SM, sInOk pPT I) ∧ (∀ v ∈ cu, v ∈ us_262) ∧ sWkU pPT SM i_262 (mR pm_107) cu n u = true
theorem q_262_0 : pQ_262 u_262_0 := ⟨_, _, _, (pS_nil), (pV_nil), f_262_0⟩
theorem q_262_1 : pQ_262 u_262_1 := ⟨_, _, _, (pS_nil), (pV_cons (List.mem_of_getElem? (i := 2) rfl) (pV_nil)), f_262_1⟩
theorem q_262_2 : pQ_262 u_262_2 := ⟨_, _, _, (pS_nil), (pV_cons (List.mem_of_getElem? (i := 1) rfl) (pV_nil)), f_262_2⟩
theorem qb_262_0 : ∀ u ∈ [u_262_0, u_262_1, u_262_2], pQ_262 u := pU_cons q_262_0 (pU_cons q_262_1 (pU_cons q_262_2 (pU_nil)))
theorem ok_262 : sInOk pPT i_262 := sInst2 (M := pm_107) (cus := us_262) pOk pg_107 (by decide +kernel) ⟨_, _, _, (pS_cons ok_244 (pS_nil)), (pV_cons (List.mem_of_getElem? (i := 0) rfl) (pV_cons (List.mem_of_getElem? (i := 1) rfl) (pV_nil))), e_262⟩ (show ∀ u ∈ us_262, pQ_262 u from qb_262_0)
def pQ_263 (u : sCu) : Prop := ∃ (SM : List sIn) (cu : List sCu) (n : Nat), (∀ I ∈ SM, sInOk pPT I) ∧ (∀ v ∈ cu, v ∈ us_263) ∧ sWkU pPT SM i_263 (mR pm_130) cu n u = true
theorem q_263_0 : pQ_263 u_263_0 := ⟨_, _, _, (pS_nil), (pV_cons (List.mem_of_getElem? (i := 1) rfl) (pV_cons (List.mem_of_getElem? (i := 0) rfl) (pV_nil))), f_263_0⟩
theorem q_263_1 : pQ_263 u_263_1 := ⟨_, _, _, (pS_nil), (pV_nil), f_263_1⟩
theorem qb_263_0 : ∀ u ∈ [u_263_0, u_263_1], pQ_263 u := pU_cons q_263_0 (pU_cons q_263_1 (pU_nil))
theorem ok_263 : sInOk pPT i_263 := sInst2 (M := pm_130) (cus := us_263) pOk pg_130 (by decide +kernel) ⟨_, _, _, (pS_nil), (pV_cons (List.mem_of_getElem? (i := 0) rfl) (pV_nil)), e_263⟩ (show ∀ u ∈ us_263, pQ_263 u from qb_263_0)
theorem ok_264 : sInOk pPT i_264 := sInst2 (M := pm_249) (cus := []) pOk pg_249 (by decide +kernel) ⟨_, _, _, (pS_cons ok_263 (pS_nil)), pV_nil, e_264⟩ pU_nil
theorem ok_265 : sInOk pPT i_265 := sInst2 (M := pm_10) (cus := []) pOk pg_10 (by decide +kernel) ⟨_, _, _, (pS_cons ok_264 (pS_nil)), pV_nil, e_265⟩ pU_nil
def pQ_266 (u : sCu) : Prop := ∃ (SM : List sIn) (cu : List sCu) (n : Nat), (∀ I ∈ SM, sInOk pPT I) ∧ (∀ v ∈ cu, v ∈ us_266) ∧ sWkU pPT SM i_266 (mR pm_114) cu n u = true
theorem q_266_0 : pQ_266 u_266_0 := ⟨_, _, _, (pS_nil), (pV_cons (List.mem_of_getElem? (i := 1) rfl) (pV_cons (List.mem_of_getElem? (i := 0) rfl) (pV_nil))), f_266_0⟩
theorem q_266_1 : pQ_266 u_266_1 := ⟨_, _, _, (pS_nil), (pV_nil), f_266_1⟩
theorem qb_266_0 : ∀ u ∈ [u_266_0, u_266_1], pQ_266 u := pU_cons q_266_0 (pU_cons q_266_1 (pU_nil))
theorem ok_266 : sInOk pPT i_266 := sInst2 (M := pm_114) (cus := us_266) pOk pg_114 (by decide +kernel) ⟨_, _, _, (pS_nil), (pV_cons (List.mem_of_getElem? (i := 0) rfl) (pV_nil)), e_266⟩ (show ∀ u ∈ us_266, pQ_266 u from qb_266_0)
def pQ_267 (u : sCu) : Prop := ∃ (SM : List sIn) (cu : List sCu) (n : Nat), (∀ I ∈ SM, sInOk pPT I) ∧ (∀ v ∈ cu, v ∈ us_267) ∧ sWkU pPT SM i_267 (mR pm_74) cu n u = true
theorem q_267_0 : pQ_267 u_267_0 := ⟨_, _, _, (pS_nil), (pV_nil), f_267_0⟩
theorem qb_267_0 : ∀ u ∈ [u_267_0], pQ_267 u := pU_cons q_267_0 (pU_nil)
theorem ok_267 : sInOk pPT i_267 := sInst2 (M := pm_74) (cus := us_267) pOk pg_74 (by decide +kernel) ⟨_, _, _, (pS_cons ok_244 (pS_cons ok_266 (pS_nil))), (pV_cons (List.mem_of_getElem? (i := 0) rfl) (pV_nil)), e_267⟩ (show ∀ u ∈ us_267, pQ_267 u from qb_267_0)
def pQ_268 (u : sCu) : Prop := ∃ (SM : List sIn) (cu : List sCu) (n : Nat), (∀ I ∈ SM, sInOk pPT I) ∧ (∀ v ∈ cu, v ∈ us_268) ∧ sWkU pPT SM i_268 (mR pm_146) cu n u = true
theorem q_268_0 : pQ_268 u_268_0 := ⟨_, _, _, (pS_nil), (pV_cons (List.mem_of_getElem? (i := 0) rfl) (pV_nil)), f_268_0⟩
theorem qb_268_0 : ∀ u ∈ [u_268_0], pQ_268 u := pU_cons q_268_0 (pU_nil)
theorem ok_268 : sInOk pPT i_268 := sInst2 (M := pm_146) (cus := us_268) pOk pg_146 (by decide +kernel) ⟨_, _, _, (pS_nil), (pV_cons (List.mem_of_getElem? (i := 0) rfl) (pV_nil)), e_268⟩ (show ∀ u ∈ us_268, pQ_268 u from qb_268_0)
theorem ok_269 : sInOk pPT i_269 := sInst2 (M := pm_234) (cus := []) pOk pg_234 (by decide +kernel) ⟨_, _, _, (pS_cons ok_263 (pS_cons ok_268 (pS_nil))), pV_nil, e_269⟩ pU_nil
theorem ok_270 : sInOk pPT i_270 := sInst2 (M := pm_3) (cus := []) pOk pg_3 (by decide +kernel) ⟨_, _, _, (pS_cons ok_269 (pS_nil)), pV_nil, e_270⟩ pU_nil
def pQ_271 (u : sCu) : Prop := ∃ (SM : List sIn) (cu : List sCu) (n : Nat), (∀ I ∈ SM, sInOk pPT I) ∧ (∀ v ∈ cu, v ∈ us_271) ∧ sWkU pPT SM i_271 (mR pm_36) cu n u = true
theorem q_271_0 : pQ_271 u_271_0 := ⟨_, _, _, (pS_nil), (pV_nil), f_271_0⟩
theorem qb_271_0 : ∀ u ∈ [u_271_0], pQ_271 u := pU_cons q_271_0 (pU_nil)
theorem ok_271 : sInOk pPT i_271 := sInst2 (M := pm_36) (cus := us_271) pOk pg_36 (by decide +kernel) ⟨_, _, _, (pS_cons ok_244 (pS_cons ok_266 (pS_nil))), (pV_cons (List.mem_of_getElem? (i := 0) rfl) (pV_nil)), e_271⟩ (show ∀ u ∈ us_271, pQ_271 u from qb_271_0)
def pQ_272 (u : sCu) : Prop := ∃ (SM : List sIn) (cu : List sCu) (n : Nat), (∀ I ∈ SM, sInOk pPT I) ∧ (∀ v ∈ cu, v ∈ us_272) ∧ sWkU pPT SM i_272 (mR pm_248) cu n u = true
theorem q_272_0 : pQ_272 u_272_0 := ⟨_, _, _, (pS_nil), (pV_cons (List.mem_of_getElem? (i := 1) rfl) (pV_nil)), f_272_0⟩
theorem q_272_1 : pQ_272 u_272_1 := ⟨_, _, _, (pS_cons ok_233 (pS_cons ok_249 (pS_nil))), (pV_cons (List.mem_of_getElem? (i := 2) rfl) (pV_nil)), f_272_1⟩
theorem q_272_2 : pQ_272 u_272_2 := ⟨_, _, _, (pS_nil), (pV_cons (List.mem_of_getElem? (i := 1) rfl) (pV_nil)), f_272_2⟩
theorem qb_272_0 : ∀ u ∈ [u_272_0, u_272_1, u_272_2], pQ_272 u := pU_cons q_272_0 (pU_cons q_272_1 (pU_cons q_272_2 (pU_nil)))
theorem ok_272 : sInOk pPT i_272 := sInst2 (M := pm_248) (cus := us_272) pOk pg_248 (by decide +kernel) ⟨_, _, _, (pS_nil), (pV_cons (List.mem_of_getElem? (i := 0) rfl) (pV_nil)), e_272⟩ (show ∀ u ∈ us_272, pQ_272 u from qb_272_0)
theorem ok_273 : sInOk pPT i_273 := sInst2 (M := pm_9) (cus := []) pOk pg_9 (by decide +kernel) ⟨_, _, _, (pS_cons ok_272 (pS_nil)), pV_nil, e_273⟩ pU_nil
def pQ_274 (u : sCu) : Prop := ∃ (SM : List sIn) (cu : List sCu) (n : Nat), (∀ I ∈ SM, sInOk pPT I) ∧ (∀ v ∈ cu, v ∈ us_274) ∧ sWkU pPT SM i_274 (mR pm_73) cu n u = true
theorem q_274_0 : pQ_274 u_274_0 := ⟨_, _, _, (pS_nil), (pV_nil), f_274_0⟩
theorem q_274_1 : pQ_274 u_274_1 := ⟨_, _, _, (pS_nil), (pV_cons (List.mem_of_getElem? (i := 2) rfl) (pV_cons (List.mem_of_getElem? (i := 3) rfl) (pV_nil))), f_274_1⟩
theorem q_274_2 : pQ_274 u_274_2 := ⟨_, _, _, (pS_nil), (pV_cons (List.mem_of_getElem? (i := 4) rfl) (pV_nil)), f_274_2⟩
theorem q_274_3 : pQ_274 u_274_3 := ⟨_, _, _, (pS_cons ok_252 (pS_nil)), (pV_cons (List.mem_of_getElem? (i := 5) rfl) (pV_nil)), f_274_3⟩
theorem q_274_4 : pQ_274 u_274_4 := ⟨_, _, _, (pS_nil), (pV_cons (List.mem_of_getElem? (i := 2) rfl) (pV_nil)), f_274_4⟩
theorem q_274_5 : pQ_274 u_274_5 := ⟨_, _, _, (pS_nil), (pV_cons (List.mem_of_getElem? (i := 1) rfl) (pV_nil)), f_274_5⟩
theorem qb_274_0 : ∀ u ∈ [u_274_0, u_274_1, u_274_2, u_274_3, u_274_4, u_274_5], pQ_274 u := pU_cons q_274_0 (pU_cons q_274_1 (pU_cons q_274_2 (pU_cons q_274_3 (pU_cons q_274_4 (pU_cons q_274_5 (pU_nil))))))
theorem ok_274 : sInOk pPT i_274 := sInst2 (M := pm_73) (cus := us_274) pOk pg_73 (by decide +kernel) ⟨_, _, _, (pS_cons ok_244 (pS_nil)), (pV_cons (List.mem_of_getElem? (i := 0) rfl) (pV_cons (List.mem_of_getElem? (i := 1) rfl) (pV_nil))), e_274⟩ (show ∀ u ∈ us_274, pQ_274 u from qb_274_0)
theorem ok_275 : sInOk pPT i_275 := sInst2 (M := pm_231) (cus := []) pOk pg_231 (by decide +kernel) ⟨_, _, _, (pS_cons ok_84 (pS_nil)), pV_nil, e_275⟩ pU_nil
theorem ok_276 : sInOk pPT i_276 := sInst2 (M := pm_266) (cus := []) pOk pg_266 (by decide +kernel) ⟨_, _, _, (pS_cons ok_275 (pS_nil)), pV_nil, e_276⟩ pU_nil
theorem ok_277 : sInOk pPT i_277 := sInst2 (M := pm_20) (cus := []) pOk pg_20 (by decide +kernel) ⟨_, _, _, (pS_cons ok_276 (pS_nil)), pV_nil, e_277⟩ pU_nil
theorem ok_278 : sInOk pPT i_278 := sInst2 (M := pm_87) (cus := []) pOk pg_87 (by decide +kernel) ⟨_, _, _, (pS_nil), pV_nil, e_278⟩ pU_nil
def pQ_279 (u : sCu) : Prop := ∃ (SM : List sIn) (cu : List sCu) (n : Nat), (∀ I ∈ SM, sInOk pPT I) ∧ (∀ v ∈ cu, v ∈ us_279) ∧ sWkU pPT SM i_279 (mR pm_72) cu n u = true
theorem q_279_0 : pQ_279 u_279_0 := ⟨_, _, _, (pS_cons ok_278 (pS_nil)), (pV_nil), f_279_0⟩
theorem q_279_1 : pQ_279 u_279_1 := ⟨_, _, _, (pS_nil), (pV_cons (List.mem_of_getElem? (i := 0) rfl) (pV_cons (List.mem_of_getElem? (i := 1) rfl) (pV_nil))), f_279_1⟩
theorem qb_279_0 : ∀ u ∈ [u_279_0, u_279_1], pQ_279 u := pU_cons q_279_0 (pU_cons q_279_1 (pU_nil))
theorem ok_279 : sInOk pPT i_279 := sInst2 (M := pm_72) (cus := us_279) pOk pg_72 (by decide +kernel) ⟨_, _, _, (pS_nil), (pV_cons (List.mem_of_getElem? (i := 0) rfl) (pV_cons (List.mem_of_getElem? (i := 1) rfl) (pV_nil))), e_279⟩ (show ∀ u ∈ us_279, pQ_279 u from qb_279_0)
theorem ok_280 : sInOk pPT i_280 := sInst2 (M := pm_119) (cus := []) pOk pg_119 (by decide +kernel) ⟨_, _, _, (pS_cons ok_279 (pS_nil)), pV_nil, e_280⟩ pU_nil
theorem ok_281 : sInOk pPT i_281 := sInst2 (M := pm_231) (cus := []) pOk pg_231 (by decide +kernel) ⟨_, _, _, (pS_cons ok_84 (pS_nil)), pV_nil, e_281⟩ pU_nil
theorem ok_282 : sInOk pPT i_282 := sInst2 (M := pm_253) (cus := []) pOk pg_253 (by decide +kernel) ⟨_, _, _, (pS_cons ok_281 (pS_nil)), pV_nil, e_282⟩ pU_nil
theorem ok_283 : sInOk pPT i_283 := sInst2 (M := pm_14) (cus := []) pOk pg_14 (by decide +kernel) ⟨_, _, _, (pS_cons ok_282 (pS_nil)), pV_nil, e_283⟩ pU_nil
theorem ok_284 : sInOk pPT i_284 := sInst2 (M := pm_83) (cus := []) pOk pg_83 (by decide +kernel) ⟨_, _, _, (pS_cons ok_279 (pS_nil)), pV_nil, e_284⟩ pU_nil
theorem ok_285 : sInOk pPT i_285 := sInst2 (M := pm_231) (cus := []) pOk pg_231 (by decide +kernel) ⟨_, _, _, (pS_cons ok_84 (pS_nil)), pV_nil, e_285⟩ pU_nil
theorem ok_286 : sInOk pPT i_286 := sInst2 (M := pm_233) (cus := []) pOk pg_233 (by decide +kernel) ⟨_, _, _, (pS_cons ok_285 (pS_nil)), pV_nil, e_286⟩ pU_nil
theorem ok_287 : sInOk pPT i_287 := sInst2 (M := pm_2) (cus := []) pOk pg_2 (by decide +kernel) ⟨_, _, _, (pS_cons ok_286 (pS_nil)), pV_nil, e_287⟩ pU_nil
theorem ok_288 : sInOk pPT i_288 := sInst2 (M := pm_33) (cus := []) pOk pg_33 (by decide +kernel) ⟨_, _, _, (pS_cons ok_279 (pS_nil)), pV_nil, e_288⟩ pU_nil
theorem ok_289 : sInOk pPT i_289 := sInst2 (M := pm_231) (cus := []) pOk pg_231 (by decide +kernel) ⟨_, _, _, (pS_cons ok_84 (pS_nil)), pV_nil, e_289⟩ pU_nil
theorem ok_290 : sInOk pPT i_290 := sInst2 (M := pm_237) (cus := []) pOk pg_237 (by decide +kernel) ⟨_, _, _, (pS_cons ok_289 (pS_nil)), pV_nil, e_290⟩ pU_nil
theorem ok_291 : sInOk pPT i_291 := sInst2 (M := pm_5) (cus := []) pOk pg_5 (by decide +kernel) ⟨_, _, _, (pS_cons ok_290 (pS_nil)), pV_nil, e_291⟩ pU_nil
theorem ok_292 : sInOk pPT i_292 := sInst2 (M := pm_39) (cus := []) pOk pg_39 (by decide +kernel) ⟨_, _, _, (pS_cons ok_279 (pS_nil)), pV_nil, e_292⟩ pU_nil
theorem ok_293 : sInOk pPT i_293 := sInst2 (M := pm_258) (cus := []) pOk pg_258 (by decide +kernel) ⟨_, _, _, (pS_cons ok_84 (pS_nil)), pV_nil, e_293⟩ pU_nil
theorem ok_294 : sInOk pPT i_294 := sInst2 (M := pm_16) (cus := []) pOk pg_16 (by decide +kernel) ⟨_, _, _, (pS_cons ok_293 (pS_nil)), pV_nil, e_294⟩ pU_nil
def pQ_295 (u : sCu) : Prop := ∃ (SM : List sIn) (cu : List sCu) (n : Nat), (∀ I ∈ SM, sInOk pPT I) ∧ (∀ v ∈ cu, v ∈ us_295) ∧ sWkU pPT SM i_295 (mR pm_88) cu n u = true
theorem q_295_0 : pQ_295 u_295_0 := ⟨_, _, _, (pS_nil), (pV_nil), f_295_0⟩
theorem q_295_1 : pQ_295 u_295_1 := ⟨_, _, _, (pS_nil), (pV_nil), f_295_1⟩
theorem qb_295_0 : ∀ u ∈ [u_295_0, u_295_1], pQ_295 u := pU_cons q_295_0 (pU_cons q_295_1 (pU_nil))
theorem ok_295 : sInOk pPT i_295 := sInst2 (M := pm_88) (cus := us_295) pOk pg_88 (by decide +kernel) ⟨_, _, _, (pS_cons ok_279 (pS_nil)), (pV_cons (List.mem_of_getElem? (i := 0) rfl) (pV_cons (List.mem_of_getElem? (i := 1) rfl) (pV_nil))), e_295⟩ (show ∀ u ∈ us_295, pQ_295 u from qb_295_0)
theorem ok_296 : sInOk pPT i_296 := sInst2 (M := pm_267) (cus := []) pOk pg_267 (by decide +kernel) ⟨_, _, _, (pS_cons ok_84 (pS_nil)), pV_nil, e_296⟩ pU_nil
theorem ok_297 : sInOk pPT i_297 := sInst2 (M := pm_121) (cus := []) pOk pg_121 (by decide +kernel) ⟨_, _, _, (pS_nil), pV_nil, e_297⟩ pU_nil
theorem ok_298 : sInOk pPT i_298 := sInst2 (M := pm_120) (cus := []) pOk pg_120 (by decide +kernel) ⟨_, _, _, (pS_cons ok_297 (pS_nil)), pV_nil, e_298⟩ pU_nil
def pQ_299 (u : sCu) : Prop := ∃ (SM : List sIn) (cu : List sCu) (n : Nat), (∀ I ∈ SM, sInOk pPT I) ∧ (∀ v ∈ cu, v ∈ us_299) ∧ sWkU pPT SM i_299 (mR pm_214) cu n u = true
theorem q_299_0 : pQ_299 u_299_0 := ⟨_, _, _, (pS_nil), (pV_cons (List.mem_of_getElem? (i := 1) rfl) (pV_cons (List.mem_of_getElem? (i := 2) rfl) (pV_nil))), f_299_0⟩
theorem q_299_1 : pQ_299 u_299_1 := ⟨_, _, _, (pS_nil), (pV_cons (List.mem_of_getElem? (i := 2) rfl) (pV_nil)), f_299_1⟩
theorem q_299_2 : pQ_299 u_299_2 := ⟨_, _, _, (pS_nil), (pV_cons (List.mem_of_getElem? (i := 3) rfl) (pV_nil)), f_299_2⟩
theorem q_299_3 : pQ_299 u_299_3 := ⟨_, _, _, (pS_nil), (pV_cons (List.mem_of_getElem? (i := 0) rfl) (pV_nil)), f_299_3⟩
theorem qb_299_0 : ∀ u ∈ [u_299_0, u_299_1, u_299_2, u_299_3], pQ_299 u := pU_cons q_299_0 (pU_cons q_299_1 (pU_cons q_299_2 (pU_cons q_299_3 (pU_nil))))
theorem ok_299 : sInOk pPT i_299 := sInst2 (M := pm_214) (cus := us_299) pOk pg_214 (by decide +kernel) ⟨_, _, _, (pS_nil), (pV_cons (List.mem_of_getElem? (i := 0) rfl) (pV_nil)), e_299⟩ (show ∀ u ∈ us_299, pQ_299 u from qb_299_0)
def pQ_300 (u : sCu) : Prop := ∃ (SM : List sIn) (cu : List sCu) (n : Nat), (∀ I ∈ SM, sInOk pPT I) ∧ (∀ v ∈ cu, v ∈ us_300) ∧ sWkU pPT SM i_300 (mR pm_145) cu n u = true
theorem q_300_0 : pQ_300 u_300_0 := ⟨_, _, _, (pS_nil), (pV_cons (List.mem_of_getElem? (i := 1) rfl) (pV_cons (List.mem_of_getElem? (i := 0) rfl) (pV_nil))), f_300_0⟩
theorem q_300_1 : pQ_300 u_300_1 := ⟨_, _, _, (pS_nil), (pV_cons (List.mem_of_getElem? (i := 2) rfl) (pV_cons (List.mem_of_getElem? (i := 3) rfl) (pV_nil))), f_300_1⟩
theorem q_300_2 : pQ_300 u_300_2 := ⟨_, _, _, (pS_nil), (pV_cons (List.mem_of_getElem? (i := 1) rfl) (pV_nil)), f_300_2⟩
theorem q_300_3 : pQ_300 u_300_3 := ⟨_, _, _, (pS_nil), (pV_cons (List.mem_of_getElem? (i := 2) rfl) (pV_nil)), f_300_3⟩
theorem qb_300_0 : ∀ u ∈ [u_300_0, u_300_1, u_300_2, u_300_3], pQ_300 u := pU_cons q_300_0 (pU_cons q_300_1 (pU_cons q_300_2 (pU_cons q_300_3 (pU_nil))))
theorem ok_300 : sInOk pPT i_300 := sInst2 (M := pm_145) (cus := us_300) pOk pg_145 (by decide +kernel) ⟨_, _, _, (pS_nil), (pV_cons (List.mem_of_getElem? (i := 0) rfl) (pV_nil)), e_300⟩ (show ∀ u ∈ us_300, pQ_300 u from qb_300_0)
def pQ_301 (u : sCu) : Prop := ∃ (SM : List sIn) (cu : List sCu) (n : Nat), (∀ I ∈ SM, sInOk pPT I) ∧ (∀ v ∈ cu, v ∈ us_301) ∧ sWkU pPT SM i_301 (mR pm_133) cu n u = true
theorem q_301_0 : pQ_301 u_301_0 := ⟨_, _, _, (pS_nil), (pV_cons (List.mem_of_getElem? (i := 1) rfl) (pV_cons (List.mem_of_getElem? (i := 2) rfl) (pV_nil))), f_301_0⟩
theorem q_301_1 : pQ_301 u_301_1 := ⟨_, _, _, (pS_nil), (pV_cons (List.mem_of_getElem? (i := 0) rfl) (pV_nil)), f_301_1⟩
theorem q_301_2 : pQ_301 u_301_2 := ⟨_, _, _, (pS_nil), (pV_cons (List.mem_of_getElem? (i := 1) rfl) (pV_nil)), f_301_2⟩
theorem qb_301_0 : ∀ u ∈ [u_301_0, u_301_1, u_301_2], pQ_301 u := pU_cons q_301_0 (pU_cons q_301_1 (pU_cons q_301_2 (pU_nil)))
theorem ok_301 : sInOk pPT i_301 := sInst2 (M := pm_133) (cus := us_301) pOk pg_133 (by decide +kernel) ⟨_, _, _, (pS_nil), (pV_cons (List.mem_of_getElem? (i := 0) rfl) (pV_nil)), e_301⟩ (show ∀ u ∈ us_301, pQ_301 u from qb_301_0)
def pQ_302 (u : sCu) : Prop := ∃ (SM : List sIn) (cu : List sCu) (n : Nat), (∀ I ∈ SM, sInOk pPT I) ∧ (∀ v ∈ cu, v ∈ us_302) ∧ sWkU pPT SM i_302 (mR pm_192) cu n u = true
theorem q_302_0 : pQ_302 u_302_0 := ⟨_, _, _, (pS_nil), (pV_cons (List.mem_of_getElem? (i := 1) rfl) (pV_cons (List.mem_of_getElem? (i := 4) rfl) (pV_cons (List.mem_of_getElem? (i := 5) rfl) (pV_cons (List.mem_of_getElem? (i := 6) rfl) (pV_cons (List.mem_of_getElem? (i := 7) rfl) (pV_cons (List.mem_of_getElem? (i := 8) rfl) (pV_cons (List.mem_of_getElem? (i := 9) rfl) (pV_cons (List.mem_of_getElem? (i := 10) rfl) (pV_cons (List.mem_of_getElem? (i := 3) rfl) (pV_cons (List.mem_of_getElem? (i := 2) rfl) (pV_nil))))))))))), f_302_0⟩
theorem q_302_1 : pQ_302 u_302_1 := ⟨_, _, _, (pS_nil), (pV_cons (List.mem_of_getElem? (i := 0) rfl) (pV_nil)), f_302_1⟩
theorem q_302_2 : pQ_302 u_302_2 := ⟨_, _, _, (pS_nil), (pV_cons (List.mem_of_getElem? (i := 1) rfl) (pV_nil)), f_302_2⟩
theorem q_302_3 : pQ_302 u_302_3 := ⟨_, _, _, (pS_nil), (pV_cons (List.mem_of_getElem? (i := 1) rfl) (pV_nil)), f_302_3⟩
theorem q_302_4 : pQ_302 u_302_4 := ⟨_, _, _, (pS_nil), (pV_cons (List.mem_of_getElem? (i := 1) rfl) (pV_nil)), f_302_4⟩
theorem q_302_5 : pQ_302 u_302_5 := ⟨_, _, _, (pS_nil), (pV_cons (List.mem_of_getElem? (i := 1) rfl) (pV_nil)), f_302_5⟩
theorem q_302_6 : pQ_302 u_302_6 := ⟨_, _, _, (pS_nil), (pV_cons (List.mem_of_getElem? (i := 1) rfl) (pV_nil)), f_302_6⟩
theorem q_302_7 : pQ_302 u_302_7 := ⟨_, _, _, (pS_nil), (pV_cons (List.mem_of_getElem? (i := 8) rfl) (pV_nil)), f_302_7⟩
theorem q_302_8 : pQ_302 u_302_8 := ⟨_, _, _, (pS_nil), (pV_cons (List.mem_of_getElem? (i := 1) rfl) (pV_nil)), f_302_8⟩
theorem q_302_9 : pQ_302 u_302_9 := ⟨_, _, _, (pS_nil), (pV_cons (List.mem_of_getElem? (i := 10) rfl) (pV_nil)), f_302_9⟩
theorem q_302_10 : pQ_302 u_302_10 := ⟨_, _, _, (pS_nil), (pV_cons (List.mem_of_getElem? (i := 1) rfl) (pV_nil)), f_302_10⟩
theorem qb_302_0 : ∀ u ∈ [u_302_0, u_302_1, u_302_2, u_302_3, u_302_4, u_302_5, u_302_6, u_302_7, u_302_8, u_302_9], pQ_302 u := pU_cons q_302_0 (pU_cons q_302_1 (pU_cons q_302_2 (pU_cons q_302_3 (pU_cons q_302_4 (pU_cons q_302_5 (pU_cons q_302_6 (pU_cons q_302_7 (pU_cons q_302_8 (pU_cons q_302_9 (pU_nil))))))))))
theorem qb_302_1 : ∀ u ∈ [u_302_10], pQ_302 u := pU_cons q_302_10 (pU_nil)
theorem ok_302 : sInOk pPT i_302 := sInst2 (M := pm_192) (cus := us_302) pOk pg_192 (by decide +kernel) ⟨_, _, _, (pS_nil), (pV_cons (List.mem_of_getElem? (i := 0) rfl) (pV_nil)), e_302⟩ (show ∀ u ∈ us_302, pQ_302 u from (pU_app qb_302_0 qb_302_1))
def pQ_303 (u : sCu) : Prop := ∃ (SM : List sIn) (cu : List sCu) (n : Nat), (∀ I ∈ SM, sInOk pPT I) ∧ (∀ v ∈ cu, v ∈ us_303) ∧ sWkU pPT SM i_303 (mR pm_151) cu n u = true
theorem q_303_0 : pQ_303 u_303_0 := ⟨_, _, _, (pS_nil), (pV_cons (List.mem_of_getElem? (i := 1) rfl) (pV_nil)), f_303_0⟩
theorem q_303_1 : pQ_303 u_303_1 := ⟨_, _, _, (pS_nil), (pV_cons (List.mem_of_getElem? (i := 2) rfl) (pV_nil)), f_303_1⟩
theorem q_303_2 : pQ_303 u_303_2 := ⟨_, _, _, (pS_nil), (pV_cons (List.mem_of_getElem? (i := 3) rfl) (pV_cons (List.mem_of_getElem? (i := 4) rfl) (pV_nil))), f_303_2⟩
theorem q_303_3 : pQ_303 u_303_3 := ⟨_, _, _, (pS_nil), (pV_cons (List.mem_of_getElem? (i := 4) rfl) (pV_nil)), f_303_3⟩
theorem q_303_4 : pQ_303 u_303_4 := ⟨_, _, _, (pS_nil), (pV_cons (List.mem_of_getElem? (i := 5) rfl) (pV_nil)), f_303_4⟩
theorem q_303_5 : pQ_303 u_303_5 := ⟨_, _, _, (pS_nil), (pV_cons (List.mem_of_getElem? (i := 6) rfl) (pV_nil)), f_303_5⟩
theorem q_303_6 : pQ_303 u_303_6 := ⟨_, _, _, (pS_cons ok_302 (pS_nil)), (pV_nil), f_303_6⟩
theorem qb_303_0 : ∀ u ∈ [u_303_0, u_303_1, u_303_2, u_303_3, u_303_4, u_303_5, u_303_6], pQ_303 u := pU_cons q_303_0 (pU_cons q_303_1 (pU_cons q_303_2 (pU_cons q_303_3 (pU_cons q_303_4 (pU_cons q_303_5 (pU_cons q_303_6 (pU_nil)))))))
theorem ok_303 : sInOk pPT i_303 := sInst2 (M := pm_151) (cus := us_303) pOk pg_151 (by decide +kernel) ⟨_, _, _, (pS_nil), (pV_cons (List.mem_of_getElem? (i := 0) rfl) (pV_cons (List.mem_of_getElem? (i := 1) rfl) (pV_nil))), e_303⟩ (show ∀ u ∈ us_303, pQ_303 u from qb_303_0)
def pQ_304 (u : sCu) : Prop := ∃ (SM : List sIn) (cu : List sCu) (n : Nat), (∀ I ∈ SM, sInOk pPT I) ∧ (∀ v ∈ cu, v ∈ us_304) ∧ sWkU pPT SM i_304 (mR pm_148) cu n u = true
theorem q_304_0 : pQ_304 u_304_0 := ⟨_, _, _, (pS_nil), (pV_cons (List.mem_of_getElem? (i := 1) rfl) (pV_nil)), f_304_0⟩
theorem q_304_1 : pQ_304 u_304_1 := ⟨_, _, _, (pS_nil), (pV_cons (List.mem_of_getElem? (i := 2) rfl) (pV_cons (List.mem_of_getElem? (i := 3) rfl) (pV_nil))), f_304_1⟩
theorem q_304_2 : pQ_304 u_304_2 := ⟨_, _, _, (pS_nil), (pV_cons (List.mem_of_getElem? (i := 3) rfl) (pV_nil)), f_304_2⟩
theorem q_304_3 : pQ_304 u_304_3 := ⟨_, _, _, (pS_nil), (pV_cons (List.mem_of_getElem? (i := 4) rfl) (pV_nil)), f_304_3⟩
theorem q_304_4 : pQ_304 u_304_4 := ⟨_, _, _, (pS_cons ok_303 (pS_nil)), (pV_nil), f_304_4⟩
theorem qb_304_0 : ∀ u ∈ [u_304_0, u_304_1, u_304_2, u_304_3, u_304_4], pQ_304 u := pU_cons q_304_0 (pU_cons q_304_1 (pU_cons q_304_2 (pU_cons q_304_3 (pU_cons q_304_4 (pU_nil)))))
theorem ok_304 : sInOk pPT i_304 := sInst2 (M := pm_148) (cus := us_304) pOk pg_148 (by decide +kernel) ⟨_, _, _, (pS_nil), (pV_cons (List.mem_of_getElem? (i := 0) rfl) (pV_cons (List.mem_of_getElem? (i := 1) rfl) (pV_nil))), e_304⟩ (show ∀ u ∈ us_304, pQ_304 u from qb_304_0)
def pQ_305 (u : sCu) : Prop := ∃ (SM : List sIn) (cu : List sCu) (n : Nat), (∀ I ∈ SM, sInOk pPT I) ∧ (∀ v ∈ cu, v ∈ us_305) ∧ sWkU pPT SM i_305 (mR pm_147) cu n u = true
theorem q_305_0 : pQ_305 u_305_0 := ⟨_, _, _, (pS_cons ok_304 (pS_nil)), (pV_cons (List.mem_of_getElem? (i := 1) rfl) (pV_nil)), f_305_0⟩
theorem q_305_1 : pQ_305 u_305_1 := ⟨_, _, _, (pS_nil), (pV_cons (List.mem_of_getElem? (i := 0) rfl) (pV_nil)), f_305_1⟩
theorem qb_305_0 : ∀ u ∈ [u_305_0, u_305_1], pQ_305 u := pU_cons q_305_0 (pU_cons q_305_1 (pU_nil))
theorem ok_305 : sInOk pPT i_305 := sInst2 (M := pm_147) (cus := us_305) pOk pg_147 (by decide +kernel) ⟨_, _, _, (pS_nil), (pV_cons (List.mem_of_getElem? (i := 0) rfl) (pV_nil)), e_305⟩ (show ∀ u ∈ us_305, pQ_305 u from qb_305_0)
def pQ_306 (u : sCu) : Prop := ∃ (SM : List sIn) (cu : List sCu) (n : Nat), (∀ I ∈ SM, sInOk pPT I) ∧ (∀ v ∈ cu, v ∈ us_306) ∧ sWkU pPT SM i_306 (mR pm_143) cu n u = true
theorem q_306_0 : pQ_306 u_306_0 := ⟨_, _, _, (pS_cons ok_301 (pS_cons ok_305 (pS_nil))), (pV_cons (List.mem_of_getElem? (i := 1) rfl) (pV_nil)), f_306_0⟩
theorem q_306_1 : pQ_306 u_306_1 := ⟨_, _, _, (pS_nil), (pV_cons (List.mem_of_getElem? (i := 0) rfl) (pV_nil)), f_306_1⟩
theorem qb_306_0 : ∀ u ∈ [u_306_0, u_306_1], pQ_306 u := pU_cons q_306_0 (pU_cons q_306_1 (pU_nil))
theorem ok_306 : sInOk pPT i_306 := sInst2 (M := pm_143) (cus := us_306) pOk pg_143 (by decide +kernel) ⟨_, _, _, (pS_cons ok_300 (pS_nil)), (pV_cons (List.mem_of_getElem? (i := 0) rfl) (pV_nil)), e_306⟩ (show ∀ u ∈ us_306, pQ_306 u from qb_306_0)
def pQ_307 (u : sCu) : Prop := ∃ (SM : List sIn) (cu : List sCu) (n : Nat), (∀ I ∈ SM, sInOk pPT I) ∧ (∀ v ∈ cu, v ∈ us_307) ∧ sWkU pPT SM i_307 (mR pm_229) cu n u = true
theorem q_307_0 : pQ_307 u_307_0 := ⟨_, _, _, (pS_cons ok_306 (pS_nil)), (pV_cons (List.mem_of_getElem? (i := 1) rfl) (pV_nil)), f_307_0⟩
theorem q_307_1 : pQ_307 u_307_1 := ⟨_, _, _, (pS_nil), (pV_cons (List.mem_of_getElem? (i := 0) rfl) (pV_nil)), f_307_1⟩
theorem qb_307_0 : ∀ u ∈ [u_307_0, u_307_1], pQ_307 u := pU_cons q_307_0 (pU_cons q_307_1 (pU_nil))
theorem ok_307 : sInOk pPT i_307 := sInst2 (M := pm_229) (cus := us_307) pOk pg_229 (by decide +kernel) ⟨_, _, _, (pS_cons ok_299 (pS_nil)), (pV_cons (List.mem_of_getElem? (i := 0) rfl) (pV_nil)), e_307⟩ (show ∀ u ∈ us_307, pQ_307 u from qb_307_0)
theorem ok_308 : sInOk pPT i_308 := sInst2 (M := pm_265) (cus := []) pOk pg_265 (by decide +kernel) ⟨_, _, _, (pS_cons ok_307 (pS_nil)), pV_nil, e_308⟩ pU_nil
theorem ok_309 : sInOk pPT i_309 := sInst2 (M := pm_19) (cus := []) pOk pg_19 (by decide +kernel) ⟨_, _, _, (pS_cons ok_308 (pS_nil)), pV_nil, e_309⟩ pU_nil
def pQ_310 (u : sCu) : Prop := ∃ (SM : List sIn) (cu : List sCu) (n : Nat), (∀ I ∈ SM, sInOk pPT I) ∧ (∀ v ∈ cu, v ∈ us_310) ∧ sWkU pPT SM i_310 (mR pm_32) cu n u = true
theorem q_310_0 : pQ_310 u_310_0 := ⟨_, _, _, (pS_nil), (pV_cons (List.mem_of_getElem? (i := 0) rfl) (pV_nil)), f_310_0⟩
theorem qb_310_0 : ∀ u ∈ [u_310_0], pQ_310 u := pU_cons q_310_0 (pU_nil)
theorem ok_310 : sInOk pPT i_310 := sInst2 (M := pm_32) (cus := us_310) pOk pg_32 (by decide +kernel) ⟨_, _, _, (pS_nil), (pV_cons (List.mem_of_getElem? (i := 0) rfl) (pV_nil)), e_310⟩ (show ∀ u ∈ us_310, pQ_310 u from qb_310_0)
def pQ_311 (u : sCu) : Prop := ∃ (SM : List sIn) (cu : List sCu) (n : Nat), (∀ I ∈ SM, sInOk pPT I) ∧ (∀ v ∈ cu, v ∈ us_311) ∧ sWkU pPT SM i_311 (mR pm_109) cu n u = true
theorem q_311_0 : pQ_311 u_311_0 := ⟨_, _, _, (pS_nil), (pV_nil), f_311_0⟩
theorem q_311_1 : pQ_311 u_311_1 := ⟨_, _, _, (pS_nil), (pV_cons (List.mem_of_getElem? (i := 4) rfl) (pV_cons (List.mem_of_getElem? (i := 2) rfl) (pV_cons (List.mem_of_getElem? (i := 3) rfl) (pV_nil)))), f_311_1⟩
theorem q_311_2 : pQ_311 u_311_2 := ⟨_, _, _, (pS_nil), (pV_cons (List.mem_of_getElem? (i := 3) rfl) (pV_nil)), f_311_2⟩
theorem q_311_3 : pQ_311 u_311_3 := ⟨_, _, _, (pS_nil), (pV_cons (List.mem_of_getElem? (i := 1) rfl) (pV_nil)), f_311_3⟩
theorem q_311_4 : pQ_311 u_311_4 := ⟨_, _, _, (pS_cons ok_310 (pS_nil)), (pV_cons (List.mem_of_getElem? (i := 6) rfl) (pV_cons (List.mem_of_getElem? (i := 5) rfl) (pV_nil))), f_311_4⟩
theorem q_311_5 : pQ_311 u_311_5 := ⟨_, _, _, (pS_cons ok_243 (pS_nil)), (pV_cons (List.mem_of_getElem? (i := 6) rfl) (pV_nil)), f_311_5⟩
theorem q_311_6 : pQ_311 u_311_6 := ⟨_, _, _, (pS_nil), (pV_cons (List.mem_of_getElem? (i := 4) rfl) (pV_nil)), f_311_6⟩
theorem qb_311_0 : ∀ u ∈ [u_311_0, u_311_1, u_311_2, u_311_3, u_311_4, u_311_5, u_311_6], pQ_311 u := pU_cons q_311_0 (pU_cons q_311_1 (pU_cons q_311_2 (pU_cons q_311_3 (pU_cons q_311_4 (pU_cons q_311_5 (pU_cons q_311_6 (pU_nil)))))))
theorem ok_311 : sInOk pPT i_311 := sInst2 (M := pm_109) (cus := us_311) pOk pg_109 (by decide +kernel) ⟨_, _, _, (pS_cons ok_239 (pS_nil)), (pV_cons (List.mem_of_getElem? (i := 0) rfl) (pV_cons (List.mem_of_getElem? (i := 1) rfl) (pV_nil))), e_311⟩ (show ∀ u ∈ us_311, pQ_311 u from qb_311_0)
def pQ_312 (u : sCu) : Prop := ∃ (SM : List sIn) (cu : List sCu) (n : Nat), (∀ I ∈ SM, sInOk pPT I) ∧ (∀ v ∈ cu, v ∈ us_312) ∧ sWkU pPT SM i_312 (mR pm_144) cu n u = true
theorem q_312_0 : pQ_312 u_312_0 := ⟨_, _, _, (pS_cons ok_306 (pS_nil)), (pV_cons (List.mem_of_getElem? (i := 0) rfl) (pV_nil)), f_312_0⟩
theorem qb_312_0 : ∀ u ∈ [u_312_0], pQ_312 u := pU_cons q_312_0 (pU_nil)
theorem ok_312 : sInOk pPT i_312 := sInst2 (M := pm_144) (cus := us_312) pOk pg_144 (by decide +kernel) ⟨_, _, _, (pS_nil), (pV_cons (List.mem_of_getElem? (i := 0) rfl) (pV_nil)), e_312⟩ (show ∀ u ∈ us_312, pQ_312 u from qb_312_0)
def pQ_313 (u : sCu) : Prop := ∃ (SM : List sIn) (cu : List sCu) (n : Nat), (∀ I ∈ SM, sInOk pPT I) ∧ (∀ v ∈ cu, v ∈ us_313) ∧ sWkU pPT SM i_313 (mR pm_141) cu n u = true
theorem q_313_0 : pQ_313 u_313_0 := ⟨_, _, _, (pS_nil), (pV_cons (List.mem_of_getElem? (i := 1) rfl) (pV_cons (List.mem_of_getElem? (i := 2) rfl) (pV_nil))), f_313_0⟩
theorem q_313_1 : pQ_313 u_313_1 := ⟨_, _, _, (pS_nil), (pV_cons (List.mem_of_getElem? (i := 0) rfl) (pV_nil)), f_313_1⟩
theorem q_313_2 : pQ_313 u_313_2 := ⟨_, _, _, (pS_nil), (pV_cons (List.mem_of_getElem? (i := 1) rfl) (pV_nil)), f_313_2⟩
theorem qb_313_0 : ∀ u ∈ [u_313_0, u_313_1, u_313_2], pQ_313 u := pU_cons q_313_0 (pU_cons q_313_1 (pU_cons q_313_2 (pU_nil)))
theorem ok_313 : sInOk pPT i_313 := sInst2 (M := pm_141) (cus := us_313) pOk pg_141 (by decide +kernel) ⟨_, _, _, (pS_nil), (pV_cons (List.mem_of_getElem? (i := 0) rfl) (pV_nil)), e_313⟩ (show ∀ u ∈ us_313, pQ_313 u from qb_313_0)
def pQ_314 (u : sCu) : Prop := ∃ (SM : List sIn) (cu : List sCu) (n : Nat), (∀ I ∈ SM, sInOk pPT I) ∧ (∀ v ∈ cu, v ∈ us_314) ∧ sWkU pPT SM i_314 (mR pm_140) cu n u = true
theorem q_314_0 : pQ_314 u_314_0 := ⟨_, _, _, (pS_cons ok_313 (pS_nil)), (pV_cons (List.mem_of_getElem? (i := 1) rfl) (pV_nil)), f_314_0⟩
theorem q_314_1 : pQ_314 u_314_1 := ⟨_, _, _, (pS_nil), (pV_cons (List.mem_of_getElem? (i := 0) rfl) (pV_nil)), f_314_1⟩
theorem qb_314_0 : ∀ u ∈ [u_314_0, u_314_1], pQ_314 u := pU_cons q_314_0 (pU_cons q_314_1 (pU_nil))
theorem ok_314 : sInOk pPT i_314 := sInst2 (M := pm_140) (cus := us_314) pOk pg_140 (by decide +kernel) ⟨_, _, _, (pS_nil), (pV_cons (List.mem_of_getElem? (i := 0) rfl) (pV_nil)), e_314⟩ (show ∀ u ∈ us_314, pQ_314 u from qb_314_0)
theorem ok_315 : sInOk pPT i_315 := sInst2 (M := pm_142) (cus := []) pOk pg_142 (by decide +kernel) ⟨_, _, _, (pS_cons ok_233 (pS_cons ok_314 (pS_nil))), pV_nil, e_315⟩ pU_nil
theorem ok_316 : sInOk pPT i_316 := sInst2 (M := pm_221) (cus := []) pOk pg_221 (by decide +kernel) ⟨_, _, _, (pS_cons ok_234 (pS_cons ok_312 (pS_cons ok_315 (pS_nil)))), pV_nil, e_316⟩ pU_nil
theorem ok_317 : sInOk pPT i_317 := sInst2 (M := pm_251) (cus := []) pOk pg_251 (by decide +kernel) ⟨_, _, _, (pS_cons ok_316 (pS_nil)), pV_nil, e_317⟩ pU_nil
theorem ok_318 : sInOk pPT i_318 := sInst2 (M := pm_12) (cus := []) pOk pg_12 (by decide +kernel) ⟨_, _, _, (pS_cons ok_317 (pS_nil)), pV_nil, e_318⟩ pU_nil
theorem ok_319 : sInOk pPT i_319 := sInst2 (M := pm_81) (cus := []) pOk pg_81 (by decide +kernel) ⟨_, _, _, (pS_cons ok_244 (pS_cons ok_246 (pS_nil))), pV_nil, e_319⟩ pU_nil
theorem ok_320 : sInOk pPT i_320 := sInst2 (M := pm_80) (cus := []) pOk pg_80 (by decide +kernel) ⟨_, _, _, (pS_cons ok_319 (pS_nil)), pV_nil, e_320⟩ pU_nil
def pQ_321 (u : sCu) : Prop := ∃ (SM : List sIn) (cu : List sCu) (n : Nat), (∀ I ∈ SM, sInOk pPT I) ∧ (∀ v ∈ cu, v ∈ us_321) ∧ sWkU pPT SM i_321 (mR pm_238) cu n u = true
theorem q_321_0 : pQ_321 u_321_0 := ⟨_, _, _, (pS_cons ok_316 (pS_nil)), (pV_cons (List.mem_of_getElem? (i := 1) rfl) (pV_cons (List.mem_of_getElem? (i := 2) rfl) (pV_nil))), f_321_0⟩
theorem q_321_1 : pQ_321 u_321_1 := ⟨_, _, _, (pS_nil), (pV_cons (List.mem_of_getElem? (i := 2) rfl) (pV_nil)), f_321_1⟩
theorem q_321_2 : pQ_321 u_321_2 := ⟨_, _, _, (pS_nil), (pV_cons (List.mem_of_getElem? (i := 0) rfl) (pV_nil)), f_321_2⟩
theorem qb_321_0 : ∀ u ∈ [u_321_0, u_321_1, u_321_2], pQ_321 u := pU_cons q_321_0 (pU_cons q_321_1 (pU_cons q_321_2 (pU_nil)))
theorem ok_321 : sInOk pPT i_321 := sInst2 (M := pm_238) (cus := us_321) pOk pg_238 (by decide +kernel) ⟨_, _, _, (pS_nil), (pV_cons (List.mem_of_getElem? (i := 0) rfl) (pV_nil)), e_321⟩ (show ∀ u ∈ us_321, pQ_321 u from qb_321_0)
def pQ_322 (u : sCu) : Prop := ∃ (SM : List sIn) (cu : List sCu) (n : Nat), (∀ I ∈ SM, sInOk pPT I) ∧ (∀ v ∈ cu, v ∈ us_322) ∧ sWkU pPT SM i_322 (mR pm_41) cu n u = true
theorem q_322_0 : pQ_322 u_322_0 := ⟨_, _, _, (pS_cons ok_319 (pS_nil)), (pV_cons (List.mem_of_getElem? (i := 1) rfl) (pV_cons (List.mem_of_getElem? (i := 2) rfl) (pV_nil))), f_322_0⟩
theorem q_322_1 : pQ_322 u_322_1 := ⟨_, _, _, (pS_nil), (pV_cons (List.mem_of_getElem? (i := 2) rfl) (pV_nil)), f_322_1⟩
theorem q_322_2 : pQ_322 u_322_2 := ⟨_, _, _, (pS_nil), (pV_cons (List.mem_of_getElem? (i := 0) rfl) (pV_nil)), f_322_2⟩
theorem qb_322_0 : ∀ u ∈ [u_322_0, u_322_1, u_322_2], pQ_322 u := pU_cons q_322_0 (pU_cons q_322_1 (pU_cons q_322_2 (pU_nil)))
theorem ok_322 : sInOk pPT i_322 := sInst2 (M := pm_41) (cus := us_322) pOk pg_41 (by decide +kernel) ⟨_, _, _, (pS_nil), (pV_cons (List.mem_of_getElem? (i := 0) rfl) (pV_nil)), e_322⟩ (show ∀ u ∈ us_322, pQ_322 u from qb_322_0)
theorem ok_323 : sInOk pPT i_323 := sInst2 (M := pm_245) (cus := []) pOk pg_245 (by decide +kernel) ⟨_, _, _, (pS_cons ok_249 (pS_nil)), pV_nil, e_323⟩ pU_nil
theorem ok_324 : sInOk pPT i_324 := sInst2 (M := pm_8) (cus := []) pOk pg_8 (by decide +kernel) ⟨_, _, _, (pS_cons ok_323 (pS_nil)), pV_nil, e_324⟩ pU_nil
theorem ok_325 : sInOk pPT i_325 := sInst2 (M := pm_53) (cus := []) pOk pg_53 (by decide +kernel) ⟨_, _, _, (pS_cons ok_244 (pS_cons ok_252 (pS_nil))), pV_nil, e_325⟩ pU_nil
def pQ_326 (u : sCu) : Prop := ∃ (SM : List sIn) (cu : List sCu) (n : Nat), (∀ I ∈ SM, sInOk pPT I) ∧ (∀ v ∈ cu, v ∈ us_326) ∧ sWkU pPT SM i_326 (mR pm_137) cu n u = true
theorem q_326_0 : pQ_326 u_326_0 := ⟨_, _, _, (pS_nil), (pV_cons (List.mem_of_getElem? (i := 1) rfl) (pV_nil)), f_326_0⟩
theorem q_326_1 : pQ_326 u_326_1 := ⟨_, _, _, (pS_nil), (pV_cons (List.mem_of_getElem? (i := 0) rfl) (pV_nil)), f_326_1⟩
theorem qb_326_0 : ∀ u ∈ [u_326_0, u_326_1], pQ_326 u := pU_cons q_326_0 (pU_cons q_326_1 (pU_nil))
theorem ok_326 : sInOk pPT i_326 := sInst2 (M := pm_137) (cus := us_326) pOk pg_137 (by decide +kernel) ⟨_, _, _, (pS_nil), (pV_cons (List.mem_of_getElem? (i := 0) rfl) (pV_nil)), e_326⟩ (show ∀ u ∈ us_326, pQ_326 u from qb_326_0)
def pQ_327 (u : sCu) : Prop := ∃ (SM : List sIn) (cu : List sCu) (n : Nat), (∀ I ∈ SM, sInOk pPT I) ∧ (∀ v ∈ cu, v ∈ us_327) ∧ sWkU pPT SM i_327 (mR pm_131) cu n u = true
theorem q_327_0 : pQ_327 u_327_0 := ⟨_, _, _, (pS_cons ok_326 (pS_nil)), (pV_cons (List.mem_of_getElem? (i := 0) rfl) (pV_nil)), f_327_0⟩
theorem qb_327_0 : ∀ u ∈ [u_327_0], pQ_327 u := pU_cons q_327_0 (pU_nil)
theorem ok_327 : sInOk pPT i_327 := sInst2 (M := pm_131) (cus := us_327) pOk pg_131 (by decide +kernel) ⟨_, _, _, (pS_nil), (pV_cons (List.mem_of_getElem? (i := 0) rfl) (pV_nil)), e_327⟩ (show ∀ u ∈ us_327, pQ_327 u from qb_327_0)
theorem ok_328 : sInOk pPT i_328 := sInst2 (M := pm_225) (cus := []) pOk pg_225 (by decide +kernel) ⟨_, _, _, (pS_cons ok_236 (pS_cons ok_312 (pS_cons ok_327 (pS_nil)))), pV_nil, e_328⟩ pU_nil
theorem ok_329 : sInOk pPT i_329 := sInst2 (M := pm_252) (cus := []) pOk pg_252 (by decide +kernel) ⟨_, _, _, (pS_cons ok_328 (pS_nil)), pV_nil, e_329⟩ pU_nil
theorem ok_330 : sInOk pPT i_330 := sInst2 (M := pm_13) (cus := []) pOk pg_13 (by decide +kernel) ⟨_, _, _, (pS_cons ok_329 (pS_nil)), pV_nil, e_330⟩ pU_nil
def pQ_331 (u : sCu) : Prop := ∃ (SM : List sIn) (cu : List sCu) (n : Nat), (∀ I ∈ SM, sInOk pPT I) ∧ (∀ v ∈ cu, v ∈ us_331) ∧ sWkU pPT SM i_331 (mR pm_82) cu n u = true
theorem q_331_0 : pQ_331 u_331_0 := ⟨_, _, _, (pS_nil), (pV_nil), f_331_0⟩
theorem qb_331_0 : ∀ u ∈ [u_331_0], pQ_331 u := pU_cons q_331_0 (pU_nil)
theorem ok_331 : sInOk pPT i_331 := sInst2 (M := pm_82) (cus := us_331) pOk pg_82 (by decide +kernel) ⟨_, _, _, (pS_cons ok_244 (pS_cons ok_247 (pS_nil))), (pV_cons (List.mem_of_getElem? (i := 0) rfl) (pV_nil)), e_331⟩ (show ∀ u ∈ us_331, pQ_331 u from qb_331_0)
theorem ok_332 : sInOk pPT i_332 := sInst2 (M := pm_217) (cus := []) pOk pg_217 (by decide +kernel) ⟨_, _, _, (pS_cons ok_236 (pS_cons ok_312 (pS_cons ok_327 (pS_nil)))), pV_nil, e_332⟩ pU_nil
theorem ok_333 : sInOk pPT i_333 := sInst2 (M := pm_271) (cus := []) pOk pg_271 (by decide +kernel) ⟨_, _, _, (pS_cons ok_332 (pS_nil)), pV_nil, e_333⟩ pU_nil
theorem ok_334 : sInOk pPT i_334 := sInst2 (M := pm_22) (cus := []) pOk pg_22 (by decide +kernel) ⟨_, _, _, (pS_cons ok_333 (pS_nil)), pV_nil, e_334⟩ pU_nil
theorem ok_335 : sInOk pPT i_335 := sInst2 (M := pm_126) (cus := []) pOk pg_126 (by decide +kernel) ⟨_, _, _, (pS_cons ok_244 (pS_cons ok_247 (pS_nil))), pV_nil, e_335⟩ pU_nil
def pQ_336 (u : sCu) : Prop := ∃ (SM : List sIn) (cu : List sCu) (n : Nat), (∀ I ∈ SM, sInOk pPT I) ∧ (∀ v ∈ cu, v ∈ us_336) ∧ sWkU pPT SM i_336 (mR pm_261) cu n u = true
theorem q_336_0 : pQ_336 u_336_0 := ⟨_, _, _, (pS_nil), (pV_cons (List.mem_of_getElem? (i := 1) rfl) (pV_cons (List.mem_of_getElem? (i := 2) rfl) (pV_cons (List.mem_of_getElem? (i := 3) rfl) (pV_nil)))), f_336_0⟩
theorem q_336_1 : pQ_336 u_336_1 := ⟨_, _, _, (pS_nil), (pV_cons (List.mem_of_getElem? (i := 4) rfl) (pV_cons (List.mem_of_getElem? (i := 5) rfl) (pV_nil))), f_336_1⟩
theorem q_336_2 : pQ_336 u_336_2 := ⟨_, _, _, (pS_nil), (pV_cons (List.mem_of_getElem? (i := 3) rfl) (pV_nil)), f_336_2⟩
theorem q_336_3 : pQ_336 u_336_3 := ⟨_, _, _, (pS_nil), (pV_cons (List.mem_of_getElem? (i := 0) rfl) (pV_nil)), f_336_3⟩
theorem q_336_4 : pQ_336 u_336_4 := ⟨_, _, _, (pS_nil), (pV_cons (List.mem_of_getElem? (i := 5) rfl) (pV_nil)), f_336_4⟩
theorem q_336_5 : pQ_336 u_336_5 := ⟨_, _, _, (pS_nil), (pV_cons (List.mem_of_getElem? (i := 1) rfl) (pV_nil)), f_336_5⟩
theorem qb_336_0 : ∀ u ∈ [u_336_0, u_336_1, u_336_2, u_336_3, u_336_4, u_336_5], pQ_336 u := pU_cons q_336_0 (pU_cons q_336_1 (pU_cons q_336_2 (pU_cons q_336_3 (pU_cons q_336_4 (pU_cons q_336_5 (pU_nil))))))
theorem ok_336 : sInOk pPT i_336 := sInst2 (M := pm_261) (cus := us_336) pOk pg_261 (by decide +kernel) ⟨_, _, _, (pS_nil), (pV_cons (List.mem_of_getElem? (i := 0) rfl) (pV_nil)), e_336⟩ (show ∀ u ∈ us_336, pQ_336 u from qb_336_0)
def pQ_337 (u : sCu) : Prop := ∃ (SM : List sIn) (cu : List sCu) (n : Nat), (∀ I ∈ SM, sInOk pPT I) ∧ (∀ v ∈ cu, v ∈ us_337) ∧ sWkU pPT SM i_337 (mR pm_239) cu n u = true
theorem q_337_0 : pQ_337 u_337_0 := ⟨_, _, _, (pS_cons ok_336 (pS_nil)), (pV_cons (List.mem_of_getElem? (i := 1) rfl) (pV_nil)), f_337_0⟩
theorem q_337_1 : pQ_337 u_337_1 := ⟨_, _, _, (pS_cons ok_336 (pS_nil)), (pV_cons (List.mem_of_getElem? (i := 2) rfl) (pV_nil)), f_337_1⟩
theorem q_337_2 : pQ_337 u_337_2 := ⟨_, _, _, (pS_nil), (pV_cons (List.mem_of_getElem? (i := 1) rfl) (pV_nil)), f_337_2⟩
theorem qb_337_0 : ∀ u ∈ [u_337_0, u_337_1, u_337_2], pQ_337 u := pU_cons q_337_0 (pU_cons q_337_1 (pU_cons q_337_2 (pU_nil)))
theorem ok_337 : sInOk pPT i_337 := sInst2 (M := pm_239) (cus := us_337) pOk pg_239 (by decide +kernel) ⟨_, _, _, (pS_nil), (pV_cons (List.mem_of_getElem? (i := 0) rfl) (pV_nil)), e_337⟩ (show ∀ u ∈ us_337, pQ_337 u from qb_337_0)
theorem ok_338 : sInOk pPT i_338 := sInst2 (M := pm_6) (cus := []) pOk pg_6 (by decide +kernel) ⟨_, _, _, (pS_cons ok_337 (pS_nil)), pV_nil, e_338⟩ pU_nil
def pQ_339 (u : sCu) : Prop := ∃ (SM : List sIn) (cu : List sCu) (n : Nat), (∀ I ∈ SM, sInOk pPT I) ∧ (∀ v ∈ cu, v ∈ us_339) ∧ sWkU pPT SM i_339 (mR pm_44) cu n u = true
theorem q_339_0 : pQ_339 u_339_0 := ⟨_, _, _, (pS_nil), (pV_cons (List.mem_of_getElem? (i := 1) rfl) (pV_cons (List.mem_of_getElem? (i := 2) rfl) (pV_nil))), f_339_0⟩
theorem q_339_1 : pQ_339 u_339_1 := ⟨_, _, _, (pS_nil), (pV_cons (List.mem_of_getElem? (i := 3) rfl) (pV_cons (List.mem_of_getElem? (i := 5) rfl) (pV_cons (List.mem_of_getElem? (i := 6) rfl) (pV_nil)))), f_339_1⟩
theorem q_339_2 : pQ_339 u_339_2 := ⟨_, _, _, (pS_nil), (pV_cons (List.mem_of_getElem? (i := 0) rfl) (pV_nil)), f_339_2⟩
theorem q_339_3 : pQ_339 u_339_3 := ⟨_, _, _, (pS_nil), (pV_cons (List.mem_of_getElem? (i := 4) rfl) (pV_nil)), f_339_3⟩
theorem q_339_4 : pQ_339 u_339_4 := ⟨_, _, _, (pS_nil), (pV_cons (List.mem_of_getElem? (i := 3) rfl) (pV_nil)), f_339_4⟩
theorem q_339_5 : pQ_339 u_339_5 := ⟨_, _, _, (pS_nil), (pV_cons (List.mem_of_getElem? (i := 6) rfl) (pV_nil)), f_339_5⟩
theorem q_339_6 : pQ_339 u_339_6 := ⟨_, _, _, (pS_nil), (pV_cons (List.mem_of_getElem? (i := 1) rfl) (pV_nil)), f_339_6⟩
theorem qb_339_0 : ∀ u ∈ [u_339_0, u_339_1, u_339_2, u_339_3, u_339_4, u_339_5, u_339_6], pQ_339 u := pU_cons q_339_0 (pU_cons q_339_1 (pU_cons q_339_2 (pU_cons q_339_3 (pU_cons q_339_4 (pU_cons q_339_5 (pU_cons q_339_6 (pU_nil)))))))
theorem ok_339 : sInOk pPT i_339 := sInst2 (M := pm_44) (cus := us_339) pOk pg_44 (by decide +kernel) ⟨_, _, _, (pS_nil), (pV_cons (List.mem_of_getElem? (i := 0) rfl) (pV_nil)), e_339⟩ (show ∀ u ∈ us_339, pQ_339 u from qb_339_0)
def pQ_340 (u : sCu) : Prop := ∃ (SM : List sIn) (cu : List sCu) (n : Nat), (∀ I ∈ SM, sInOk pPT I) ∧ (∀ v ∈ cu, v ∈ us_340) ∧ sWkU pPT SM i_340 (mR pm_44) cu n u = true
theorem q_340_0 : pQ_340 u_340_0 := ⟨_, _, _, (pS_nil), (pV_cons (List.mem_of_getElem? (i := 1) rfl) (pV_cons (List.mem_of_getElem? (i := 2) rfl) (pV_nil))), f_340_0⟩
theorem q_340_1 : pQ_340 u_340_1 := ⟨_, _, _, (pS_nil), (pV_cons (List.mem_of_getElem? (i := 3) rfl) (pV_cons (List.mem_of_getElem? (i := 5) rfl) (pV_cons (List.mem_of_getElem? (i := 6) rfl) (pV_nil)))), f_340_1⟩
theorem q_340_2 : pQ_340 u_340_2 := ⟨_, _, _, (pS_nil), (pV_cons (List.mem_of_getElem? (i := 0) rfl) (pV_nil)), f_340_2⟩
theorem q_340_3 : pQ_340 u_340_3 := ⟨_, _, _, (pS_nil), (pV_cons (List.mem_of_getElem? (i := 4) rfl) (pV_nil)), f_340_3⟩
theorem q_340_4 : pQ_340 u_340_4 := ⟨_, _, _, (pS_nil), (pV_cons (List.mem_of_getElem? (i := 3) rfl) (pV_nil)), f_340_4⟩
theorem q_340_5 : pQ_340 u_340_5 := ⟨_, _, _, (pS_nil), (pV_cons (List.mem_of_getElem? (i := 6) rfl) (pV_nil)), f_340_5⟩
theorem q_340_6 : pQ_340 u_340_6 := ⟨_, _, _, (pS_nil), (pV_cons (List.mem_of_getElem? (i := 1) rfl) (pV_nil)), f_340_6⟩
theorem qb_340_0 : ∀ u ∈ [u_340_0, u_340_1, u_340_2, u_340_3, u_340_4, u_340_5, u_340_6], pQ_340 u := pU_cons q_340_0 (pU_cons q_340_1 (pU_cons q_340_2 (pU_cons q_340_3 (pU_cons q_340_4 (pU_cons q_340_5 (pU_cons q_340_6 (pU_nil)))))))
theorem ok_340 : sInOk pPT i_340 := sInst2 (M := pm_44) (cus := us_340) pOk pg_44 (by decide +kernel) ⟨_, _, _, (pS_nil), (pV_cons (List.mem_of_getElem? (i := 0) rfl) (pV_nil)), e_340⟩ (show ∀ u ∈ us_340, pQ_340 u from qb_340_0)
def pQ_341 (u : sCu) : Prop := ∃ (SM : List sIn) (cu : List sCu) (n : Nat), (∀ I ∈ SM, sInOk pPT I) ∧ (∀ v ∈ cu, v ∈ us_341) ∧ sWkU pPT SM i_341 (mR pm_44) cu n u = true
theorem q_341_0 : pQ_341 u_341_0 := ⟨_, _, _, (pS_nil), (pV_cons (List.mem_of_getElem? (i := 1) rfl) (pV_cons (List.mem_of_getElem? (i := 2) rfl) (pV_nil))), f_341_0⟩
theorem q_341_1 : pQ_341 u_341_1 := ⟨_, _, _, (pS_nil), (pV_cons (List.mem_of_getElem? (i := 3) rfl) (pV_cons (List.mem_of_getElem? (i := 5) rfl) (pV_cons (List.mem_of_getElem? (i := 6) rfl) (pV_nil)))), f_341_1⟩
theorem q_341_2 : pQ_341 u_341_2 := ⟨_, _, _, (pS_nil), (pV_cons (List.mem_of_getElem? (i := 0) rfl) (pV_nil)), f_341_2⟩
theorem q_341_3 : pQ_341 u_341_3 := ⟨_, _, _, (pS_nil), (pV_cons (List.mem_of_getElem? (i := 4) rfl) (pV_nil)), f_341_3⟩
theorem q_341_4 : pQ_341 u_341_4 := ⟨_, _, _, (pS_nil), (pV_cons (List.mem_of_getElem? (i := 3) rfl) (pV_nil)), f_341_4⟩
theorem q_341_5 : pQ_341 u_341_5 := ⟨_, _, _, (pS_nil), (pV_cons (List.mem_of_getElem? (i := 6) rfl) (pV_nil)), f_341_5⟩
theorem q_341_6 : pQ_341 u_341_6 := ⟨_, _, _, (pS_nil), (pV_cons (List.mem_of_getElem? (i := 1) rfl) (pV_nil)), f_341_6⟩
theorem qb_341_0 : ∀ u ∈ [u_341_0, u_341_1, u_341_2, u_341_3, u_341_4, u_341_5, u_341_6], pQ_341 u := pU_cons q_341_0 (pU_cons q_341_1 (pU_cons q_341_2 (pU_cons q_341_3 (pU_cons q_341_4 (pU_cons q_341_5 (pU_cons q_341_6 (pU_nil)))))))
theorem ok_341 : sInOk pPT i_341 := sInst2 (M := pm_44) (cus := us_341) pOk pg_44 (by decide +kernel) ⟨_, _, _, (pS_nil), (pV_cons (List.mem_of_getElem? (i := 0) rfl) (pV_nil)), e_341⟩ (show ∀ u ∈ us_341, pQ_341 u from qb_341_0)
def pQ_342 (u : sCu) : Prop := ∃ (SM : List sIn) (cu : List sCu) (n : Nat), (∀ I ∈ SM, sInOk pPT I) ∧ (∀ v ∈ cu, v ∈ us_342) ∧ sWkU pPT SM i_342 (mR pm_43) cu n u = true
theorem q_342_0 : pQ_342 u_342_0 := ⟨_, _, _, (pS_nil), (pV_nil), f_342_0⟩
theorem q_342_1 : pQ_342 u_342_1 := ⟨_, _, _, (pS_cons ok_341 (pS_nil)), (pV_cons (List.mem_of_getElem? (i := 2) rfl) (pV_nil)), f_342_1⟩
theorem q_342_2 : pQ_342 u_342_2 := ⟨_, _, _, (pS_nil), (pV_cons (List.mem_of_getElem? (i := 1) rfl) (pV_nil)), f_342_2⟩
theorem qb_342_0 : ∀ u ∈ [u_342_0, u_342_1, u_342_2], pQ_342 u := pU_cons q_342_0 (pU_cons q_342_1 (pU_cons q_342_2 (pU_nil)))
theorem ok_342 : sInOk pPT i_342 := sInst2 (M := pm_43) (cus := us_342) pOk pg_43 (by decide +kernel) ⟨_, _, _, (pS_nil), (pV_cons (List.mem_of_getElem? (i := 0) rfl) (pV_cons (List.mem_of_getElem? (i := 1) rfl) (pV_nil))), e_342⟩ (show ∀ u ∈ us_342, pQ_342 u from qb_342_0)
def pQ_343 (u : sCu) : Prop := ∃ (SM : List sIn) (cu : List sCu) (n : Nat), (∀ I ∈ SM, sInOk pPT I) ∧ (∀ v ∈ cu, v ∈ us_343) ∧ sWkU pPT SM i_343 (mR pm_268) cu n u = true
theorem q_343_0 : pQ_343 u_343_0 := ⟨_, _, _, (pS_nil), (pV_nil), f_343_0⟩
theorem qb_343_0 : ∀ u ∈ [u_343_0], pQ_343 u := pU_cons q_343_0 (pU_nil)
theorem ok_343 : sInOk pPT i_343 := sInst2 (M := pm_268) (cus := us_343) pOk pg_268 (by decide +kernel) ⟨_, _, _, (pS_cons ok_249 (pS_nil)), (pV_cons (List.mem_of_getElem? (i := 0) rfl) (pV_nil)), e_343⟩ (show ∀ u ∈ us_343, pQ_343 u from qb_343_0)
def pQ_344 (u : sCu) : Prop := ∃ (SM : List sIn) (cu : List sCu) (n : Nat), (∀ I ∈ SM, sInOk pPT I) ∧ (∀ v ∈ cu, v ∈ us_344) ∧ sWkU pPT SM i_344 (mR pm_269) cu n u = true
theorem q_344_0 : pQ_344 u_344_0 := ⟨_, _, _, (pS_nil), (pV_cons (List.mem_of_getElem? (i := 1) rfl) (pV_nil)), f_344_0⟩
theorem q_344_1 : pQ_344 u_344_1 := ⟨_, _, _, (pS_cons ok_343 (pS_nil)), (pV_cons (List.mem_of_getElem? (i := 0) rfl) (pV_cons (List.mem_of_getElem? (i := 2) rfl) (pV_nil))), f_344_1⟩
theorem q_344_2 : pQ_344 u_344_2 := ⟨_, _, _, (pS_nil), (pV_cons (List.mem_of_getElem? (i := 1) rfl) (pV_nil)), f_344_2⟩
theorem qb_344_0 : ∀ u ∈ [u_344_0, u_344_1, u_344_2], pQ_344 u := pU_cons q_344_0 (pU_cons q_344_1 (pU_cons q_344_2 (pU_nil)))
theorem ok_344 : sInOk pPT i_344 := sInst2 (M := pm_269) (cus := us_344) pOk pg_269 (by decide +kernel) ⟨_, _, _, (pS_nil), (pV_cons (List.mem_of_getElem? (i := 0) rfl) (pV_nil)), e_344⟩ (show ∀ u ∈ us_344, pQ_344 u from qb_344_0)
def pQ_345 (u : sCu) : Prop := ∃ (SM : List sIn) (cu : List sCu) (n : Nat), (∀ I ∈ SM, sInOk pPT I) ∧ (∀ v ∈ cu, v ∈ us_345) ∧ sWkU pPT SM i_345 (mR pm_123) cu n u = true
theorem q_345_0 : pQ_345 u_345_0 := ⟨_, _, _, (pS_nil), (pV_cons (List.mem_of_getElem? (i := 1) rfl) (pV_nil)), f_345_0⟩
theorem q_345_1 : pQ_345 u_345_1 := ⟨_, _, _, (pS_cons ok_252 (pS_cons ok_310 (pS_nil))), (pV_cons (List.mem_of_getElem? (i := 0) rfl) (pV_cons (List.mem_of_getElem? (i := 2) rfl) (pV_cons (List.mem_of_getElem? (i := 3) rfl) (pV_nil)))), f_345_1⟩
theorem q_345_2 : pQ_345 u_345_2 := ⟨_, _, _, (pS_nil), (pV_cons (List.mem_of_getElem? (i := 3) rfl) (pV_nil)), f_345_2⟩
theorem q_345_3 : pQ_345 u_345_3 := ⟨_, _, _, (pS_nil), (pV_cons (List.mem_of_getElem? (i := 1) rfl) (pV_nil)), f_345_3⟩
theorem qb_345_0 : ∀ u ∈ [u_345_0, u_345_1, u_345_2, u_345_3], pQ_345 u := pU_cons q_345_0 (pU_cons q_345_1 (pU_cons q_345_2 (pU_cons q_345_3 (pU_nil))))
theorem ok_345 : sInOk pPT i_345 := sInst2 (M := pm_123) (cus := us_345) pOk pg_123 (by decide +kernel) ⟨_, _, _, (pS_cons ok_244 (pS_nil)), (pV_cons (List.mem_of_getElem? (i := 0) rfl) (pV_nil)), e_345⟩ (show ∀ u ∈ us_345, pQ_345 u from qb_345_0)
def pQ_346 (u : sCu) : Prop := ∃ (SM : List sIn) (cu : List sCu) (n : Nat), (∀ I ∈ SM, sInOk pPT I) ∧ (∀ v ∈ cu, v ∈ us_346) ∧ sWkU pPT SM i_346 (mR pm_240) cu n u = true
theorem q_346_0 : pQ_346 u_346_0 := ⟨_, _, _, (pS_nil), (pV_cons (List.mem_of_getElem? (i := 1) rfl) (pV_nil)), f_346_0⟩
theorem q_346_1 : pQ_346 u_346_1 := ⟨_, _, _, (pS_nil), (pV_cons (List.mem_of_getElem? (i := 0) rfl) (pV_cons (List.mem_of_getElem? (i := 1) rfl) (pV_nil))), f_346_1⟩
theorem qb_346_0 : ∀ u ∈ [u_346_0, u_346_1], pQ_346 u := pU_cons q_346_0 (pU_cons q_346_1 (pU_nil))
theorem ok_346 : sInOk pPT i_346 := sInst2 (M := pm_240) (cus := us_346) pOk pg_240 (by decide +kernel) ⟨_, _, _, (pS_nil), (pV_cons (List.mem_of_getElem? (i := 0) rfl) (pV_nil)), e_346⟩ (show ∀ u ∈ us_346, pQ_346 u from qb_346_0)
def pQ_347 (u : sCu) : Prop := ∃ (SM : List sIn) (cu : List sCu) (n : Nat), (∀ I ∈ SM, sInOk pPT I) ∧ (∀ v ∈ cu, v ∈ us_347) ∧ sWkU pPT SM i_347 (mR pm_47) cu n u = true
theorem q_347_0 : pQ_347 u_347_0 := ⟨_, _, _, (pS_nil), (pV_cons (List.mem_of_getElem? (i := 1) rfl) (pV_nil)), f_347_0⟩
theorem q_347_1 : pQ_347 u_347_1 := ⟨_, _, _, (pS_nil), (pV_cons (List.mem_of_getElem? (i := 0) rfl) (pV_cons (List.mem_of_getElem? (i := 1) rfl) (pV_nil))), f_347_1⟩
theorem qb_347_0 : ∀ u ∈ [u_347_0, u_347_1], pQ_347 u := pU_cons q_347_0 (pU_cons q_347_1 (pU_nil))
theorem ok_347 : sInOk pPT i_347 := sInst2 (M := pm_47) (cus := us_347) pOk pg_47 (by decide +kernel) ⟨_, _, _, (pS_cons ok_244 (pS_nil)), (pV_cons (List.mem_of_getElem? (i := 0) rfl) (pV_nil)), e_347⟩ (show ∀ u ∈ us_347, pQ_347 u from qb_347_0)
def pQ_348 (u : sCu) : Prop := ∃ (SM : List sIn) (cu : List sCu) (n : Nat), (∀ I ∈ SM, sInOk pPT I) ∧ (∀ v ∈ cu, v ∈ us_348) ∧ sWkU pPT SM i_348 (mR pm_108) cu n u = true
theorem q_348_0 : pQ_348 u_348_0 := ⟨_, _, _, (pS_nil), (pV_nil), f_348_0⟩
theorem q_348_1 : pQ_348 u_348_1 := ⟨_, _, _, (pS_nil), (pV_nil), f_348_1⟩
theorem q_348_2 : pQ_348 u_348_2 := ⟨_, _, _, (pS_nil), (pV_nil), f_348_2⟩
theorem qb_348_0 : ∀ u ∈ [u_348_0, u_348_1, u_348_2], pQ_348 u := pU_cons q_348_0 (pU_cons q_348_1 (pU_cons q_348_2 (pU_nil)))
theorem ok_348 : sInOk pPT i_348 := sInst2 (M := pm_108) (cus := us_348) pOk pg_108 (by decide +kernel) ⟨_, _, _, (pS_nil), (pV_cons (List.mem_of_getElem? (i := 0) rfl) (pV_cons (List.mem_of_getElem? (i := 1) rfl) (pV_cons (List.mem_of_getElem? (i := 2) rfl) (pV_nil)))), e_348⟩ (show ∀ u ∈ us_348, pQ_348 u from qb_348_0)
theorem ok_349 : sInOk pPT i_349 := sInst2 (M := pm_230) (cus := []) pOk pg_230 (by decide +kernel) ⟨_, _, _, (pS_cons ok_312 (pS_nil)), pV_nil, e_349⟩ pU_nil
def pQ_350 (u : sCu) : Prop := ∃ (SM : List sIn) (cu : List sCu) (n : Nat), (∀ I ∈ SM, sInOk pPT I) ∧ (∀ v ∈ cu, v ∈ us_350) ∧ sWkU pPT SM i_350 (mR pm_195) cu n u = true
theorem q_350_0 : pQ_350 u_350_0 := ⟨_, _, _, (pS_nil), (pV_cons (List.mem_of_getElem? (i := 1) rfl) (pV_nil)), f_350_0⟩
theorem q_350_1 : pQ_350 u_350_1 := ⟨_, _, _, (pS_nil), (pV_cons (List.mem_of_getElem? (i := 0) rfl) (pV_nil)), f_350_1⟩
theorem qb_350_0 : ∀ u ∈ [u_350_0, u_350_1], pQ_350 u := pU_cons q_350_0 (pU_cons q_350_1 (pU_nil))
theorem ok_350 : sInOk pPT i_350 := sInst2 (M := pm_195) (cus := us_350) pOk pg_195 (by decide +kernel) ⟨_, _, _, (pS_nil), (pV_cons (List.mem_of_getElem? (i := 0) rfl) (pV_nil)), e_350⟩ (show ∀ u ∈ us_350, pQ_350 u from qb_350_0)
theorem ok_351 : sInOk pPT i_351 := sInst2 (M := pm_212) (cus := []) pOk pg_212 (by decide +kernel) ⟨_, _, _, (pS_cons ok_306 (pS_cons ok_350 (pS_nil))), pV_nil, e_351⟩ pU_nil
def pQ_352 (u : sCu) : Prop := ∃ (SM : List sIn) (cu : List sCu) (n : Nat), (∀ I ∈ SM, sInOk pPT I) ∧ (∀ v ∈ cu, v ∈ us_352) ∧ sWkU pPT SM i_352 (mR pm_218) cu n u = true
theorem q_352_0 : pQ_352 u_352_0 := ⟨_, _, _, (pS_nil), (pV_cons (List.mem_of_getElem? (i := 1) rfl) (pV_nil)), f_352_0⟩
theorem q_352_1 : pQ_352 u_352_1 := ⟨_, _, _, (pS_cons ok_351 (pS_nil)), (pV_cons (List.mem_of_getElem? (i := 0) rfl) (pV_cons (List.mem_of_getElem? (i := 1) rfl) (pV_nil))), f_352_1⟩
theorem qb_352_0 : ∀ u ∈ [u_352_0, u_352_1], pQ_352 u := pU_cons q_352_0 (pU_cons q_352_1 (pU_nil))
theorem ok_352 : sInOk pPT i_352 := sInst2 (M := pm_218) (cus := us_352) pOk pg_218 (by decide +kernel) ⟨_, _, _, (pS_nil), (pV_cons (List.mem_of_getElem? (i := 0) rfl) (pV_nil)), e_352⟩ (show ∀ u ∈ us_352, pQ_352 u from qb_352_0)
def pQ_353 (u : sCu) : Prop := ∃ (SM : List sIn) (cu : List sCu) (n : Nat), (∀ I ∈ SM, sInOk pPT I) ∧ (∀ v ∈ cu, v ∈ us_353) ∧ sWkU pPT SM i_353 (mR pm_215) cu n u = true
theorem q_353_0 : pQ_353 u_353_0 := ⟨_, _, _, (pS_nil), (pV_cons (List.mem_of_getElem? (i := 1) rfl) (pV_nil)), f_353_0⟩
theorem q_353_1 : pQ_353 u_353_1 := ⟨_, _, _, (pS_cons ok_351 (pS_nil)), (pV_cons (List.mem_of_getElem? (i := 0) rfl) (pV_cons (List.mem_of_getElem? (i := 2) rfl) (pV_nil))), f_353_1⟩
theorem q_353_2 : pQ_353 u_353_2 := ⟨_, _, _, (pS_nil), (pV_cons (List.mem_of_getElem? (i := 1) rfl) (pV_nil)), f_353_2⟩
theorem qb_353_0 : ∀ u ∈ [u_353_0, u_353_1, u_353_2], pQ_353 u := pU_cons q_353_0 (pU_cons q_353_1 (pU_cons q_353_2 (pU_nil)))
theorem ok_353 : sInOk pPT i_353 := sInst2 (M := pm_215) (cus := us_353) pOk pg_215 (by decide +kernel) ⟨_, _, _, (pS_nil), (pV_cons (List.mem_of_getElem? (i := 0) rfl) (pV_nil)), e_353⟩ (show ∀ u ∈ us_353, pQ_353 u from qb_353_0)
def pQ_354 (u : sCu) : Prop := ∃ (SM : List sIn) (cu : List sCu) (n : Nat), (∀ I ∈ SM, sInOk pPT I) ∧ (∀ v ∈ cu, v ∈ us_354) ∧ sWkU pPT SM i_354 (mR pm_195) cu n u = true
theorem q_354_0 : pQ_354 u_354_0 := ⟨_, _, _, (pS_nil), (pV_cons (List.mem_of_getElem? (i := 1) rfl) (pV_nil)), f_354_0⟩
theorem q_354_1 : pQ_354 u_354_1 := ⟨_, _, _, (pS_nil), (pV_cons (List.mem_of_getElem? (i := 0) rfl) (pV_nil)), f_354_1⟩
theorem qb_354_0 : ∀ u ∈ [u_354_0, u_354_1], pQ_354 u := pU_cons q_354_0 (pU_cons q_354_1 (pU_nil))
theorem ok_354 : sInOk pPT i_354 := sInst2 (M := pm_195) (cus := us_354) pOk pg_195 (by decide +kernel) ⟨_, _, _, (pS_nil), (pV_cons (List.mem_of_getElem? (i := 0) rfl) (pV_nil)), e_354⟩ (show ∀ u ∈ us_354, pQ_354 u from qb_354_0)
theorem ok_355 : sInOk pPT i_355 := sInst2 (M := pm_270) (cus := []) pOk pg_270 (by decide +kernel) ⟨_, _, _, (pS_cons ok_349 (pS_cons ok_352 (pS_cons ok_353 (pS_cons ok_354 (pS_nil))))), pV_nil, e_355⟩ pU_nil
theorem ok_356 : sInOk pPT i_356 := sInst2 (M := pm_21) (cus := []) pOk pg_21 (by decide +kernel) ⟨_, _, _, (pS_cons ok_355 (pS_nil)), pV_nil, e_356⟩ pU_nil
def pQ_357 (u : sCu) : Prop := ∃ (SM : List sIn) (cu : List sCu) (n : Nat), (∀ I ∈ SM, sInOk pPT I) ∧ (∀ v ∈ cu, v ∈ us_357) ∧ sWkU pPT SM i_357 (mR pm_60) cu n u = true
theorem q_357_0 : pQ_357 u_357_0 := ⟨_, _, _, (pS_nil), (pV_cons (List.mem_of_getElem? (i := 1) rfl) (pV_nil)), f_357_0⟩
theorem q_357_1 : pQ_357 u_357_1 := ⟨_, _, _, (pS_nil), (pV_cons (List.mem_of_getElem? (i := 0) rfl) (pV_nil)), f_357_1⟩
theorem qb_357_0 : ∀ u ∈ [u_357_0, u_357_1], pQ_357 u := pU_cons q_357_0 (pU_cons q_357_1 (pU_nil))
theorem ok_357 : sInOk pPT i_357 := sInst2 (M := pm_60) (cus := us_357) pOk pg_60 (by decide +kernel) ⟨_, _, _, (pS_cons ok_244 (pS_nil)), (pV_cons (List.mem_of_getElem? (i := 0) rfl) (pV_nil)), e_357⟩ (show ∀ u ∈ us_357, pQ_357 u from qb_357_0)
def pQ_358 (u : sCu) : Prop := ∃ (SM : List sIn) (cu : List sCu) (n : Nat), (∀ I ∈ SM, sInOk pPT I) ∧ (∀ v ∈ cu, v ∈ us_358) ∧ sWkU pPT SM i_358 (mR pm_115) cu n u = true
theorem q_358_0 : pQ_358 u_358_0 := ⟨_, _, _, (pS_nil), (pV_cons (List.mem_of_getElem? (i := 1) rfl) (pV_cons (List.mem_of_getElem? (i := 0) rfl) (pV_nil))), f_358_0⟩
theorem q_358_1 : pQ_358 u_358_1 := ⟨_, _, _, (pS_nil), (pV_cons (List.mem_of_getElem? (i := 2) rfl) (pV_nil)), f_358_1⟩
theorem q_358_2 : pQ_358 u_358_2 := ⟨_, _, _, (pS_nil), (pV_cons (List.mem_of_getElem? (i := 1) rfl) (pV_nil)), f_358_2⟩
theorem qb_358_0 : ∀ u ∈ [u_358_0, u_358_1, u_358_2], pQ_358 u := pU_cons q_358_0 (pU_cons q_358_1 (pU_cons q_358_2 (pU_nil)))
theorem ok_358 : sInOk pPT i_358 := sInst2 (M := pm_115) (cus := us_358) pOk pg_115 (by decide +kernel) ⟨_, _, _, (pS_nil), (pV_cons (List.mem_of_getElem? (i := 0) rfl) (pV_nil)), e_358⟩ (show ∀ u ∈ us_358, pQ_358 u from qb_358_0)
def pQ_359 (u : sCu) : Prop := ∃ (SM : List sIn) (cu : List sCu) (n : Nat), (∀ I ∈ SM, sInOk pPT I) ∧ (∀ v ∈ cu, v ∈ us_359) ∧ sWkU pPT SM i_359 (mR pm_122) cu n u = true
theorem q_359_0 : pQ_359 u_359_0 := ⟨_, _, _, (pS_nil), (pV_cons (List.mem_of_getElem? (i := 2) rfl) (pV_cons (List.mem_of_getElem? (i := 3) rfl) (pV_cons (List.mem_of_getElem? (i := 1) rfl) (pV_nil)))), f_359_0⟩
theorem q_359_1 : pQ_359 u_359_1 := ⟨_, _, _, (pS_nil), (pV_cons (List.mem_of_getElem? (i := 2) rfl) (pV_nil)), f_359_1⟩
theorem q_359_2 : pQ_359 u_359_2 := ⟨_, _, _, (pS_nil), (pV_cons (List.mem_of_getElem? (i := 0) rfl) (pV_nil)), f_359_2⟩
theorem q_359_3 : pQ_359 u_359_3 := ⟨_, _, _, (pS_nil), (pV_cons (List.mem_of_getElem? (i := 2) rfl) (pV_nil)), f_359_3⟩
theorem qb_359_0 : ∀ u ∈ [u_359_0, u_359_1, u_359_2, u_359_3], pQ_359 u := pU_cons q_359_0 (pU_cons q_359_1 (pU_cons q_359_2 (pU_cons q_359_3 (pU_nil))))
theorem ok_359 : sInOk pPT i_359 := sInst2 (M := pm_122) (cus := us_359) pOk pg_122 (by decide +kernel) ⟨_, _, _, (pS_nil), (pV_cons (List.mem_of_getElem? (i := 0) rfl) (pV_nil)), e_359⟩ (show ∀ u ∈ us_359, pQ_359 u from qb_359_0)
def pQ_360 (u : sCu) : Prop := ∃ (SM : List sIn) (cu : List sCu) (n : Nat), (∀ I ∈ SM, sInOk pPT I) ∧ (∀ v ∈ cu, v ∈ us_360) ∧ sWkU pPT SM i_360 (mR pm_117) cu n u = true
theorem q_360_0 : pQ_360 u_360_0 := ⟨_, _, _, (pS_nil), (pV_cons (List.mem_of_getElem? (i := 1) rfl) (pV_cons (List.mem_of_getElem? (i := 2) rfl) (pV_nil))), f_360_0⟩
theorem q_360_1 : pQ_360 u_360_1 := ⟨_, _, _, (pS_nil), (pV_cons (List.mem_of_getElem? (i := 2) rfl) (pV_nil)), f_360_1⟩
theorem q_360_2 : pQ_360 u_360_2 := ⟨_, _, _, (pS_nil), (pV_cons (List.mem_of_getElem? (i := 3) rfl) (pV_nil)), f_360_2⟩
theorem q_360_3 : pQ_360 u_360_3 := ⟨_, _, _, (pS_nil), (pV_cons (List.mem_of_getElem? (i := 4) rfl) (pV_nil)), f_360_3⟩
theorem q_360_4 : pQ_360 u_360_4 := ⟨_, _, _, (pS_nil), (pV_cons (List.mem_of_getElem? (i := 5) rfl) (pV_nil)), f_360_4⟩
theorem q_360_5 : pQ_360 u_360_5 := ⟨_, _, _, (pS_cons ok_359 (pS_nil)), (pV_nil), f_360_5⟩
theorem qb_360_0 : ∀ u ∈ [u_360_0, u_360_1, u_360_2, u_360_3, u_360_4, u_360_5], pQ_360 u := pU_cons q_360_0 (pU_cons q_360_1 (pU_cons q_360_2 (pU_cons q_360_3 (pU_cons q_360_4 (pU_cons q_360_5 (pU_nil))))))
theorem ok_360 : sInOk pPT i_360 := sInst2 (M := pm_117) (cus := us_360) pOk pg_117 (by decide +kernel) ⟨_, _, _, (pS_nil), (pV_cons (List.mem_of_getElem? (i := 0) rfl) (pV_nil)), e_360⟩ (show ∀ u ∈ us_360, pQ_360 u from qb_360_0)
def pQ_361 (u : sCu) : Prop := ∃ (SM : List sIn) (cu : List sCu) (n : Nat), (∀ I ∈ SM, sInOk pPT I) ∧ (∀ v ∈ cu, v ∈ us_361) ∧ sWkU pPT SM i_361 (mR pm_55) cu n u = true
theorem q_361_0 : pQ_361 u_361_0 := ⟨_, _, _, (pS_nil), (pV_nil), f_361_0⟩
theorem qb_361_0 : ∀ u ∈ [u_361_0], pQ_361 u := pU_cons q_361_0 (pU_nil)
theorem ok_361 : sInOk pPT i_361 := sInst2 (M := pm_55) (cus := us_361) pOk pg_55 (by decide +kernel) ⟨_, _, _, (pS_cons ok_360 (pS_nil)), (pV_cons (List.mem_of_getElem? (i := 0) rfl) (pV_nil)), e_361⟩ (show ∀ u ∈ us_361, pQ_361 u from qb_361_0)
def pQ_362 (u : sCu) : Prop := ∃ (SM : List sIn) (cu : List sCu) (n : Nat), (∀ I ∈ SM, sInOk pPT I) ∧ (∀ v ∈ cu, v ∈ us_362) ∧ sWkU pPT SM i_362 (mR pm_116) cu n u = true
theorem q_362_0 : pQ_362 u_362_0 := ⟨_, _, _, (pS_nil), (pV_cons (List.mem_of_getElem? (i := 1) rfl) (pV_cons (List.mem_of_getElem? (i := 0) rfl) (pV_nil))), f_362_0⟩
theorem q_362_1 : pQ_362 u_362_1 := ⟨_, _, _, (pS_nil), (pV_cons (List.mem_of_getElem? (i := 2) rfl) (pV_nil)), f_362_1⟩
theorem q_362_2 : pQ_362 u_362_2 := ⟨_, _, _, (pS_nil), (pV_cons (List.mem_of_getElem? (i := 5) rfl) (pV_cons (List.mem_of_getElem? (i := 3) rfl) (pV_cons (List.mem_of_getElem? (i := 4) rfl) (pV_nil)))), f_362_2⟩
theorem q_362_3 : pQ_362 u_362_3 := ⟨_, _, _, (pS_nil), (pV_cons (List.mem_of_getElem? (i := 2) rfl) (pV_nil)), f_362_3⟩
theorem q_362_4 : pQ_362 u_362_4 := ⟨_, _, _, (pS_nil), (pV_cons (List.mem_of_getElem? (i := 3) rfl) (pV_nil)), f_362_4⟩
theorem q_362_5 : pQ_362 u_362_5 := ⟨_, _, _, (pS_cons ok_361 (pS_nil)), (pV_cons (List.mem_of_getElem? (i := 6) rfl) (pV_cons (List.mem_of_getElem? (i := 7) rfl) (pV_nil))), f_362_5⟩
theorem q_362_6 : pQ_362 u_362_6 := ⟨_, _, _, (pS_nil), (pV_cons (List.mem_of_getElem? (i := 1) rfl) (pV_nil)), f_362_6⟩
theorem q_362_7 : pQ_362 u_362_7 := ⟨_, _, _, (pS_nil), (pV_cons (List.mem_of_getElem? (i := 5) rfl) (pV_nil)), f_362_7⟩
theorem qb_362_0 : ∀ u ∈ [u_362_0, u_362_1, u_362_2, u_362_3, u_362_4, u_362_5, u_362_6, u_362_7], pQ_362 u := pU_cons q_362_0 (pU_cons q_362_1 (pU_cons q_362_2 (pU_cons q_362_3 (pU_cons q_362_4 (pU_cons q_362_5 (pU_cons q_362_6 (pU_cons q_362_7 (pU_nil))))))))
theorem ok_362 : sInOk pPT i_362 := sInst2 (M := pm_116) (cus := us_362) pOk pg_116 (by decide +kernel) ⟨_, _, _, (pS_cons ok_358 (pS_nil)), (pV_cons (List.mem_of_getElem? (i := 0) rfl) (pV_nil)), e_362⟩ (show ∀ u ∈ us_362, pQ_362 u from qb_362_0)
def pQ_363 (u : sCu) : Prop := ∃ (SM : List sIn) (cu : List sCu) (n : Nat), (∀ I ∈ SM, sInOk pPT I) ∧ (∀ v ∈ cu, v ∈ us_363) ∧ sWkU pPT SM i_363 (mR pm_113) cu n u = true
theorem q_363_0 : pQ_363 u_363_0 := ⟨_, _, _, (pS_cons ok_362 (pS_nil)), (pV_cons (List.mem_of_getElem? (i := 1) rfl) (pV_nil)), f_363_0⟩
theorem q_363_1 : pQ_363 u_363_1 := ⟨_, _, _, (pS_nil), (pV_cons (List.mem_of_getElem? (i := 0) rfl) (pV_cons (List.mem_of_getElem? (i := 2) rfl) (pV_nil))), f_363_1⟩
theorem q_363_2 : pQ_363 u_363_2 := ⟨_, _, _, (pS_nil), (pV_cons (List.mem_of_getElem? (i := 3) rfl) (pV_nil)), f_363_2⟩
theorem q_363_3 : pQ_363 u_363_3 := ⟨_, _, _, (pS_nil), (pV_cons (List.mem_of_getElem? (i := 1) rfl) (pV_nil)), f_363_3⟩
theorem qb_363_0 : ∀ u ∈ [u_363_0, u_363_1, u_363_2, u_363_3], pQ_363 u := pU_cons q_363_0 (pU_cons q_363_1 (pU_cons q_363_2 (pU_cons q_363_3 (pU_nil))))
theorem ok_363 : sInOk pPT i_363 := sInst2 (M := pm_113) (cus := us_363) pOk pg_113 (by decide +kernel) ⟨_, _, _, (pS_nil), (pV_cons (List.mem_of_getElem? (i := 0) rfl) (pV_nil)), e_363⟩ (show ∀ u ∈ us_363, pQ_363 u from qb_363_0)
def pQ_364 (u : sCu) : Prop := ∃ (SM : List sIn) (cu : List sCu) (n : Nat), (∀ I ∈ SM, sInOk pPT I) ∧ (∀ v ∈ cu, v ∈ us_364) ∧ sWkU pPT SM i_364 (mR pm_60) cu n u = true
theorem q_364_0 : pQ_364 u_364_0 := ⟨_, _, _, (pS_nil), (pV_cons (List.mem_of_getElem? (i := 1) rfl) (pV_nil)), f_364_0⟩
theorem q_364_1 : pQ_364 u_364_1 := ⟨_, _, _, (pS_nil), (pV_cons (List.mem_of_getElem? (i := 0) rfl) (pV_nil)), f_364_1⟩
theorem qb_364_0 : ∀ u ∈ [u_364_0, u_364_1], pQ_364 u := pU_cons q_364_0 (pU_cons q_364_1 (pU_nil))
theorem ok_364 : sInOk pPT i_364 := sInst2 (M := pm_60) (cus := us_364) pOk pg_60 (by decide +kernel) ⟨_, _, _, (pS_cons ok_363 (pS_nil)), (pV_cons (List.mem_of_getElem? (i := 0) rfl) (pV_nil)), e_364⟩ (show ∀ u ∈ us_364, pQ_364 u from qb_364_0)
def pQ_365 (u : sCu) : Prop := ∃ (SM : List sIn) (cu : List sCu) (n : Nat), (∀ I ∈ SM, sInOk pPT I) ∧ (∀ v ∈ cu, v ∈ us_365) ∧ sWkU pPT SM i_365 (mR pm_125) cu n u = true
theorem q_365_0 : pQ_365 u_365_0 := ⟨_, _, _, (pS_nil), (pV_nil), f_365_0⟩
theorem q_365_1 : pQ_365 u_365_1 := ⟨_, _, _, (pS_nil), (pV_cons (List.mem_of_getElem? (i := 2) rfl) (pV_nil)), f_365_1⟩
theorem q_365_2 : pQ_365 u_365_2 := ⟨_, _, _, (pS_cons ok_364 (pS_nil)), (pV_cons (List.mem_of_getElem? (i := 1) rfl) (pV_cons (List.mem_of_getElem? (i := 3) rfl) (pV_cons (List.mem_of_getElem? (i := 4) rfl) (pV_nil)))), f_365_2⟩
theorem q_365_3 : pQ_365 u_365_3 := ⟨_, _, _, (pS_nil), (pV_cons (List.mem_of_getElem? (i := 4) rfl) (pV_nil)), f_365_3⟩
theorem q_365_4 : pQ_365 u_365_4 := ⟨_, _, _, (pS_nil), (pV_cons (List.mem_of_getElem? (i := 2) rfl) (pV_nil)), f_365_4⟩
theorem qb_365_0 : ∀ u ∈ [u_365_0, u_365_1, u_365_2, u_365_3, u_365_4], pQ_365 u := pU_cons q_365_0 (pU_cons q_365_1 (pU_cons q_365_2 (pU_cons q_365_3 (pU_cons q_365_4 (pU_nil)))))
theorem ok_365 : sInOk pPT i_365 := sInst2 (M := pm_125) (cus := us_365) pOk pg_125 (by decide +kernel) ⟨_, _, _, (pS_cons ok_357 (pS_nil)), (pV_cons (List.mem_of_getElem? (i := 0) rfl) (pV_cons (List.mem_of_getElem? (i := 1) rfl) (pV_nil))), e_365⟩ (show ∀ u ∈ us_365, pQ_365 u from qb_365_0)
def pQ_366 (u : sCu) : Prop := ∃ (SM : List sIn) (cu : List sCu) (n : Nat), (∀ I ∈ SM, sInOk pPT I) ∧ (∀ v ∈ cu, v ∈ us_366) ∧ sWkU pPT SM i_366 (mR pm_134) cu n u = true
theorem q_366_0 : pQ_366 u_366_0 := ⟨_, _, _, (pS_cons ok_313 (pS_nil)), (pV_cons (List.mem_of_getElem? (i := 1) rfl) (pV_cons (List.mem_of_getElem? (i := 2) rfl) (pV_nil))), f_366_0⟩
theorem q_366_1 : pQ_366 u_366_1 := ⟨_, _, _, (pS_nil), (pV_cons (List.mem_of_getElem? (i := 0) rfl) (pV_nil)), f_366_1⟩
theorem q_366_2 : pQ_366 u_366_2 := ⟨_, _, _, (pS_nil), (pV_cons (List.mem_of_getElem? (i := 1) rfl) (pV_nil)), f_366_2⟩
theorem qb_366_0 : ∀ u ∈ [u_366_0, u_366_1, u_366_2], pQ_366 u := pU_cons q_366_0 (pU_cons q_366_1 (pU_cons q_366_2 (pU_nil)))
theorem ok_366 : sInOk pPT i_366 := sInst2 (M := pm_134) (cus := us_366) pOk pg_134 (by decide +kernel) ⟨_, _, _, (pS_nil), (pV_cons (List.mem_of_getElem? (i := 0) rfl) (pV_nil)), e_366⟩ (show ∀ u ∈ us_366, pQ_366 u from qb_366_0)
def pQ_367 (u : sCu) : Prop := ∃ (SM : List sIn) (cu : List sCu) (n : Nat), (∀ I ∈ SM, sInOk pPT I) ∧ (∀ v ∈ cu, v ∈ us_367) ∧ sWkU pPT SM i_367 (mR pm_227) cu n u = true
theorem q_367_0 : pQ_367 u_367_0 := ⟨_, _, _, (pS_nil), (pV_cons (List.mem_of_getElem? (i := 1) rfl) (pV_nil)), f_367_0⟩
theorem q_367_1 : pQ_367 u_367_1 := ⟨_, _, _, (pS_cons ok_312 (pS_cons ok_366 (pS_nil))), (pV_cons (List.mem_of_getElem? (i := 0) rfl) (pV_cons (List.mem_of_getElem? (i := 2) rfl) (pV_nil))), f_367_1⟩
theorem q_367_2 : pQ_367 u_367_2 := ⟨_, _, _, (pS_nil), (pV_cons (List.mem_of_getElem? (i := 1) rfl) (pV_nil)), f_367_2⟩
theorem qb_367_0 : ∀ u ∈ [u_367_0, u_367_1, u_367_2], pQ_367 u := pU_cons q_367_0 (pU_cons q_367_1 (pU_cons q_367_2 (pU_nil)))
theorem ok_367 : sInOk pPT i_367 := sInst2 (M := pm_227) (cus := us_367) pOk pg_227 (by decide +kernel) ⟨_, _, _, (pS_nil), (pV_cons (List.mem_of_getElem? (i := 0) rfl) (pV_nil)), e_367⟩ (show ∀ u ∈ us_367, pQ_367 u from qb_367_0)
def pQ_368 (u : sCu) : Prop := ∃ (SM : List sIn) (cu : List sCu) (n : Nat), (∀ I ∈ SM, sInOk pPT I) ∧ (∀ v ∈ cu, v ∈ us_368) ∧ sWkU pPT SM i_368 (mR pm_228) cu n u = true
theorem q_368_0 : pQ_368 u_368_0 := ⟨_, _, _, (pS_nil), (pV_cons (List.mem_of_getElem? (i := 2) rfl) (pV_nil)), f_368_0⟩
theorem q_368_1 : pQ_368 u_368_1 := ⟨_, _, _, (pS_nil), (pV_nil), f_368_1⟩
theorem q_368_2 : pQ_368 u_368_2 := ⟨_, _, _, (pS_nil), (pV_cons (List.mem_of_getElem? (i := 3) rfl) (pV_nil)), f_368_2⟩
theorem q_368_3 : pQ_368 u_368_3 := ⟨_, _, _, (pS_nil), (pV_cons (List.mem_of_getElem? (i := 0) rfl) (pV_nil)), f_368_3⟩
theorem qb_368_0 : ∀ u ∈ [u_368_0, u_368_1, u_368_2, u_368_3], pQ_368 u := pU_cons q_368_0 (pU_cons q_368_1 (pU_cons q_368_2 (pU_cons q_368_3 (pU_nil))))
theorem ok_368 : sInOk pPT i_368 := sInst2 (M := pm_228) (cus := us_368) pOk pg_228 (by decide +kernel) ⟨_, _, _, (pS_nil), (pV_cons (List.mem_of_getElem? (i := 0) rfl) (pV_cons (List.mem_of_getElem? (i := 1) rfl) (pV_nil))), e_368⟩ (show ∀ u ∈ us_368, pQ_368 u from qb_368_0)
def pQ_369 (u : sCu) : Prop := ∃ (SM : List sIn) (cu : List sCu) (n : Nat), (∀ I ∈ SM, sInOk pPT I) ∧ (∀ v ∈ cu, v ∈ us_369) ∧ sWkU pPT SM i_369 (mR pm_219) cu n u = true
theorem q_369_0 : pQ_369 u_369_0 := ⟨_, _, _, (pS_nil), (pV_cons (List.mem_of_getElem? (i := 1) rfl) (pV_nil)), f_369_0⟩
theorem q_369_1 : pQ_369 u_369_1 := ⟨_, _, _, (pS_cons ok_368 (pS_nil)), (pV_cons (List.mem_of_getElem? (i := 0) rfl) (pV_cons (List.mem_of_getElem? (i := 1) rfl) (pV_nil))), f_369_1⟩
theorem qb_369_0 : ∀ u ∈ [u_369_0, u_369_1], pQ_369 u := pU_cons q_369_0 (pU_cons q_369_1 (pU_nil))
theorem ok_369 : sInOk pPT i_369 := sInst2 (M := pm_219) (cus := us_369) pOk pg_219 (by decide +kernel) ⟨_, _, _, (pS_nil), (pV_cons (List.mem_of_getElem? (i := 0) rfl) (pV_nil)), e_369⟩ (show ∀ u ∈ us_369, pQ_369 u from qb_369_0)
def pQ_370 (u : sCu) : Prop := ∃ (SM : List sIn) (cu : List sCu) (n : Nat), (∀ I ∈ SM, sInOk pPT I) ∧ (∀ v ∈ cu, v ∈ us_370) ∧ sWkU pPT SM i_370 (mR pm_216) cu n u = true
theorem q_370_0 : pQ_370 u_370_0 := ⟨_, _, _, (pS_nil), (pV_cons (List.mem_of_getElem? (i := 1) rfl) (pV_nil)), f_370_0⟩
theorem q_370_1 : pQ_370 u_370_1 := ⟨_, _, _, (pS_cons ok_368 (pS_nil)), (pV_cons (List.mem_of_getElem? (i := 0) rfl) (pV_cons (List.mem_of_getElem? (i := 2) rfl) (pV_nil))), f_370_1⟩
theorem q_370_2 : pQ_370 u_370_2 := ⟨_, _, _, (pS_nil), (pV_cons (List.mem_of_getElem? (i := 1) rfl) (pV_nil)), f_370_2⟩
theorem qb_370_0 : ∀ u ∈ [u_370_0, u_370_1, u_370_2], pQ_370 u := pU_cons q_370_0 (pU_cons q_370_1 (pU_cons q_370_2 (pU_nil)))
theorem ok_370 : sInOk pPT i_370 := sInst2 (M := pm_216) (cus := us_370) pOk pg_216 (by decide +kernel) ⟨_, _, _, (pS_nil), (pV_cons (List.mem_of_getElem? (i := 0) rfl) (pV_nil)), e_370⟩ (show ∀ u ∈ us_370, pQ_370 u from qb_370_0)
def pQ_371 (u : sCu) : Prop := ∃ (SM : List sIn) (cu : List sCu) (n : Nat), (∀ I ∈ SM, sInOk pPT I) ∧ (∀ v ∈ cu, v ∈ us_371) ∧ sWkU pPT SM i_371 (mR pm_244) cu n u = true
theorem q_371_0 : pQ_371 u_371_0 := ⟨_, _, _, (pS_cons ok_367 (pS_cons ok_369 (pS_cons ok_370 (pS_nil)))), (pV_nil), f_371_0⟩
theorem qb_371_0 : ∀ u ∈ [u_371_0], pQ_371 u := pU_cons q_371_0 (pU_nil)
theorem ok_371 : sInOk pPT i_371 := sInst2 (M := pm_244) (cus := us_371) pOk pg_244 (by decide +kernel) ⟨_, _, _, (pS_nil), (pV_cons (List.mem_of_getElem? (i := 0) rfl) (pV_nil)), e_371⟩ (show ∀ u ∈ us_371, pQ_371 u from qb_371_0)
theorem ok_372 : sInOk pPT i_372 := sInst2 (M := pm_7) (cus := []) pOk pg_7 (by decide +kernel) ⟨_, _, _, (pS_cons ok_371 (pS_nil)), pV_nil, e_372⟩ pU_nil
def pQ_373 (u : sCu) : Prop := ∃ (SM : List sIn) (cu : List sCu) (n : Nat), (∀ I ∈ SM, sInOk pPT I) ∧ (∀ v ∈ cu, v ∈ us_373) ∧ sWkU pPT SM i_373 (mR pm_51) cu n u = true
theorem q_373_0 : pQ_373 u_373_0 := ⟨_, _, _, (pS_nil), (pV_cons (List.mem_of_getElem? (i := 1) rfl) (pV_nil)), f_373_0⟩
theorem q_373_1 : pQ_373 u_373_1 := ⟨_, _, _, (pS_cons ok_244 (pS_cons ok_246 (pS_nil))), (pV_nil), f_373_1⟩
theorem qb_373_0 : ∀ u ∈ [u_373_0, u_373_1], pQ_373 u := pU_cons q_373_0 (pU_cons q_373_1 (pU_nil))
theorem ok_373 : sInOk pPT i_373 := sInst2 (M := pm_51) (cus := us_373) pOk pg_51 (by decide +kernel) ⟨_, _, _, (pS_nil), (pV_cons (List.mem_of_getElem? (i := 0) rfl) (pV_nil)), e_373⟩ (show ∀ u ∈ us_373, pQ_373 u from qb_373_0)
def pQ_374 (u : sCu) : Prop := ∃ (SM : List sIn) (cu : List sCu) (n : Nat), (∀ I ∈ SM, sInOk pPT I) ∧ (∀ v ∈ cu, v ∈ us_374) ∧ sWkU pPT SM i_374 (mR pm_102) cu n u = true
theorem q_374_0 : pQ_374 u_374_0 := ⟨_, _, _, (pS_cons ok_373 (pS_nil)), (pV_cons (List.mem_of_getElem? (i := 1) rfl) (pV_nil)), f_374_0⟩
theorem q_374_1 : pQ_374 u_374_1 := ⟨_, _, _, (pS_cons ok_373 (pS_nil)), (pV_cons (List.mem_of_getElem? (i := 2) rfl) (pV_nil)), f_374_1⟩
theorem q_374_2 : pQ_374 u_374_2 := ⟨_, _, _, (pS_nil), (pV_cons (List.mem_of_getElem? (i := 0) rfl) (pV_nil)), f_374_2⟩
theorem qb_374_0 : ∀ u ∈ [u_374_0, u_374_1, u_374_2], pQ_374 u := pU_cons q_374_0 (pU_cons q_374_1 (pU_cons q_374_2 (pU_nil)))
theorem ok_374 : sInOk pPT i_374 := sInst2 (M := pm_102) (cus := us_374) pOk pg_102 (by decide +kernel) ⟨_, _, _, (pS_cons ok_373 (pS_nil)), (pV_cons (List.mem_of_getElem? (i := 0) rfl) (pV_nil)), e_374⟩ (show ∀ u ∈ us_374, pQ_374 u from qb_374_0)
def pQ_375 (u : sCu) : Prop := ∃ (SM : List sIn) (cu : List sCu) (n : Nat), (∀ I ∈ SM, sInOk pPT I) ∧ (∀ v ∈ cu, v ∈ us_375) ∧ sWkU pPT SM i_375 (mR pm_52) cu n u = true
theorem q_375_0 : pQ_375 u_375_0 := ⟨_, _, _, (pS_nil), (pV_nil), f_375_0⟩
theorem q_375_1 : pQ_375 u_375_1 := ⟨_, _, _, (pS_nil), (pV_cons (List.mem_of_getElem? (i := 2) rfl) (pV_nil)), f_375_1⟩
theorem q_375_2 : pQ_375 u_375_2 := ⟨_, _, _, (pS_cons ok_374 (pS_nil)), (pV_cons (List.mem_of_getElem? (i := 1) rfl) (pV_cons (List.mem_of_getElem? (i := 3) rfl) (pV_cons (List.mem_of_getElem? (i := 4) rfl) (pV_nil)))), f_375_2⟩
theorem q_375_3 : pQ_375 u_375_3 := ⟨_, _, _, (pS_nil), (pV_cons (List.mem_of_getElem? (i := 4) rfl) (pV_nil)), f_375_3⟩
theorem q_375_4 : pQ_375 u_375_4 := ⟨_, _, _, (pS_nil), (pV_cons (List.mem_of_getElem? (i := 2) rfl) (pV_nil)), f_375_4⟩
theorem qb_375_0 : ∀ u ∈ [u_375_0, u_375_1, u_375_2, u_375_3, u_375_4], pQ_375 u := pU_cons q_375_0 (pU_cons q_375_1 (pU_cons q_375_2 (pU_cons q_375_3 (pU_cons q_375_4 (pU_nil)))))
theorem ok_375 : sInOk pPT i_375 := sInst2 (M := pm_52) (cus := us_375) pOk pg_52 (by decide +kernel) ⟨_, _, _, (pS_nil), (pV_cons (List.mem_of_getElem? (i := 0) rfl) (pV_cons (List.mem_of_getElem? (i := 1) rfl) (pV_nil))), e_375⟩ (show ∀ u ∈ us_375, pQ_375 u from qb_375_0)
def pQ_376 (u : sCu) : Prop := ∃ (SM : List sIn) (cu : List sCu) (n : Nat), (∀ I ∈ SM, sInOk pPT I) ∧ (∀ v ∈ cu, v ∈ us_376) ∧ sWkU pPT SM i_376 (mR pm_223) cu n u = true
theorem q_376_0 : pQ_376 u_376_0 := ⟨_, _, _, (pS_nil), (pV_cons (List.mem_of_getElem? (i := 1) rfl) (pV_nil)), f_376_0⟩
theorem q_376_1 : pQ_376 u_376_1 := ⟨_, _, _, (pS_cons ok_233 (pS_cons ok_312 (pS_cons ok_314 (pS_nil)))), (pV_cons (List.mem_of_getElem? (i := 2) rfl) (pV_nil)), f_376_1⟩
theorem q_376_2 : pQ_376 u_376_2 := ⟨_, _, _, (pS_nil), (pV_cons (List.mem_of_getElem? (i := 3) rfl) (pV_nil)), f_376_2⟩
theorem q_376_3 : pQ_376 u_376_3 := ⟨_, _, _, (pS_nil), (pV_cons (List.mem_of_getElem? (i := 0) rfl) (pV_nil)), f_376_3⟩
theorem qb_376_0 : ∀ u ∈ [u_376_0, u_376_1, u_376_2, u_376_3], pQ_376 u := pU_cons q_376_0 (pU_cons q_376_1 (pU_cons q_376_2 (pU_cons q_376_3 (pU_nil))))
theorem ok_376 : sInOk pPT i_376 := sInst2 (M := pm_223) (cus := us_376) pOk pg_223 (by decide +kernel) ⟨_, _, _, (pS_nil), (pV_cons (List.mem_of_getElem? (i := 0) rfl) (pV_nil)), e_376⟩ (show ∀ u ∈ us_376, pQ_376 u from qb_376_0)
theorem ok_377 : sInOk pPT i_377 := sInst2 (M := pm_272) (cus := []) pOk pg_272 (by decide +kernel) ⟨_, _, _, (pS_cons ok_376 (pS_nil)), pV_nil, e_377⟩ pU_nil
theorem ok_378 : sInOk pPT i_378 := sInst2 (M := pm_23) (cus := []) pOk pg_23 (by decide +kernel) ⟨_, _, _, (pS_cons ok_377 (pS_nil)), pV_nil, e_378⟩ pU_nil
theorem ok_379 : sInOk pPT i_379 := sInst2 (M := pm_87) (cus := []) pOk pg_87 (by decide +kernel) ⟨_, _, _, (pS_nil), pV_nil, e_379⟩ pU_nil
theorem ok_380 : sInOk pPT i_380 := sInst2 (M := pm_121) (cus := []) pOk pg_121 (by decide +kernel) ⟨_, _, _, (pS_nil), pV_nil, e_380⟩ pU_nil
def pQ_381 (u : sCu) : Prop := ∃ (SM : List sIn) (cu : List sCu) (n : Nat), (∀ I ∈ SM, sInOk pPT I) ∧ (∀ v ∈ cu, v ∈ us_381) ∧ sWkU pPT SM i_381 (mR pm_128) cu n u = true
theorem q_381_0 : pQ_381 u_381_0 := ⟨_, _, _, (pS_cons ok_244 (pS_cons ok_246 (pS_cons ok_380 (pS_nil)))), (pV_cons (List.mem_of_getElem? (i := 1) rfl) (pV_nil)), f_381_0⟩
theorem q_381_1 : pQ_381 u_381_1 := ⟨_, _, _, (pS_cons ok_245 (pS_nil)), (pV_cons (List.mem_of_getElem? (i := 2) rfl) (pV_nil)), f_381_1⟩
theorem q_381_2 : pQ_381 u_381_2 := ⟨_, _, _, (pS_nil), (pV_cons (List.mem_of_getElem? (i := 0) rfl) (pV_nil)), f_381_2⟩
theorem qb_381_0 : ∀ u ∈ [u_381_0, u_381_1, u_381_2], pQ_381 u := pU_cons q_381_0 (pU_cons q_381_1 (pU_cons q_381_2 (pU_nil)))
theorem ok_381 : sInOk pPT i_381 := sInst2 (M := pm_128) (cus := us_381) pOk pg_128 (by decide +kernel) ⟨_, _, _, (pS_cons ok_379 (pS_nil)), (pV_cons (List.mem_of_getElem? (i := 0) rfl) (pV_nil)), e_381⟩ (show ∀ u ∈ us_381, pQ_381 u from qb_381_0)
theorem ok_382 : sInOk pPT i_382 := sInst2 (M := pm_87) (cus := []) pOk pg_87 (by decide +kernel) ⟨_, _, _, (pS_nil), pV_nil, e_382⟩ pU_nil
def pQ_383 (u : sCu) : Prop := ∃ (SM : List sIn) (cu : List sCu) (n : Nat), (∀ I ∈ SM, sInOk pPT I) ∧ (∀ v ∈ cu, v ∈ us_383) ∧ sWkU pPT SM i_383 (mR pm_31) cu n u = true
theorem q_383_0 : pQ_383 u_383_0 := ⟨_, _, _, (pS_nil), (pV_cons (List.mem_of_getElem? (i := 0) rfl) (pV_nil)), f_383_0⟩
theorem qb_383_0 : ∀ u ∈ [u_383_0], pQ_383 u := pU_cons q_383_0 (pU_nil)
theorem ok_383 : sInOk pPT i_383 := sInst2 (M := pm_31) (cus := us_383) pOk pg_31 (by decide +kernel) ⟨_, _, _, (pS_nil), (pV_cons (List.mem_of_getElem? (i := 0) rfl) (pV_nil)), e_383⟩ (show ∀ u ∈ us_383, pQ_383 u from qb_383_0)
def pQ_384 (u : sCu) : Prop := ∃ (SM : List sIn) (cu : List sCu) (n : Nat), (∀ I ∈ SM, sInOk pPT I) ∧ (∀ v ∈ cu, v ∈ us_384) ∧ sWkU pPT SM i_384 (mR pm_31) cu n u = true
theorem q_384_0 : pQ_384 u_384_0 := ⟨_, _, _, (pS_nil), (pV_cons (List.mem_of_getElem? (i := 0) rfl) (pV_nil)), f_384_0⟩
theorem qb_384_0 : ∀ u ∈ [u_384_0], pQ_384 u := pU_cons q_384_0 (pU_nil)
theorem ok_384 : sInOk pPT i_384 := sInst2 (M := pm_31) (cus := us_384) pOk pg_31 (by decide +kernel) ⟨_, _, _, (pS_nil), (pV_cons (List.mem_of_getElem? (i := 0) rfl) (pV_nil)), e_384⟩ (show ∀ u ∈ us_384, pQ_384 u from qb_384_0)
def pQ_385 (u : sCu) : Prop := ∃ (SM : List sIn) (cu : List sCu) (n : Nat), (∀ I ∈ SM, sInOk pPT I) ∧ (∀ v ∈ cu, v ∈ us_385) ∧ sWkU pPT SM i_385 (mR pm_31) cu n u = true
theorem q_385_0 : pQ_385 u_385_0 := ⟨_, _, _, (pS_nil), (pV_cons (List.mem_of_getElem? (i := 0) rfl) (pV_nil)), f_385_0⟩
theorem qb_385_0 : ∀ u ∈ [u_385_0], pQ_385 u := pU_cons q_385_0 (pU_nil)
theorem ok_385 : sInOk pPT i_385 := sInst2 (M := pm_31) (cus := us_385) pOk pg_31 (by decide +kernel) ⟨_, _, _, (pS_nil), (pV_cons (List.mem_of_getElem? (i := 0) rfl) (pV_nil)), e_385⟩ (show ∀ u ∈ us_385, pQ_385 u from qb_385_0)
def pQ_386 (u : sCu) : Prop := ∃ (SM : List sIn) (cu : List sCu) (n : Nat), (∀ I ∈ SM, sInOk pPT I) ∧ (∀ v ∈ cu, v ∈ us_386) ∧ sWkU pPT SM i_386 (mR pm_31) cu n u = true
theorem q_386_0 : pQ_386 u_386_0 := ⟨_, _, _, (pS_nil), (pV_cons (List.mem_of_getElem? (i := 0) rfl) (pV_nil)), f_386_0⟩
theorem qb_386_0 : ∀ u ∈ [u_386_0], pQ_386 u := pU_cons q_386_0 (pU_nil)
theorem ok_386 : sInOk pPT i_386 := sInst2 (M := pm_31) (cus := us_386) pOk pg_31 (by decide +kernel) ⟨_, _, _, (pS_nil), (pV_cons (List.mem_of_getElem? (i := 0) rfl) (pV_nil)), e_386⟩ (show ∀ u ∈ us_386, pQ_386 u from qb_386_0)
def pQ_387 (u : sCu) : Prop := ∃ (SM : List sIn) (cu : List sCu) (n : Nat), (∀ I ∈ SM, sInOk pPT I) ∧ (∀ v ∈ cu, v ∈ us_387) ∧ sWkU pPT SM i_387 (mR pm_31) cu n u = true
theorem q_387_0 : pQ_387 u_387_0 := ⟨_, _, _, (pS_nil), (pV_cons (List.mem_of_getElem? (i := 0) rfl) (pV_nil)), f_387_0⟩
theorem qb_387_0 : ∀ u ∈ [u_387_0], pQ_387 u := pU_cons q_387_0 (pU_nil)
theorem ok_387 : sInOk pPT i_387 := sInst2 (M := pm_31) (cus := us_387) pOk pg_31 (by decide +kernel) ⟨_, _, _, (pS_nil), (pV_cons (List.mem_of_getElem? (i := 0) rfl) (pV_nil)), e_387⟩ (show ∀ u ∈ us_387, pQ_387 u from qb_387_0)
def pQ_388 (u : sCu) : Prop := ∃ (SM : List sIn) (cu : List sCu) (n : Nat), (∀ I ∈ SM, sInOk pPT I) ∧ (∀ v ∈ cu, v ∈ us_388) ∧ sWkU pPT SM i_388 (mR pm_31) cu n u = true
theorem q_388_0 : pQ_388 u_388_0 := ⟨_, _, _, (pS_nil), (pV_cons (List.mem_of_getElem? (i := 0) rfl) (pV_nil)), f_388_0⟩
theorem qb_388_0 : ∀ u ∈ [u_388_0], pQ_388 u := pU_cons q_388_0 (pU_nil)
theorem ok_388 : sInOk pPT i_388 := sInst2 (M := pm_31) (cus := us_388) pOk pg_31 (by decide +kernel) ⟨_, _, _, (pS_nil), (pV_cons (List.mem_of_getElem? (i := 0) rfl) (pV_nil)), e_388⟩ (show ∀ u ∈ us_388, pQ_388 u from qb_388_0)
theorem ok_389 : sInOk pPT i_389 := sInst2 (M := pm_56) (cus := []) pOk pg_56 (by decide +kernel) ⟨_, _, _, (pS_cons ok_382 (pS_cons ok_383 (pS_cons ok_384 (pS_cons ok_385 (pS_cons ok_386 (pS_cons ok_387 (pS_cons ok_388 (pS_nil)))))))), pV_nil, e_389⟩ pU_nil
theorem ok_390 : sInOk pPT i_390 := sInst2 (M := pm_260) (cus := []) pOk pg_260 (by decide +kernel) ⟨_, _, _, (pS_cons ok_84 (pS_nil)), pV_nil, e_390⟩ pU_nil
theorem ok_391 : sInOk pPT i_391 := sInst2 (M := pm_121) (cus := []) pOk pg_121 (by decide +kernel) ⟨_, _, _, (pS_nil), pV_nil, e_391⟩ pU_nil
def pQ_392 (u : sCu) : Prop := ∃ (SM : List sIn) (cu : List sCu) (n : Nat), (∀ I ∈ SM, sInOk pPT I) ∧ (∀ v ∈ cu, v ∈ us_392) ∧ sWkU pPT SM i_392 (mR pm_31) cu n u = true
theorem q_392_0 : pQ_392 u_392_0 := ⟨_, _, _, (pS_nil), (pV_cons (List.mem_of_getElem? (i := 0) rfl) (pV_nil)), f_392_0⟩
theorem qb_392_0 : ∀ u ∈ [u_392_0], pQ_392 u := pU_cons q_392_0 (pU_nil)
theorem ok_392 : sInOk pPT i_392 := sInst2 (M := pm_31) (cus := us_392) pOk pg_31 (by decide +kernel) ⟨_, _, _, (pS_nil), (pV_cons (List.mem_of_getElem? (i := 0) rfl) (pV_nil)), e_392⟩ (show ∀ u ∈ us_392, pQ_392 u from qb_392_0)
def pQ_393 (u : sCu) : Prop := ∃ (SM : List sIn) (cu : List sCu) (n : Nat), (∀ I ∈ SM, sInOk pPT I) ∧ (∀ v ∈ cu, v ∈ us_393) ∧ sWkU pPT SM i_393 (mR pm_31) cu n u = true
theorem q_393_0 : pQ_393 u_393_0 := ⟨_, _, _, (pS_nil), (pV_cons (List.mem_of_getElem? (i := 0) rfl) (pV_nil)), f_393_0⟩
theorem qb_393_0 : ∀ u ∈ [u_393_0], pQ_393 u := pU_cons q_393_0 (pU_nil)
theorem ok_393 : sInOk pPT i_393 := sInst2 (M := pm_31) (cus := us_393) pOk pg_31 (by decide +kernel) ⟨_, _, _, (pS_nil), (pV_cons (List.mem_of_getElem? (i := 0) rfl) (pV_nil)), e_393⟩ (show ∀ u ∈ us_393, pQ_393 u from qb_393_0)
def pQ_394 (u : sCu) : Prop := ∃ (SM : List sIn) (cu : List sCu) (n : Nat), (∀ I ∈ SM, sInOk pPT I) ∧ (∀ v ∈ cu, v ∈ us_394) ∧ sWkU pPT SM i_394 (mR pm_31) cu n u = true
theorem q_394_0 : pQ_394 u_394_0 := ⟨_, _, _, (pS_nil), (pV_cons (List.mem_of_getElem? (i := 0) rfl) (pV_nil)), f_394_0⟩
theorem qb_394_0 : ∀ u ∈ [u_394_0], pQ_394 u := pU_cons q_394_0 (pU_nil)
theorem ok_394 : sInOk pPT i_394 := sInst2 (M := pm_31) (cus := us_394) pOk pg_31 (by decide +kernel) ⟨_, _, _, (pS_nil), (pV_cons (List.mem_of_getElem? (i := 0) rfl) (pV_nil)), e_394⟩ (show ∀ u ∈ us_394, pQ_394 u from qb_394_0)
def pQ_395 (u : sCu) : Prop := ∃ (SM : List sIn) (cu : List sCu) (n : Nat), (∀ I ∈ SM, sInOk pPT I) ∧ (∀ v ∈ cu, v ∈ us_395) ∧ sWkU pPT SM i_395 (mR pm_31) cu n u = true
theorem q_395_0 : pQ_395 u_395_0 := ⟨_, _, _, (pS_nil), (pV_cons (List.mem_of_getElem? (i := 0) rfl) (pV_nil)), f_395_0⟩
theorem qb_395_0 : ∀ u ∈ [u_395_0], pQ_395 u := pU_cons q_395_0 (pU_nil)
theorem ok_395 : sInOk pPT i_395 := sInst2 (M := pm_31) (cus := us_395) pOk pg_31 (by decide +kernel) ⟨_, _, _, (pS_nil), (pV_cons (List.mem_of_getElem? (i := 0) rfl) (pV_nil)), e_395⟩ (show ∀ u ∈ us_395, pQ_395 u from qb_395_0)
def pQ_396 (u : sCu) : Prop := ∃ (SM : List sIn) (cu : List sCu) (n : Nat), (∀ I ∈ SM, sInOk pPT I) ∧ (∀ v ∈ cu, v ∈ us_396) ∧ sWkU pPT SM i_396 (mR pm_31) cu n u = true
theorem q_396_0 : pQ_396 u_396_0 := ⟨_, _, _, (pS_nil), (pV_cons (List.mem_of_getElem? (i := 0) rfl) (pV_nil)), f_396_0⟩
theorem qb_396_0 : ∀ u ∈ [u_396_0], pQ_396 u := pU_cons q_396_0 (pU_nil)
theorem ok_396 : sInOk pPT i_396 := sInst2 (M := pm_31) (cus := us_396) pOk pg_31 (by decide +kernel) ⟨_, _, _, (pS_nil), (pV_cons (List.mem_of_getElem? (i := 0) rfl) (pV_nil)), e_396⟩ (show ∀ u ∈ us_396, pQ_396 u from qb_396_0)
def pQ_397 (u : sCu) : Prop := ∃ (SM : List sIn) (cu : List sCu) (n : Nat), (∀ I ∈ SM, sInOk pPT I) ∧ (∀ v ∈ cu, v ∈ us_397) ∧ sWkU pPT SM i_397 (mR pm_31) cu n u = true
theorem q_397_0 : pQ_397 u_397_0 := ⟨_, _, _, (pS_nil), (pV_cons (List.mem_of_getElem? (i := 0) rfl) (pV_nil)), f_397_0⟩
theorem qb_397_0 : ∀ u ∈ [u_397_0], pQ_397 u := pU_cons q_397_0 (pU_nil)
theorem ok_397 : sInOk pPT i_397 := sInst2 (M := pm_31) (cus := us_397) pOk pg_31 (by decide +kernel) ⟨_, _, _, (pS_nil), (pV_cons (List.mem_of_getElem? (i := 0) rfl) (pV_nil)), e_397⟩ (show ∀ u ∈ us_397, pQ_397 u from qb_397_0)
theorem ok_398 : sInOk pPT i_398 := sInst2 (M := pm_101) (cus := []) pOk pg_101 (by decide +kernel) ⟨_, _, _, (pS_cons ok_391 (pS_cons ok_392 (pS_cons ok_393 (pS_cons ok_394 (pS_cons ok_395 (pS_cons ok_396 (pS_cons ok_397 (pS_nil)))))))), pV_nil, e_398⟩ pU_nil
