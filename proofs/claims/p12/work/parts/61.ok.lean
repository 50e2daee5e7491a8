/-! ===== their contracts ===== -/
def pQ_0 (u : sCu) : Prop := ∃ (SM : List sIn) (H : gHt) (cu : List sCu) (n : Nat), (∀ I ∈ SM, sInOk pPT I) ∧ (∀ v ∈ cu, v ∈ us_0) ∧ sWhU pPT SM H i_0 (mR pm_162) cu n u = true
theorem q_0_0 : pQ_0 u_0_0 := ⟨_, _, _, _, (pS_nil), (pV_cons (List.mem_of_getElem? (i := 1) rfl) (pV_nil)), f_0_0⟩
theorem q_0_1 : pQ_0 u_0_1 := ⟨_, _, _, _, (pS_nil), (pV_cons (List.mem_of_getElem? (i := 2) rfl) (pV_nil)), f_0_1⟩
theorem q_0_2 : pQ_0 u_0_2 := ⟨_, _, _, _, (pS_nil), (pV_cons (List.mem_of_getElem? (i := 3) rfl) (pV_nil)), f_0_2⟩
theorem q_0_3 : pQ_0 u_0_3 := ⟨_, _, _, _, (pS_nil), (pV_cons (List.mem_of_getElem? (i := 4) rfl) (pV_nil)), f_0_3⟩
theorem q_0_4 : pQ_0 u_0_4 := ⟨_, _, _, _, (pS_nil), (pV_cons (List.mem_of_getElem? (i := 5) rfl) (pV_nil)), f_0_4⟩
theorem q_0_5 : pQ_0 u_0_5 := ⟨_, _, _, _, (pS_nil), (pV_cons (List.mem_of_getElem? (i := 6) rfl) (pV_nil)), f_0_5⟩
theorem q_0_6 : pQ_0 u_0_6 := ⟨_, _, _, _, (pS_nil), (pV_cons (List.mem_of_getElem? (i := 7) rfl) (pV_nil)), f_0_6⟩
theorem q_0_7 : pQ_0 u_0_7 := ⟨_, _, _, _, (pS_nil), (pV_cons (List.mem_of_getElem? (i := 8) rfl) (pV_nil)), f_0_7⟩
theorem q_0_8 : pQ_0 u_0_8 := ⟨_, _, _, _, (pS_nil), (pV_cons (List.mem_of_getElem? (i := 9) rfl) (pV_nil)), f_0_8⟩
theorem q_0_9 : pQ_0 u_0_9 := ⟨_, _, _, _, (pS_nil), (pV_cons (List.mem_of_getElem? (i := 8) rfl) (pV_nil)), f_0_9⟩
theorem qb_0_0 : ∀ u ∈ [u_0_0, u_0_1, u_0_2, u_0_3, u_0_4, u_0_5, u_0_6, u_0_7, u_0_8, u_0_9], pQ_0 u := pU_cons q_0_0 (pU_cons q_0_1 (pU_cons q_0_2 (pU_cons q_0_3 (pU_cons q_0_4 (pU_cons q_0_5 (pU_cons q_0_6 (pU_cons q_0_7 (pU_cons q_0_8 (pU_cons q_0_9 (pU_nil))))))))))
theorem ok_0 : sInOk pPT i_0 := sInst3 (M := pm_162) (cus := us_0) pOk pg_162 (by decide +kernel) ⟨_, _, _, _, (pS_nil), (pV_cons (List.mem_of_getElem? (i := 0) rfl) (pV_nil)), e_0⟩ (show ∀ u ∈ us_0, pQ_0 u from qb_0_0)
def pQ_1 (u : sCu) : Prop := ∃ (SM : List sIn) (H : gHt) (cu : List sCu) (n : Nat), (∀ I ∈ SM, sInOk pPT I) ∧ (∀ v ∈ cu, v ∈ us_1) ∧ sWhU pPT SM H i_1 (mR pm_161) cu n u = true
theorem q_1_0 : pQ_1 u_1_0 := ⟨_, _, _, _, (pS_nil), (pV_cons (List.mem_of_getElem? (i := 1) rfl) (pV_cons (List.mem_of_getElem? (i := 2) rfl) (pV_nil))), f_1_0⟩
theorem q_1_1 : pQ_1 u_1_1 := ⟨_, _, _, _, (pS_cons ok_0 (pS_nil)), (pV_cons (List.mem_of_getElem? (i := 3) rfl) (pV_cons (List.mem_of_getElem? (i := 4) rfl) (pV_cons (List.mem_of_getElem? (i := 5) rfl) (pV_nil)))), f_1_1⟩
theorem q_1_2 : pQ_1 u_1_2 := ⟨_, _, _, _, (pS_nil), (pV_cons (List.mem_of_getElem? (i := 0) rfl) (pV_nil)), f_1_2⟩
theorem q_1_3 : pQ_1 u_1_3 := ⟨_, _, _, _, (pS_nil), (pV_nil), f_1_3⟩
theorem q_1_4 : pQ_1 u_1_4 := ⟨_, _, _, _, (pS_nil), (pV_nil), f_1_4⟩
theorem q_1_5 : pQ_1 u_1_5 := ⟨_, _, _, _, (pS_nil), (pV_cons (List.mem_of_getElem? (i := 6) rfl) (pV_nil)), f_1_5⟩
theorem q_1_6 : pQ_1 u_1_6 := ⟨_, _, _, _, (pS_nil), (pV_cons (List.mem_of_getElem? (i := 6) rfl) (pV_nil)), f_1_6⟩
theorem qb_1_0 : ∀ u ∈ [u_1_0, u_1_1, u_1_2, u_1_3, u_1_4, u_1_5, u_1_6], pQ_1 u := pU_cons q_1_0 (pU_cons q_1_1 (pU_cons q_1_2 (pU_cons q_1_3 (pU_cons q_1_4 (pU_cons q_1_5 (pU_cons q_1_6 (pU_nil)))))))
theorem ok_1 : sInOk pPT i_1 := sInst3 (M := pm_161) (cus := us_1) pOk pg_161 (by decide +kernel) ⟨_, _, _, _, (pS_nil), (pV_cons (List.mem_of_getElem? (i := 0) rfl) (pV_nil)), e_1⟩ (show ∀ u ∈ us_1, pQ_1 u from qb_1_0)
theorem ok_2 : sInOk pPT i_2 := sInst3 (M := pm_168) (cus := []) pOk pg_168 (by decide +kernel) ⟨_, _, _, _, (pS_nil), pV_nil, e_2⟩ pU_nil
theorem ok_3 : sInOk pPT i_3 := sInst3 (M := pm_168) (cus := []) pOk pg_168 (by decide +kernel) ⟨_, _, _, _, (pS_nil), pV_nil, e_3⟩ pU_nil
theorem ok_4 : sInOk pPT i_4 := sInst3 (M := pm_168) (cus := []) pOk pg_168 (by decide +kernel) ⟨_, _, _, _, (pS_nil), pV_nil, e_4⟩ pU_nil
theorem ok_5 : sInOk pPT i_5 := sInst3 (M := pm_168) (cus := []) pOk pg_168 (by decide +kernel) ⟨_, _, _, _, (pS_nil), pV_nil, e_5⟩ pU_nil
theorem ok_6 : sInOk pPT i_6 := sInst3 (M := pm_168) (cus := []) pOk pg_168 (by decide +kernel) ⟨_, _, _, _, (pS_nil), pV_nil, e_6⟩ pU_nil
theorem ok_7 : sInOk pPT i_7 := sInst3 (M := pm_168) (cus := []) pOk pg_168 (by decide +kernel) ⟨_, _, _, _, (pS_nil), pV_nil, e_7⟩ pU_nil
theorem ok_8 : sInOk pPT i_8 := sInst3 (M := pm_168) (cus := []) pOk pg_168 (by decide +kernel) ⟨_, _, _, _, (pS_nil), pV_nil, e_8⟩ pU_nil
theorem ok_9 : sInOk pPT i_9 := sInst3 (M := pm_168) (cus := []) pOk pg_168 (by decide +kernel) ⟨_, _, _, _, (pS_nil), pV_nil, e_9⟩ pU_nil
theorem ok_10 : sInOk pPT i_10 := sInst3 (M := pm_168) (cus := []) pOk pg_168 (by decide +kernel) ⟨_, _, _, _, (pS_nil), pV_nil, e_10⟩ pU_nil
theorem ok_11 : sInOk pPT i_11 := sInst3 (M := pm_168) (cus := []) pOk pg_168 (by decide +kernel) ⟨_, _, _, _, (pS_nil), pV_nil, e_11⟩ pU_nil
def pQ_12 (u : sCu) : Prop := ∃ (SM : List sIn) (H : gHt) (cu : List sCu) (n : Nat), (∀ I ∈ SM, sInOk pPT I) ∧ (∀ v ∈ cu, v ∈ us_12) ∧ sWhU pPT SM H i_12 (mR pm_166) cu n u = true
theorem q_12_0 : pQ_12 u_12_0 := ⟨_, _, _, _, (pS_nil), (pV_nil), f_12_0⟩
theorem qb_12_0 : ∀ u ∈ [u_12_0], pQ_12 u := pU_cons q_12_0 (pU_nil)
theorem ok_12 : sInOk pPT i_12 := sInst3 (M := pm_166) (cus := us_12) pOk pg_166 (by decide +kernel) ⟨_, _, _, _, (pS_nil), (pV_cons (List.mem_of_getElem? (i := 0) rfl) (pV_nil)), e_12⟩ (show ∀ u ∈ us_12, pQ_12 u from qb_12_0)
theorem ok_13 : sInOk pPT i_13 := sInst3 (M := pm_168) (cus := []) pOk pg_168 (by decide +kernel) ⟨_, _, _, _, (pS_nil), pV_nil, e_13⟩ pU_nil
theorem ok_14 : sInOk pPT i_14 := sInst3 (M := pm_168) (cus := []) pOk pg_168 (by decide +kernel) ⟨_, _, _, _, (pS_nil), pV_nil, e_14⟩ pU_nil
theorem ok_15 : sInOk pPT i_15 := sInst3 (M := pm_168) (cus := []) pOk pg_168 (by decide +kernel) ⟨_, _, _, _, (pS_nil), pV_nil, e_15⟩ pU_nil
theorem ok_16 : sInOk pPT i_16 := sInst3 (M := pm_168) (cus := []) pOk pg_168 (by decide +kernel) ⟨_, _, _, _, (pS_nil), pV_nil, e_16⟩ pU_nil
theorem ok_17 : sInOk pPT i_17 := sInst3 (M := pm_168) (cus := []) pOk pg_168 (by decide +kernel) ⟨_, _, _, _, (pS_nil), pV_nil, e_17⟩ pU_nil
theorem ok_18 : sInOk pPT i_18 := sInst3 (M := pm_168) (cus := []) pOk pg_168 (by decide +kernel) ⟨_, _, _, _, (pS_nil), pV_nil, e_18⟩ pU_nil
theorem ok_19 : sInOk pPT i_19 := sInst3 (M := pm_168) (cus := []) pOk pg_168 (by decide +kernel) ⟨_, _, _, _, (pS_nil), pV_nil, e_19⟩ pU_nil
theorem ok_20 : sInOk pPT i_20 := sInst3 (M := pm_168) (cus := []) pOk pg_168 (by decide +kernel) ⟨_, _, _, _, (pS_nil), pV_nil, e_20⟩ pU_nil
def pQ_21 (u : sCu) : Prop := ∃ (SM : List sIn) (H : gHt) (cu : List sCu) (n : Nat), (∀ I ∈ SM, sInOk pPT I) ∧ (∀ v ∈ cu, v ∈ us_21) ∧ sWhU pPT SM H i_21 (mR pm_175) cu n u = true
theorem q_21_0 : pQ_21 u_21_0 := ⟨_, _, _, _, (pS_nil), (pV_cons (List.mem_of_getElem? (i := 2) rfl) (pV_nil)), f_21_0⟩
theorem q_21_1 : pQ_21 u_21_1 := ⟨_, _, _, _, (pS_nil), (pV_nil), f_21_1⟩
theorem q_21_2 : pQ_21 u_21_2 := ⟨_, _, _, _, (pS_nil), (pV_nil), f_21_2⟩
theorem qb_21_0 : ∀ u ∈ [u_21_0, u_21_1, u_21_2], pQ_21 u := pU_cons q_21_0 (pU_cons q_21_1 (pU_cons q_21_2 (pU_nil)))
theorem ok_21 : sInOk pPT i_21 := sInst3 (M := pm_175) (cus := us_21) pOk pg_175 (by decide +kernel) ⟨_, _, _, _, (pS_cons ok_12 (pS_nil)), (pV_cons (List.mem_of_getElem? (i := 0) rfl) (pV_cons (List.mem_of_getElem? (i := 1) rfl) (pV_nil))), e_21⟩ (show ∀ u ∈ us_21, pQ_21 u from qb_21_0)
theorem ok_22 : sInOk pPT i_22 := sInst3 (M := pm_188) (cus := []) pOk pg_188 (by decide +kernel) ⟨_, _, _, _, (pS_cons ok_1 (pS_nil)), pV_nil, e_22⟩ pU_nil
def pQ_23 (u : sCu) : Prop := ∃ (SM : List sIn) (H : gHt) (cu : List sCu) (n : Nat), (∀ I ∈ SM, sInOk pPT I) ∧ (∀ v ∈ cu, v ∈ us_23) ∧ sWhU pPT SM H i_23 (mR pm_179) cu n u = true
theorem q_23_0 : pQ_23 u_23_0 := ⟨_, _, _, _, (pS_nil), (pV_nil), f_23_0⟩
theorem qb_23_0 : ∀ u ∈ [u_23_0], pQ_23 u := pU_cons q_23_0 (pU_nil)
theorem ok_23 : sInOk pPT i_23 := sInst3 (M := pm_179) (cus := us_23) pOk pg_179 (by decide +kernel) ⟨_, _, _, _, (pS_cons ok_1 (pS_cons ok_12 (pS_cons ok_13 (pS_cons ok_14 (pS_cons ok_15 (pS_cons ok_16 (pS_cons ok_17 (pS_cons ok_18 (pS_cons ok_19 (pS_cons ok_20 (pS_cons ok_21 (pS_cons ok_22 (pS_nil))))))))))))), (pV_cons (List.mem_of_getElem? (i := 0) rfl) (pV_nil)), e_23⟩ (show ∀ u ∈ us_23, pQ_23 u from qb_23_0)
def pQ_24 (u : sCu) : Prop := ∃ (SM : List sIn) (H : gHt) (cu : List sCu) (n : Nat), (∀ I ∈ SM, sInOk pPT I) ∧ (∀ v ∈ cu, v ∈ us_24) ∧ sWhU pPT SM H i_24 (mR pm_166) cu n u = true
theorem q_24_0 : pQ_24 u_24_0 := ⟨_, _, _, _, (pS_nil), (pV_nil), f_24_0⟩
theorem qb_24_0 : ∀ u ∈ [u_24_0], pQ_24 u := pU_cons q_24_0 (pU_nil)
theorem ok_24 : sInOk pPT i_24 := sInst3 (M := pm_166) (cus := us_24) pOk pg_166 (by decide +kernel) ⟨_, _, _, _, (pS_nil), (pV_cons (List.mem_of_getElem? (i := 0) rfl) (pV_nil)), e_24⟩ (show ∀ u ∈ us_24, pQ_24 u from qb_24_0)
def pQ_25 (u : sCu) : Prop := ∃ (SM : List sIn) (H : gHt) (cu : List sCu) (n : Nat), (∀ I ∈ SM, sInOk pPT I) ∧ (∀ v ∈ cu, v ∈ us_25) ∧ sWhU pPT SM H i_25 (mR pm_166) cu n u = true
theorem q_25_0 : pQ_25 u_25_0 := ⟨_, _, _, _, (pS_nil), (pV_nil), f_25_0⟩
theorem qb_25_0 : ∀ u ∈ [u_25_0], pQ_25 u := pU_cons q_25_0 (pU_nil)
theorem ok_25 : sInOk pPT i_25 := sInst3 (M := pm_166) (cus := us_25) pOk pg_166 (by decide +kernel) ⟨_, _, _, _, (pS_nil), (pV_cons (List.mem_of_getElem? (i := 0) rfl) (pV_nil)), e_25⟩ (show ∀ u ∈ us_25, pQ_25 u from qb_25_0)
def pQ_26 (u : sCu) : Prop := ∃ (SM : List sIn) (H : gHt) (cu : List sCu) (n : Nat), (∀ I ∈ SM, sInOk pPT I) ∧ (∀ v ∈ cu, v ∈ us_26) ∧ sWhU pPT SM H i_26 (mR pm_180) cu n u = true
theorem q_26_0 : pQ_26 u_26_0 := ⟨_, _, _, _, (pS_cons ok_24 (pS_cons ok_25 (pS_nil))), (pV_cons (List.mem_of_getElem? (i := 1) rfl) (pV_cons (List.mem_of_getElem? (i := 2) rfl) (pV_cons (List.mem_of_getElem? (i := 3) rfl) (pV_nil)))), f_26_0⟩
theorem q_26_1 : pQ_26 u_26_1 := ⟨_, _, _, _, (pS_cons ok_24 (pS_nil)), (pV_cons (List.mem_of_getElem? (i := 4) rfl) (pV_cons (List.mem_of_getElem? (i := 5) rfl) (pV_nil))), f_26_1⟩
theorem q_26_2 : pQ_26 u_26_2 := ⟨_, _, _, _, (pS_cons ok_24 (pS_nil)), (pV_cons (List.mem_of_getElem? (i := 4) rfl) (pV_cons (List.mem_of_getElem? (i := 5) rfl) (pV_nil))), f_26_2⟩
theorem q_26_3 : pQ_26 u_26_3 := ⟨_, _, _, _, (pS_nil), (pV_nil), f_26_3⟩
theorem q_26_4 : pQ_26 u_26_4 := ⟨_, _, _, _, (pS_cons ok_1 (pS_cons ok_23 (pS_nil))), (pV_cons (List.mem_of_getElem? (i := 6) rfl) (pV_nil)), f_26_4⟩
theorem q_26_5 : pQ_26 u_26_5 := ⟨_, _, _, _, (pS_cons ok_1 (pS_cons ok_23 (pS_nil))), (pV_cons (List.mem_of_getElem? (i := 6) rfl) (pV_nil)), f_26_5⟩
theorem q_26_6 : pQ_26 u_26_6 := ⟨_, _, _, _, (pS_cons ok_24 (pS_cons ok_25 (pS_nil))), (pV_cons (List.mem_of_getElem? (i := 3) rfl) (pV_cons (List.mem_of_getElem? (i := 1) rfl) (pV_cons (List.mem_of_getElem? (i := 2) rfl) (pV_nil)))), f_26_6⟩
theorem q_26_7 : pQ_26 u_26_7 := ⟨_, _, _, _, (pS_cons ok_24 (pS_cons ok_25 (pS_nil))), (pV_cons (List.mem_of_getElem? (i := 3) rfl) (pV_cons (List.mem_of_getElem? (i := 1) rfl) (pV_cons (List.mem_of_getElem? (i := 2) rfl) (pV_nil)))), f_26_7⟩
theorem qb_26_0 : ∀ u ∈ [u_26_0, u_26_1, u_26_2, u_26_3, u_26_4, u_26_5, u_26_6, u_26_7], pQ_26 u := pU_cons q_26_0 (pU_cons q_26_1 (pU_cons q_26_2 (pU_cons q_26_3 (pU_cons q_26_4 (pU_cons q_26_5 (pU_cons q_26_6 (pU_cons q_26_7 (pU_nil))))))))
theorem ok_26 : sInOk pPT i_26 := sInst3 (M := pm_180) (cus := us_26) pOk pg_180 (by decide +kernel) ⟨_, _, _, _, (pS_cons ok_23 (pS_nil)), (pV_cons (List.mem_of_getElem? (i := 0) rfl) (pV_nil)), e_26⟩ (show ∀ u ∈ us_26, pQ_26 u from qb_26_0)
def pQ_27 (u : sCu) : Prop := ∃ (SM : List sIn) (H : gHt) (cu : List sCu) (n : Nat), (∀ I ∈ SM, sInOk pPT I) ∧ (∀ v ∈ cu, v ∈ us_27) ∧ sWhU pPT SM H i_27 (mR pm_166) cu n u = true
theorem q_27_0 : pQ_27 u_27_0 := ⟨_, _, _, _, (pS_nil), (pV_nil), f_27_0⟩
theorem qb_27_0 : ∀ u ∈ [u_27_0], pQ_27 u := pU_cons q_27_0 (pU_nil)
theorem ok_27 : sInOk pPT i_27 := sInst3 (M := pm_166) (cus := us_27) pOk pg_166 (by decide +kernel) ⟨_, _, _, _, (pS_nil), (pV_cons (List.mem_of_getElem? (i := 0) rfl) (pV_nil)), e_27⟩ (show ∀ u ∈ us_27, pQ_27 u from qb_27_0)
def pQ_28 (u : sCu) : Prop := ∃ (SM : List sIn) (H : gHt) (cu : List sCu) (n : Nat), (∀ I ∈ SM, sInOk pPT I) ∧ (∀ v ∈ cu, v ∈ us_28) ∧ sWhU pPT SM H i_28 (mR pm_166) cu n u = true
theorem q_28_0 : pQ_28 u_28_0 := ⟨_, _, _, _, (pS_nil), (pV_nil), f_28_0⟩
theorem qb_28_0 : ∀ u ∈ [u_28_0], pQ_28 u := pU_cons q_28_0 (pU_nil)
theorem ok_28 : sInOk pPT i_28 := sInst3 (M := pm_166) (cus := us_28) pOk pg_166 (by decide +kernel) ⟨_, _, _, _, (pS_nil), (pV_cons (List.mem_of_getElem? (i := 0) rfl) (pV_nil)), e_28⟩ (show ∀ u ∈ us_28, pQ_28 u from qb_28_0)
def pQ_29 (u : sCu) : Prop := ∃ (SM : List sIn) (H : gHt) (cu : List sCu) (n : Nat), (∀ I ∈ SM, sInOk pPT I) ∧ (∀ v ∈ cu, v ∈ us_29) ∧ sWhU pPT SM H i_29 (mR pm_184) cu n u = true
theorem q_29_0 : pQ_29 u_29_0 := ⟨_, _, _, _, (pS_cons ok_27 (pS_cons ok_28 (pS_nil))), (pV_cons (List.mem_of_getElem? (i := 1) rfl) (pV_cons (List.mem_of_getElem? (i := 2) rfl) (pV_cons (List.mem_of_getElem? (i := 3) rfl) (pV_nil)))), f_29_0⟩
theorem q_29_1 : pQ_29 u_29_1 := ⟨_, _, _, _, (pS_cons ok_27 (pS_nil)), (pV_cons (List.mem_of_getElem? (i := 4) rfl) (pV_cons (List.mem_of_getElem? (i := 5) rfl) (pV_nil))), f_29_1⟩
theorem q_29_2 : pQ_29 u_29_2 := ⟨_, _, _, _, (pS_cons ok_27 (pS_nil)), (pV_cons (List.mem_of_getElem? (i := 4) rfl) (pV_cons (List.mem_of_getElem? (i := 5) rfl) (pV_nil))), f_29_2⟩
theorem q_29_3 : pQ_29 u_29_3 := ⟨_, _, _, _, (pS_nil), (pV_nil), f_29_3⟩
theorem q_29_4 : pQ_29 u_29_4 := ⟨_, _, _, _, (pS_cons ok_1 (pS_cons ok_26 (pS_nil))), (pV_cons (List.mem_of_getElem? (i := 6) rfl) (pV_nil)), f_29_4⟩
theorem q_29_5 : pQ_29 u_29_5 := ⟨_, _, _, _, (pS_cons ok_1 (pS_cons ok_26 (pS_nil))), (pV_cons (List.mem_of_getElem? (i := 6) rfl) (pV_nil)), f_29_5⟩
theorem q_29_6 : pQ_29 u_29_6 := ⟨_, _, _, _, (pS_cons ok_27 (pS_cons ok_28 (pS_nil))), (pV_cons (List.mem_of_getElem? (i := 3) rfl) (pV_cons (List.mem_of_getElem? (i := 1) rfl) (pV_cons (List.mem_of_getElem? (i := 2) rfl) (pV_nil)))), f_29_6⟩
theorem q_29_7 : pQ_29 u_29_7 := ⟨_, _, _, _, (pS_cons ok_27 (pS_cons ok_28 (pS_nil))), (pV_cons (List.mem_of_getElem? (i := 3) rfl) (pV_cons (List.mem_of_getElem? (i := 1) rfl) (pV_cons (List.mem_of_getElem? (i := 2) rfl) (pV_nil)))), f_29_7⟩
theorem qb_29_0 : ∀ u ∈ [u_29_0, u_29_1, u_29_2, u_29_3, u_29_4, u_29_5, u_29_6, u_29_7], pQ_29 u := pU_cons q_29_0 (pU_cons q_29_1 (pU_cons q_29_2 (pU_cons q_29_3 (pU_cons q_29_4 (pU_cons q_29_5 (pU_cons q_29_6 (pU_cons q_29_7 (pU_nil))))))))
theorem ok_29 : sInOk pPT i_29 := sInst3 (M := pm_184) (cus := us_29) pOk pg_184 (by decide +kernel) ⟨_, _, _, _, (pS_cons ok_26 (pS_nil)), (pV_cons (List.mem_of_getElem? (i := 0) rfl) (pV_nil)), e_29⟩ (show ∀ u ∈ us_29, pQ_29 u from qb_29_0)
def pQ_30 (u : sCu) : Prop := ∃ (SM : List sIn) (H : gHt) (cu : List sCu) (n : Nat), (∀ I ∈ SM, sInOk pPT I) ∧ (∀ v ∈ cu, v ∈ us_30) ∧ sWhU pPT SM H i_30 (mR pm_166) cu n u = true
theorem q_30_0 : pQ_30 u_30_0 := ⟨_, _, _, _, (pS_nil), (pV_nil), f_30_0⟩
theorem qb_30_0 : ∀ u ∈ [u_30_0], pQ_30 u := pU_cons q_30_0 (pU_nil)
theorem ok_30 : sInOk pPT i_30 := sInst3 (M := pm_166) (cus := us_30) pOk pg_166 (by decide +kernel) ⟨_, _, _, _, (pS_nil), (pV_cons (List.mem_of_getElem? (i := 0) rfl) (pV_nil)), e_30⟩ (show ∀ u ∈ us_30, pQ_30 u from qb_30_0)
def pQ_31 (u : sCu) : Prop := ∃ (SM : List sIn) (H : gHt) (cu : List sCu) (n : Nat), (∀ I ∈ SM, sInOk pPT I) ∧ (∀ v ∈ cu, v ∈ us_31) ∧ sWhU pPT SM H i_31 (mR pm_166) cu n u = true
theorem q_31_0 : pQ_31 u_31_0 := ⟨_, _, _, _, (pS_nil), (pV_nil), f_31_0⟩
theorem qb_31_0 : ∀ u ∈ [u_31_0], pQ_31 u := pU_cons q_31_0 (pU_nil)
theorem ok_31 : sInOk pPT i_31 := sInst3 (M := pm_166) (cus := us_31) pOk pg_166 (by decide +kernel) ⟨_, _, _, _, (pS_nil), (pV_cons (List.mem_of_getElem? (i := 0) rfl) (pV_nil)), e_31⟩ (show ∀ u ∈ us_31, pQ_31 u from qb_31_0)
def pQ_32 (u : sCu) : Prop := ∃ (SM : List sIn) (H : gHt) (cu : List sCu) (n : Nat), (∀ I ∈ SM, sInOk pPT I) ∧ (∀ v ∈ cu, v ∈ us_32) ∧ sWhU pPT SM H i_32 (mR pm_185) cu n u = true
theorem q_32_0 : pQ_32 u_32_0 := ⟨_, _, _, _, (pS_cons ok_1 (pS_cons ok_29 (pS_nil))), (pV_cons (List.mem_of_getElem? (i := 2) rfl) (pV_nil)), f_32_0⟩
theorem q_32_1 : pQ_32 u_32_1 := ⟨_, _, _, _, (pS_cons ok_1 (pS_cons ok_29 (pS_nil))), (pV_cons (List.mem_of_getElem? (i := 3) rfl) (pV_nil)), f_32_1⟩
theorem q_32_2 : pQ_32 u_32_2 := ⟨_, _, _, _, (pS_nil), (pV_nil), f_32_2⟩
theorem q_32_3 : pQ_32 u_32_3 := ⟨_, _, _, _, (pS_nil), (pV_nil), f_32_3⟩
theorem qb_32_0 : ∀ u ∈ [u_32_0, u_32_1, u_32_2, u_32_3], pQ_32 u := pU_cons q_32_0 (pU_cons q_32_1 (pU_cons q_32_2 (pU_cons q_32_3 (pU_nil))))
theorem ok_32 : sInOk pPT i_32 := sInst3 (M := pm_185) (cus := us_32) pOk pg_185 (by decide +kernel) ⟨_, _, _, _, (pS_cons ok_29 (pS_cons ok_30 (pS_cons ok_31 (pS_nil)))), (pV_cons (List.mem_of_getElem? (i := 0) rfl) (pV_cons (List.mem_of_getElem? (i := 1) rfl) (pV_nil))), e_32⟩ (show ∀ u ∈ us_32, pQ_32 u from qb_32_0)
def pQ_33 (u : sCu) : Prop := ∃ (SM : List sIn) (H : gHt) (cu : List sCu) (n : Nat), (∀ I ∈ SM, sInOk pPT I) ∧ (∀ v ∈ cu, v ∈ us_33) ∧ sWhU pPT SM H i_33 (mR pm_178) cu n u = true
theorem q_33_0 : pQ_33 u_33_0 := ⟨_, _, _, _, (pS_cons ok_1 (pS_cons ok_11 (pS_nil))), (pV_cons (List.mem_of_getElem? (i := 1) rfl) (pV_cons (List.mem_of_getElem? (i := 2) rfl) (pV_nil))), f_33_0⟩
theorem q_33_1 : pQ_33 u_33_1 := ⟨_, _, _, _, (pS_nil), (pV_cons (List.mem_of_getElem? (i := 3) rfl) (pV_nil)), f_33_1⟩
theorem q_33_2 : pQ_33 u_33_2 := ⟨_, _, _, _, (pS_cons ok_1 (pS_cons ok_11 (pS_nil))), (pV_cons (List.mem_of_getElem? (i := 4) rfl) (pV_cons (List.mem_of_getElem? (i := 5) rfl) (pV_nil))), f_33_2⟩
theorem q_33_3 : pQ_33 u_33_3 := ⟨_, _, _, _, (pS_cons ok_32 (pS_nil)), (pV_cons (List.mem_of_getElem? (i := 6) rfl) (pV_nil)), f_33_3⟩
theorem q_33_4 : pQ_33 u_33_4 := ⟨_, _, _, _, (pS_nil), (pV_cons (List.mem_of_getElem? (i := 7) rfl) (pV_nil)), f_33_4⟩
theorem q_33_5 : pQ_33 u_33_5 := ⟨_, _, _, _, (pS_cons ok_1 (pS_cons ok_11 (pS_nil))), (pV_cons (List.mem_of_getElem? (i := 8) rfl) (pV_cons (List.mem_of_getElem? (i := 9) rfl) (pV_nil))), f_33_5⟩
theorem q_33_6 : pQ_33 u_33_6 := ⟨_, _, _, _, (pS_nil), (pV_nil), f_33_6⟩
theorem q_33_7 : pQ_33 u_33_7 := ⟨_, _, _, _, (pS_cons ok_32 (pS_nil)), (pV_cons (List.mem_of_getElem? (i := 10) rfl) (pV_nil)), f_33_7⟩
theorem q_33_8 : pQ_33 u_33_8 := ⟨_, _, _, _, (pS_nil), (pV_cons (List.mem_of_getElem? (i := 11) rfl) (pV_nil)), f_33_8⟩
theorem q_33_9 : pQ_33 u_33_9 := ⟨_, _, _, _, (pS_cons ok_1 (pS_cons ok_11 (pS_nil))), (pV_cons (List.mem_of_getElem? (i := 12) rfl) (pV_cons (List.mem_of_getElem? (i := 13) rfl) (pV_nil))), f_33_9⟩
theorem q_33_10 : pQ_33 u_33_10 := ⟨_, _, _, _, (pS_nil), (pV_cons (List.mem_of_getElem? (i := 10) rfl) (pV_nil)), f_33_10⟩
theorem q_33_11 : pQ_33 u_33_11 := ⟨_, _, _, _, (pS_cons ok_32 (pS_nil)), (pV_cons (List.mem_of_getElem? (i := 14) rfl) (pV_nil)), f_33_11⟩
theorem q_33_12 : pQ_33 u_33_12 := ⟨_, _, _, _, (pS_nil), (pV_cons (List.mem_of_getElem? (i := 15) rfl) (pV_nil)), f_33_12⟩
theorem q_33_13 : pQ_33 u_33_13 := ⟨_, _, _, _, (pS_cons ok_1 (pS_cons ok_11 (pS_nil))), (pV_cons (List.mem_of_getElem? (i := 16) rfl) (pV_cons (List.mem_of_getElem? (i := 17) rfl) (pV_nil))), f_33_13⟩
theorem q_33_14 : pQ_33 u_33_14 := ⟨_, _, _, _, (pS_nil), (pV_cons (List.mem_of_getElem? (i := 14) rfl) (pV_nil)), f_33_14⟩
theorem q_33_15 : pQ_33 u_33_15 := ⟨_, _, _, _, (pS_cons ok_32 (pS_nil)), (pV_cons (List.mem_of_getElem? (i := 18) rfl) (pV_nil)), f_33_15⟩
theorem q_33_16 : pQ_33 u_33_16 := ⟨_, _, _, _, (pS_nil), (pV_cons (List.mem_of_getElem? (i := 19) rfl) (pV_nil)), f_33_16⟩
theorem q_33_17 : pQ_33 u_33_17 := ⟨_, _, _, _, (pS_cons ok_1 (pS_cons ok_11 (pS_nil))), (pV_cons (List.mem_of_getElem? (i := 20) rfl) (pV_cons (List.mem_of_getElem? (i := 21) rfl) (pV_nil))), f_33_17⟩
theorem q_33_18 : pQ_33 u_33_18 := ⟨_, _, _, _, (pS_nil), (pV_cons (List.mem_of_getElem? (i := 18) rfl) (pV_nil)), f_33_18⟩
theorem q_33_19 : pQ_33 u_33_19 := ⟨_, _, _, _, (pS_cons ok_32 (pS_nil)), (pV_cons (List.mem_of_getElem? (i := 22) rfl) (pV_nil)), f_33_19⟩
theorem q_33_20 : pQ_33 u_33_20 := ⟨_, _, _, _, (pS_nil), (pV_cons (List.mem_of_getElem? (i := 23) rfl) (pV_nil)), f_33_20⟩
theorem q_33_21 : pQ_33 u_33_21 := ⟨_, _, _, _, (pS_nil), (pV_cons (List.mem_of_getElem? (i := 24) rfl) (pV_nil)), f_33_21⟩
theorem q_33_22 : pQ_33 u_33_22 := ⟨_, _, _, _, (pS_nil), (pV_cons (List.mem_of_getElem? (i := 22) rfl) (pV_nil)), f_33_22⟩
theorem q_33_23 : pQ_33 u_33_23 := ⟨_, _, _, _, (pS_cons ok_32 (pS_nil)), (pV_cons (List.mem_of_getElem? (i := 25) rfl) (pV_nil)), f_33_23⟩
theorem q_33_24 : pQ_33 u_33_24 := ⟨_, _, _, _, (pS_cons ok_11 (pS_nil)), (pV_cons (List.mem_of_getElem? (i := 26) rfl) (pV_nil)), f_33_24⟩
theorem q_33_25 : pQ_33 u_33_25 := ⟨_, _, _, _, (pS_nil), (pV_cons (List.mem_of_getElem? (i := 25) rfl) (pV_nil)), f_33_25⟩
theorem q_33_26 : pQ_33 u_33_26 := ⟨_, _, _, _, (pS_cons ok_32 (pS_nil)), (pV_cons (List.mem_of_getElem? (i := 27) rfl) (pV_nil)), f_33_26⟩
theorem q_33_27 : pQ_33 u_33_27 := ⟨_, _, _, _, (pS_nil), (pV_cons (List.mem_of_getElem? (i := 27) rfl) (pV_nil)), f_33_27⟩
theorem qb_33_0 : ∀ u ∈ [u_33_0, u_33_1, u_33_2, u_33_3, u_33_4, u_33_5, u_33_6, u_33_7, u_33_8, u_33_9], pQ_33 u := pU_cons q_33_0 (pU_cons q_33_1 (pU_cons q_33_2 (pU_cons q_33_3 (pU_cons q_33_4 (pU_cons q_33_5 (pU_cons q_33_6 (pU_cons q_33_7 (pU_cons q_33_8 (pU_cons q_33_9 (pU_nil))))))))))
theorem qb_33_1 : ∀ u ∈ [u_33_10, u_33_11, u_33_12, u_33_13, u_33_14, u_33_15, u_33_16, u_33_17, u_33_18, u_33_19], pQ_33 u := pU_cons q_33_10 (pU_cons q_33_11 (pU_cons q_33_12 (pU_cons q_33_13 (pU_cons q_33_14 (pU_cons q_33_15 (pU_cons q_33_16 (pU_cons q_33_17 (pU_cons q_33_18 (pU_cons q_33_19 (pU_nil))))))))))
theorem qb_33_2 : ∀ u ∈ [u_33_20, u_33_21, u_33_22, u_33_23, u_33_24, u_33_25, u_33_26, u_33_27], pQ_33 u := pU_cons q_33_20 (pU_cons q_33_21 (pU_cons q_33_22 (pU_cons q_33_23 (pU_cons q_33_24 (pU_cons q_33_25 (pU_cons q_33_26 (pU_cons q_33_27 (pU_nil))))))))
theorem ok_33 : sInOk pPT i_33 := sInst3 (M := pm_178) (cus := us_33) pOk pg_178 (by decide +kernel) ⟨_, _, _, _, (pS_nil), (pV_cons (List.mem_of_getElem? (i := 0) rfl) (pV_nil)), e_33⟩ (show ∀ u ∈ us_33, pQ_33 u from (pU_app qb_33_0 (pU_app qb_33_1 qb_33_2)))
theorem ok_34 : sInOk pPT i_34 := sInst3 (M := pm_168) (cus := []) pOk pg_168 (by decide +kernel) ⟨_, _, _, _, (pS_nil), pV_nil, e_34⟩ pU_nil
def pQ_35 (u : sCu) : Prop := ∃ (SM : List sIn) (H : gHt) (cu : List sCu) (n : Nat), (∀ I ∈ SM, sInOk pPT I) ∧ (∀ v ∈ cu, v ∈ us_35) ∧ sWhU pPT SM H i_35 (mR pm_174) cu n u = true
theorem q_35_0 : pQ_35 u_35_0 := ⟨_, _, _, _, (pS_cons ok_1 (pS_cons ok_33 (pS_cons ok_34 (pS_nil)))), (pV_cons (List.mem_of_getElem? (i := 1) rfl) (pV_cons (List.mem_of_getElem? (i := 0) rfl) (pV_nil))), f_35_0⟩
theorem q_35_1 : pQ_35 u_35_1 := ⟨_, _, _, _, (pS_nil), (pV_nil), f_35_1⟩
theorem qb_35_0 : ∀ u ∈ [u_35_0, u_35_1], pQ_35 u := pU_cons q_35_0 (pU_cons q_35_1 (pU_nil))
theorem ok_35 : sInOk pPT i_35 := sInst3 (M := pm_174) (cus := us_35) pOk pg_174 (by decide +kernel) ⟨_, _, _, _, (pS_cons ok_33 (pS_nil)), (pV_cons (List.mem_of_getElem? (i := 0) rfl) (pV_nil)), e_35⟩ (show ∀ u ∈ us_35, pQ_35 u from qb_35_0)
theorem ok_36 : sInOk pPT i_36 := sInst3 (M := pm_168) (cus := []) pOk pg_168 (by decide +kernel) ⟨_, _, _, _, (pS_nil), pV_nil, e_36⟩ pU_nil
def pQ_37 (u : sCu) : Prop := ∃ (SM : List sIn) (H : gHt) (cu : List sCu) (n : Nat), (∀ I ∈ SM, sInOk pPT I) ∧ (∀ v ∈ cu, v ∈ us_37) ∧ sWhU pPT SM H i_37 (mR pm_175) cu n u = true
theorem q_37_0 : pQ_37 u_37_0 := ⟨_, _, _, _, (pS_cons ok_1 (pS_cons ok_35 (pS_cons ok_36 (pS_nil)))), (pV_cons (List.mem_of_getElem? (i := 1) rfl) (pV_cons (List.mem_of_getElem? (i := 0) rfl) (pV_nil))), f_37_0⟩
theorem q_37_1 : pQ_37 u_37_1 := ⟨_, _, _, _, (pS_nil), (pV_nil), f_37_1⟩
theorem qb_37_0 : ∀ u ∈ [u_37_0, u_37_1], pQ_37 u := pU_cons q_37_0 (pU_cons q_37_1 (pU_nil))
theorem ok_37 : sInOk pPT i_37 := sInst3 (M := pm_175) (cus := us_37) pOk pg_175 (by decide +kernel) ⟨_, _, _, _, (pS_cons ok_35 (pS_nil)), (pV_cons (List.mem_of_getElem? (i := 0) rfl) (pV_nil)), e_37⟩ (show ∀ u ∈ us_37, pQ_37 u from qb_37_0)
def pQ_38 (u : sCu) : Prop := ∃ (SM : List sIn) (H : gHt) (cu : List sCu) (n : Nat), (∀ I ∈ SM, sInOk pPT I) ∧ (∀ v ∈ cu, v ∈ us_38) ∧ sWhU pPT SM H i_38 (mR pm_166) cu n u = true
theorem q_38_0 : pQ_38 u_38_0 := ⟨_, _, _, _, (pS_nil), (pV_nil), f_38_0⟩
theorem qb_38_0 : ∀ u ∈ [u_38_0], pQ_38 u := pU_cons q_38_0 (pU_nil)
theorem ok_38 : sInOk pPT i_38 := sInst3 (M := pm_166) (cus := us_38) pOk pg_166 (by decide +kernel) ⟨_, _, _, _, (pS_nil), (pV_cons (List.mem_of_getElem? (i := 0) rfl) (pV_nil)), e_38⟩ (show ∀ u ∈ us_38, pQ_38 u from qb_38_0)
theorem ok_39 : sInOk pPT i_39 := sInst3 (M := pm_182) (cus := []) pOk pg_182 (by decide +kernel) ⟨_, _, _, _, (pS_cons ok_1 (pS_cons ok_38 (pS_nil))), pV_nil, e_39⟩ pU_nil
def pQ_40 (u : sCu) : Prop := ∃ (SM : List sIn) (H : gHt) (cu : List sCu) (n : Nat), (∀ I ∈ SM, sInOk pPT I) ∧ (∀ v ∈ cu, v ∈ us_40) ∧ sWhU pPT SM H i_40 (mR pm_179) cu n u = true
theorem q_40_0 : pQ_40 u_40_0 := ⟨_, _, _, _, (pS_nil), (pV_nil), f_40_0⟩
theorem qb_40_0 : ∀ u ∈ [u_40_0], pQ_40 u := pU_cons q_40_0 (pU_nil)
theorem ok_40 : sInOk pPT i_40 := sInst3 (M := pm_179) (cus := us_40) pOk pg_179 (by decide +kernel) ⟨_, _, _, _, (pS_cons ok_1 (pS_cons ok_12 (pS_cons ok_13 (pS_cons ok_14 (pS_cons ok_15 (pS_cons ok_16 (pS_cons ok_17 (pS_cons ok_18 (pS_cons ok_19 (pS_cons ok_20 (pS_cons ok_22 (pS_cons ok_37 (pS_cons ok_39 (pS_nil)))))))))))))), (pV_cons (List.mem_of_getElem? (i := 0) rfl) (pV_nil)), e_40⟩ (show ∀ u ∈ us_40, pQ_40 u from qb_40_0)
def pQ_41 (u : sCu) : Prop := ∃ (SM : List sIn) (H : gHt) (cu : List sCu) (n : Nat), (∀ I ∈ SM, sInOk pPT I) ∧ (∀ v ∈ cu, v ∈ us_41) ∧ sWhU pPT SM H i_41 (mR pm_180) cu n u = true
theorem q_41_0 : pQ_41 u_41_0 := ⟨_, _, _, _, (pS_cons ok_24 (pS_cons ok_25 (pS_nil))), (pV_cons (List.mem_of_getElem? (i := 1) rfl) (pV_cons (List.mem_of_getElem? (i := 2) rfl) (pV_cons (List.mem_of_getElem? (i := 3) rfl) (pV_nil)))), f_41_0⟩
theorem q_41_1 : pQ_41 u_41_1 := ⟨_, _, _, _, (pS_cons ok_24 (pS_nil)), (pV_cons (List.mem_of_getElem? (i := 4) rfl) (pV_cons (List.mem_of_getElem? (i := 5) rfl) (pV_nil))), f_41_1⟩
theorem q_41_2 : pQ_41 u_41_2 := ⟨_, _, _, _, (pS_cons ok_24 (pS_nil)), (pV_cons (List.mem_of_getElem? (i := 4) rfl) (pV_cons (List.mem_of_getElem? (i := 5) rfl) (pV_nil))), f_41_2⟩
theorem q_41_3 : pQ_41 u_41_3 := ⟨_, _, _, _, (pS_nil), (pV_nil), f_41_3⟩
theorem q_41_4 : pQ_41 u_41_4 := ⟨_, _, _, _, (pS_cons ok_1 (pS_cons ok_40 (pS_nil))), (pV_cons (List.mem_of_getElem? (i := 6) rfl) (pV_nil)), f_41_4⟩
theorem q_41_5 : pQ_41 u_41_5 := ⟨_, _, _, _, (pS_cons ok_1 (pS_cons ok_40 (pS_nil))), (pV_cons (List.mem_of_getElem? (i := 6) rfl) (pV_nil)), f_41_5⟩
theorem q_41_6 : pQ_41 u_41_6 := ⟨_, _, _, _, (pS_cons ok_24 (pS_cons ok_25 (pS_nil))), (pV_cons (List.mem_of_getElem? (i := 3) rfl) (pV_cons (List.mem_of_getElem? (i := 1) rfl) (pV_cons (List.mem_of_getElem? (i := 2) rfl) (pV_nil)))), f_41_6⟩
theorem q_41_7 : pQ_41 u_41_7 := ⟨_, _, _, _, (pS_cons ok_24 (pS_cons ok_25 (pS_nil))), (pV_cons (List.mem_of_getElem? (i := 3) rfl) (pV_cons (List.mem_of_getElem? (i := 1) rfl) (pV_cons (List.mem_of_getElem? (i := 2) rfl) (pV_nil)))), f_41_7⟩
theorem qb_41_0 : ∀ u ∈ [u_41_0, u_41_1, u_41_2, u_41_3, u_41_4, u_41_5, u_41_6, u_41_7], pQ_41 u := pU_cons q_41_0 (pU_cons q_41_1 (pU_cons q_41_2 (pU_cons q_41_3 (pU_cons q_41_4 (pU_cons q_41_5 (pU_cons q_41_6 (pU_cons q_41_7 (pU_nil))))))))
theorem ok_41 : sInOk pPT i_41 := sInst3 (M := pm_180) (cus := us_41) pOk pg_180 (by decide +kernel) ⟨_, _, _, _, (pS_cons ok_40 (pS_nil)), (pV_cons (List.mem_of_getElem? (i := 0) rfl) (pV_nil)), e_41⟩ (show ∀ u ∈ us_41, pQ_41 u from qb_41_0)
def pQ_42 (u : sCu) : Prop := ∃ (SM : List sIn) (H : gHt) (cu : List sCu) (n : Nat), (∀ I ∈ SM, sInOk pPT I) ∧ (∀ v ∈ cu, v ∈ us_42) ∧ sWhU pPT SM H i_42 (mR pm_184) cu n u = true
theorem q_42_0 : pQ_42 u_42_0 := ⟨_, _, _, _, (pS_cons ok_27 (pS_cons ok_28 (pS_nil))), (pV_cons (List.mem_of_getElem? (i := 1) rfl) (pV_cons (List.mem_of_getElem? (i := 2) rfl) (pV_cons (List.mem_of_getElem? (i := 3) rfl) (pV_nil)))), f_42_0⟩
theorem q_42_1 : pQ_42 u_42_1 := ⟨_, _, _, _, (pS_cons ok_27 (pS_nil)), (pV_cons (List.mem_of_getElem? (i := 4) rfl) (pV_cons (List.mem_of_getElem? (i := 5) rfl) (pV_nil))), f_42_1⟩
theorem q_42_2 : pQ_42 u_42_2 := ⟨_, _, _, _, (pS_cons ok_27 (pS_nil)), (pV_cons (List.mem_of_getElem? (i := 4) rfl) (pV_cons (List.mem_of_getElem? (i := 5) rfl) (pV_nil))), f_42_2⟩
theorem q_42_3 : pQ_42 u_42_3 := ⟨_, _, _, _, (pS_nil), (pV_nil), f_42_3⟩
theorem q_42_4 : pQ_42 u_42_4 := ⟨_, _, _, _, (pS_cons ok_1 (pS_cons ok_41 (pS_nil))), (pV_cons (List.mem_of_getElem? (i := 6) rfl) (pV_nil)), f_42_4⟩
theorem q_42_5 : pQ_42 u_42_5 := ⟨_, _, _, _, (pS_cons ok_1 (pS_cons ok_41 (pS_nil))), (pV_cons (List.mem_of_getElem? (i := 6) rfl) (pV_nil)), f_42_5⟩
theorem q_42_6 : pQ_42 u_42_6 := ⟨_, _, _, _, (pS_cons ok_27 (pS_cons ok_28 (pS_nil))), (pV_cons (List.mem_of_getElem? (i := 3) rfl) (pV_cons (List.mem_of_getElem? (i := 1) rfl) (pV_cons (List.mem_of_getElem? (i := 2) rfl) (pV_nil)))), f_42_6⟩
theorem q_42_7 : pQ_42 u_42_7 := ⟨_, _, _, _, (pS_cons ok_27 (pS_cons ok_28 (pS_nil))), (pV_cons (List.mem_of_getElem? (i := 3) rfl) (pV_cons (List.mem_of_getElem? (i := 1) rfl) (pV_cons (List.mem_of_getElem? (i := 2) rfl) (pV_nil)))), f_42_7⟩
theorem qb_42_0 : ∀ u ∈ [u_42_0, u_42_1, u_42_2, u_42_3, u_42_4, u_42_5, u_42_6, u_42_7], pQ_42 u := pU_cons q_42_0 (pU_cons q_42_1 (pU_cons q_42_2 (pU_cons q_42_3 (pU_cons q_42_4 (pU_cons q_42_5 (pU_cons q_42_6 (pU_cons q_42_7 (pU_nil))))))))
theorem ok_42 : sInOk pPT i_42 := sInst3 (M := pm_184) (cus := us_42) pOk pg_184 (by decide +kernel) ⟨_, _, _, _, (pS_cons ok_41 (pS_nil)), (pV_cons (List.mem_of_getElem? (i := 0) rfl) (pV_nil)), e_42⟩ (show ∀ u ∈ us_42, pQ_42 u from qb_42_0)
def pQ_43 (u : sCu) : Prop := ∃ (SM : List sIn) (H : gHt) (cu : List sCu) (n : Nat), (∀ I ∈ SM, sInOk pPT I) ∧ (∀ v ∈ cu, v ∈ us_43) ∧ sWhU pPT SM H i_43 (mR pm_185) cu n u = true
theorem q_43_0 : pQ_43 u_43_0 := ⟨_, _, _, _, (pS_cons ok_1 (pS_cons ok_42 (pS_nil))), (pV_cons (List.mem_of_getElem? (i := 2) rfl) (pV_nil)), f_43_0⟩
theorem q_43_1 : pQ_43 u_43_1 := ⟨_, _, _, _, (pS_cons ok_1 (pS_cons ok_42 (pS_nil))), (pV_cons (List.mem_of_getElem? (i := 3) rfl) (pV_nil)), f_43_1⟩
theorem q_43_2 : pQ_43 u_43_2 := ⟨_, _, _, _, (pS_nil), (pV_nil), f_43_2⟩
theorem q_43_3 : pQ_43 u_43_3 := ⟨_, _, _, _, (pS_nil), (pV_nil), f_43_3⟩
theorem qb_43_0 : ∀ u ∈ [u_43_0, u_43_1, u_43_2, u_43_3], pQ_43 u := pU_cons q_43_0 (pU_cons q_43_1 (pU_cons q_43_2 (pU_cons q_43_3 (pU_nil))))
theorem ok_43 : sInOk pPT i_43 := sInst3 (M := pm_185) (cus := us_43) pOk pg_185 (by decide +kernel) ⟨_, _, _, _, (pS_cons ok_30 (pS_cons ok_31 (pS_cons ok_42 (pS_nil)))), (pV_cons (List.mem_of_getElem? (i := 0) rfl) (pV_cons (List.mem_of_getElem? (i := 1) rfl) (pV_nil))), e_43⟩ (show ∀ u ∈ us_43, pQ_43 u from qb_43_0)
def pQ_44 (u : sCu) : Prop := ∃ (SM : List sIn) (H : gHt) (cu : List sCu) (n : Nat), (∀ I ∈ SM, sInOk pPT I) ∧ (∀ v ∈ cu, v ∈ us_44) ∧ sWhU pPT SM H i_44 (mR pm_178) cu n u = true
theorem q_44_0 : pQ_44 u_44_0 := ⟨_, _, _, _, (pS_cons ok_1 (pS_cons ok_11 (pS_nil))), (pV_cons (List.mem_of_getElem? (i := 1) rfl) (pV_cons (List.mem_of_getElem? (i := 2) rfl) (pV_nil))), f_44_0⟩
theorem q_44_1 : pQ_44 u_44_1 := ⟨_, _, _, _, (pS_nil), (pV_cons (List.mem_of_getElem? (i := 3) rfl) (pV_nil)), f_44_1⟩
theorem q_44_2 : pQ_44 u_44_2 := ⟨_, _, _, _, (pS_cons ok_1 (pS_cons ok_11 (pS_nil))), (pV_cons (List.mem_of_getElem? (i := 4) rfl) (pV_cons (List.mem_of_getElem? (i := 5) rfl) (pV_nil))), f_44_2⟩
theorem q_44_3 : pQ_44 u_44_3 := ⟨_, _, _, _, (pS_cons ok_43 (pS_nil)), (pV_cons (List.mem_of_getElem? (i := 6) rfl) (pV_nil)), f_44_3⟩
theorem q_44_4 : pQ_44 u_44_4 := ⟨_, _, _, _, (pS_nil), (pV_cons (List.mem_of_getElem? (i := 7) rfl) (pV_nil)), f_44_4⟩
theorem q_44_5 : pQ_44 u_44_5 := ⟨_, _, _, _, (pS_cons ok_1 (pS_cons ok_11 (pS_nil))), (pV_cons (List.mem_of_getElem? (i := 8) rfl) (pV_cons (List.mem_of_getElem? (i := 9) rfl) (pV_nil))), f_44_5⟩
theorem q_44_6 : pQ_44 u_44_6 := ⟨_, _, _, _, (pS_nil), (pV_nil), f_44_6⟩
theorem q_44_7 : pQ_44 u_44_7 := ⟨_, _, _, _, (pS_cons ok_43 (pS_nil)), (pV_cons (List.mem_of_getElem? (i := 10) rfl) (pV_nil)), f_44_7⟩
theorem q_44_8 : pQ_44 u_44_8 := ⟨_, _, _, _, (pS_nil), (pV_cons (List.mem_of_getElem? (i := 11) rfl) (pV_nil)), f_44_8⟩
theorem q_44_9 : pQ_44 u_44_9 := ⟨_, _, _, _, (pS_cons ok_1 (pS_cons ok_11 (pS_nil))), (pV_cons (List.mem_of_getElem? (i := 12) rfl) (pV_cons (List.mem_of_getElem? (i := 13) rfl) (pV_nil))), f_44_9⟩
theorem q_44_10 : pQ_44 u_44_10 := ⟨_, _, _, _, (pS_nil), (pV_cons (List.mem_of_getElem? (i := 10) rfl) (pV_nil)), f_44_10⟩
theorem q_44_11 : pQ_44 u_44_11 := ⟨_, _, _, _, (pS_cons ok_43 (pS_nil)), (pV_cons (List.mem_of_getElem? (i := 14) rfl) (pV_nil)), f_44_11⟩
theorem q_44_12 : pQ_44 u_44_12 := ⟨_, _, _, _, (pS_nil), (pV_cons (List.mem_of_getElem? (i := 15) rfl) (pV_nil)), f_44_12⟩
theorem q_44_13 : pQ_44 u_44_13 := ⟨_, _, _, _, (pS_cons ok_1 (pS_cons ok_11 (pS_nil))), (pV_cons (List.mem_of_getElem? (i := 16) rfl) (pV_cons (List.mem_of_getElem? (i := 17) rfl) (pV_nil))), f_44_13⟩
theorem q_44_14 : pQ_44 u_44_14 := ⟨_, _, _, _, (pS_nil), (pV_cons (List.mem_of_getElem? (i := 14) rfl) (pV_nil)), f_44_14⟩
theorem q_44_15 : pQ_44 u_44_15 := ⟨_, _, _, _, (pS_cons ok_43 (pS_nil)), (pV_cons (List.mem_of_getElem? (i := 18) rfl) (pV_nil)), f_44_15⟩
theorem q_44_16 : pQ_44 u_44_16 := ⟨_, _, _, _, (pS_nil), (pV_cons (List.mem_of_getElem? (i := 19) rfl) (pV_nil)), f_44_16⟩
theorem q_44_17 : pQ_44 u_44_17 := ⟨_, _, _, _, (pS_cons ok_1 (pS_cons ok_11 (pS_nil))), (pV_cons (List.mem_of_getElem? (i := 20) rfl) (pV_cons (List.mem_of_getElem? (i := 21) rfl) (pV_nil))), f_44_17⟩
theorem q_44_18 : pQ_44 u_44_18 := ⟨_, _, _, _, (pS_nil), (pV_cons (List.mem_of_getElem? (i := 18) rfl) (pV_nil)), f_44_18⟩
theorem q_44_19 : pQ_44 u_44_19 := ⟨_, _, _, _, (pS_cons ok_43 (pS_nil)), (pV_cons (List.mem_of_getElem? (i := 22) rfl) (pV_nil)), f_44_19⟩
theorem q_44_20 : pQ_44 u_44_20 := ⟨_, _, _, _, (pS_nil), (pV_cons (List.mem_of_getElem? (i := 23) rfl) (pV_nil)), f_44_20⟩
theorem q_44_21 : pQ_44 u_44_21 := ⟨_, _, _, _, (pS_nil), (pV_cons (List.mem_of_getElem? (i := 24) rfl) (pV_nil)), f_44_21⟩
theorem q_44_22 : pQ_44 u_44_22 := ⟨_, _, _, _, (pS_nil), (pV_cons (List.mem_of_getElem? (i := 22) rfl) (pV_nil)), f_44_22⟩
theorem q_44_23 : pQ_44 u_44_23 := ⟨_, _, _, _, (pS_cons ok_43 (pS_nil)), (pV_cons (List.mem_of_getElem? (i := 25) rfl) (pV_nil)), f_44_23⟩
theorem q_44_24 : pQ_44 u_44_24 := ⟨_, _, _, _, (pS_cons ok_11 (pS_nil)), (pV_cons (List.mem_of_getElem? (i := 26) rfl) (pV_nil)), f_44_24⟩
theorem q_44_25 : pQ_44 u_44_25 := ⟨_, _, _, _, (pS_nil), (pV_cons (List.mem_of_getElem? (i := 25) rfl) (pV_nil)), f_44_25⟩
theorem q_44_26 : pQ_44 u_44_26 := ⟨_, _, _, _, (pS_cons ok_43 (pS_nil)), (pV_cons (List.mem_of_getElem? (i := 27) rfl) (pV_nil)), f_44_26⟩
theorem q_44_27 : pQ_44 u_44_27 := ⟨_, _, _, _, (pS_nil), (pV_cons (List.mem_of_getElem? (i := 27) rfl) (pV_nil)), f_44_27⟩
theorem qb_44_0 : ∀ u ∈ [u_44_0, u_44_1, u_44_2, u_44_3, u_44_4, u_44_5, u_44_6, u_44_7, u_44_8, u_44_9], pQ_44 u := pU_cons q_44_0 (pU_cons q_44_1 (pU_cons q_44_2 (pU_cons q_44_3 (pU_cons q_44_4 (pU_cons q_44_5 (pU_cons q_44_6 (pU_cons q_44_7 (pU_cons q_44_8 (pU_cons q_44_9 (pU_nil))))))))))
theorem qb_44_1 : ∀ u ∈ [u_44_10, u_44_11, u_44_12, u_44_13, u_44_14, u_44_15, u_44_16, u_44_17, u_44_18, u_44_19], pQ_44 u := pU_cons q_44_10 (pU_cons q_44_11 (pU_cons q_44_12 (pU_cons q_44_13 (pU_cons q_44_14 (pU_cons q_44_15 (pU_cons q_44_16 (pU_cons q_44_17 (pU_cons q_44_18 (pU_cons q_44_19 (pU_nil))))))))))
theorem qb_44_2 : ∀ u ∈ [u_44_20, u_44_21, u_44_22, u_44_23, u_44_24, u_44_25, u_44_26, u_44_27], pQ_44 u := pU_cons q_44_20 (pU_cons q_44_21 (pU_cons q_44_22 (pU_cons q_44_23 (pU_cons q_44_24 (pU_cons q_44_25 (pU_cons q_44_26 (pU_cons q_44_27 (pU_nil))))))))
theorem ok_44 : sInOk pPT i_44 := sInst3 (M := pm_178) (cus := us_44) pOk pg_178 (by decide +kernel) ⟨_, _, _, _, (pS_nil), (pV_cons (List.mem_of_getElem? (i := 0) rfl) (pV_nil)), e_44⟩ (show ∀ u ∈ us_44, pQ_44 u from (pU_app qb_44_0 (pU_app qb_44_1 qb_44_2)))
def pQ_45 (u : sCu) : Prop := ∃ (SM : List sIn) (H : gHt) (cu : List sCu) (n : Nat), (∀ I ∈ SM, sInOk pPT I) ∧ (∀ v ∈ cu, v ∈ us_45) ∧ sWhU pPT SM H i_45 (mR pm_174) cu n u = true
theorem q_45_0 : pQ_45 u_45_0 := ⟨_, _, _, _, (pS_cons ok_1 (pS_cons ok_34 (pS_cons ok_44 (pS_nil)))), (pV_cons (List.mem_of_getElem? (i := 1) rfl) (pV_cons (List.mem_of_getElem? (i := 0) rfl) (pV_nil))), f_45_0⟩
theorem q_45_1 : pQ_45 u_45_1 := ⟨_, _, _, _, (pS_nil), (pV_nil), f_45_1⟩
theorem qb_45_0 : ∀ u ∈ [u_45_0, u_45_1], pQ_45 u := pU_cons q_45_0 (pU_cons q_45_1 (pU_nil))
theorem ok_45 : sInOk pPT i_45 := sInst3 (M := pm_174) (cus := us_45) pOk pg_174 (by decide +kernel) ⟨_, _, _, _, (pS_cons ok_44 (pS_nil)), (pV_cons (List.mem_of_getElem? (i := 0) rfl) (pV_nil)), e_45⟩ (show ∀ u ∈ us_45, pQ_45 u from qb_45_0)
def pQ_46 (u : sCu) : Prop := ∃ (SM : List sIn) (H : gHt) (cu : List sCu) (n : Nat), (∀ I ∈ SM, sInOk pPT I) ∧ (∀ v ∈ cu, v ∈ us_46) ∧ sWhU pPT SM H i_46 (mR pm_175) cu n u = true
theorem q_46_0 : pQ_46 u_46_0 := ⟨_, _, _, _, (pS_cons ok_1 (pS_cons ok_36 (pS_cons ok_45 (pS_nil)))), (pV_cons (List.mem_of_getElem? (i := 1) rfl) (pV_cons (List.mem_of_getElem? (i := 0) rfl) (pV_nil))), f_46_0⟩
theorem q_46_1 : pQ_46 u_46_1 := ⟨_, _, _, _, (pS_nil), (pV_nil), f_46_1⟩
theorem qb_46_0 : ∀ u ∈ [u_46_0, u_46_1], pQ_46 u := pU_cons q_46_0 (pU_cons q_46_1 (pU_nil))
theorem ok_46 : sInOk pPT i_46 := sInst3 (M := pm_175) (cus := us_46) pOk pg_175 (by decide +kernel) ⟨_, _, _, _, (pS_cons ok_45 (pS_nil)), (pV_cons (List.mem_of_getElem? (i := 0) rfl) (pV_nil)), e_46⟩ (show ∀ u ∈ us_46, pQ_46 u from qb_46_0)
def pQ_47 (u : sCu) : Prop := ∃ (SM : List sIn) (H : gHt) (cu : List sCu) (n : Nat), (∀ I ∈ SM, sInOk pPT I) ∧ (∀ v ∈ cu, v ∈ us_47) ∧ sWhU pPT SM H i_47 (mR pm_179) cu n u = true
theorem q_47_0 : pQ_47 u_47_0 := ⟨_, _, _, _, (pS_nil), (pV_nil), f_47_0⟩
theorem qb_47_0 : ∀ u ∈ [u_47_0], pQ_47 u := pU_cons q_47_0 (pU_nil)
theorem ok_47 : sInOk pPT i_47 := sInst3 (M := pm_179) (cus := us_47) pOk pg_179 (by decide +kernel) ⟨_, _, _, _, (pS_cons ok_1 (pS_cons ok_12 (pS_cons ok_13 (pS_cons ok_14 (pS_cons ok_15 (pS_cons ok_16 (pS_cons ok_17 (pS_cons ok_18 (pS_cons ok_19 (pS_cons ok_20 (pS_cons ok_22 (pS_cons ok_39 (pS_cons ok_46 (pS_nil)))))))))))))), (pV_cons (List.mem_of_getElem? (i := 0) rfl) (pV_nil)), e_47⟩ (show ∀ u ∈ us_47, pQ_47 u from qb_47_0)
def pQ_48 (u : sCu) : Prop := ∃ (SM : List sIn) (H : gHt) (cu : List sCu) (n : Nat), (∀ I ∈ SM, sInOk pPT I) ∧ (∀ v ∈ cu, v ∈ us_48) ∧ sWhU pPT SM H i_48 (mR pm_180) cu n u = true
theorem q_48_0 : pQ_48 u_48_0 := ⟨_, _, _, _, (pS_cons ok_24 (pS_cons ok_25 (pS_nil))), (pV_cons (List.mem_of_getElem? (i := 1) rfl) (pV_cons (List.mem_of_getElem? (i := 2) rfl) (pV_cons (List.mem_of_getElem? (i := 3) rfl) (pV_nil)))), f_48_0⟩
theorem q_48_1 : pQ_48 u_48_1 := ⟨_, _, _, _, (pS_cons ok_24 (pS_nil)), (pV_cons (List.mem_of_getElem? (i := 4) rfl) (pV_cons (List.mem_of_getElem? (i := 5) rfl) (pV_nil))), f_48_1⟩
theorem q_48_2 : pQ_48 u_48_2 := ⟨_, _, _, _, (pS_cons ok_24 (pS_nil)), (pV_cons (List.mem_of_getElem? (i := 4) rfl) (pV_cons (List.mem_of_getElem? (i := 5) rfl) (pV_nil))), f_48_2⟩
theorem q_48_3 : pQ_48 u_48_3 := ⟨_, _, _, _, (pS_nil), (pV_nil), f_48_3⟩
theorem q_48_4 : pQ_48 u_48_4 := ⟨_, _, _, _, (pS_cons ok_1 (pS_cons ok_47 (pS_nil))), (pV_cons (List.mem_of_getElem? (i := 6) rfl) (pV_nil)), f_48_4⟩
theorem q_48_5 : pQ_48 u_48_5 := ⟨_, _, _, _, (pS_cons ok_1 (pS_cons ok_47 (pS_nil))), (pV_cons (List.mem_of_getElem? (i := 6) rfl) (pV_nil)), f_48_5⟩
theorem q_48_6 : pQ_48 u_48_6 := ⟨_, _, _, _, (pS_cons ok_24 (pS_cons ok_25 (pS_nil))), (pV_cons (List.mem_of_getElem? (i := 3) rfl) (pV_cons (List.mem_of_getElem? (i := 1) rfl) (pV_cons (List.mem_of_getElem? (i := 2) rfl) (pV_nil)))), f_48_6⟩
theorem q_48_7 : pQ_48 u_48_7 := ⟨_, _, _, _, (pS_cons ok_24 (pS_cons ok_25 (pS_nil))), (pV_cons (List.mem_of_getElem? (i := 3) rfl) (pV_cons (List.mem_of_getElem? (i := 1) rfl) (pV_cons (List.mem_of_getElem? (i := 2) rfl) (pV_nil)))), f_48_7⟩
theorem qb_48_0 : ∀ u ∈ [u_48_0, u_48_1, u_48_2, u_48_3, u_48_4, u_48_5, u_48_6, u_48_7], pQ_48 u := pU_cons q_48_0 (pU_cons q_48_1 (pU_cons q_48_2 (pU_cons q_48_3 (pU_cons q_48_4 (pU_cons q_48_5 (pU_cons q_48_6 (pU_cons q_48_7 (pU_nil))))))))
theorem ok_48 : sInOk pPT i_48 := sInst3 (M := pm_180) (cus := us_48) pOk pg_180 (by decide +kernel) ⟨_, _, _, _, (pS_cons ok_47 (pS_nil)), (pV_cons (List.mem_of_getElem? (i := 0) rfl) (pV_nil)), e_48⟩ (show ∀ u ∈ us_48, pQ_48 u from qb_48_0)
def pQ_49 (u : sCu) : Prop := ∃ (SM : List sIn) (H : gHt) (cu : List sCu) (n : Nat), (∀ I ∈ SM, sInOk pPT I) ∧ (∀ v ∈ cu, v ∈ us_49) ∧ sWhU pPT SM H i_49 (mR pm_184) cu n u = true
theorem q_49_0 : pQ_49 u_49_0 := ⟨_, _, _, _, (pS_cons ok_27 (pS_cons ok_28 (pS_nil))), (pV_cons (List.mem_of_getElem? (i := 1) rfl) (pV_cons (List.mem_of_getElem? (i := 2) rfl) (pV_cons (List.mem_of_getElem? (i := 3) rfl) (pV_nil)))), f_49_0⟩
theorem q_49_1 : pQ_49 u_49_1 := ⟨_, _, _, _, (pS_cons ok_27 (pS_nil)), (pV_cons (List.mem_of_getElem? (i := 4) rfl) (pV_cons (List.mem_of_getElem? (i := 5) rfl) (pV_nil))), f_49_1⟩
theorem q_49_2 : pQ_49 u_49_2 := ⟨_, _, _, _, (pS_cons ok_27 (pS_nil)), (pV_cons (List.mem_of_getElem? (i := 4) rfl) (pV_cons (List.mem_of_getElem? (i := 5) rfl) (pV_nil))), f_49_2⟩
theorem q_49_3 : pQ_49 u_49_3 := ⟨_, _, _, _, (pS_nil), (pV_nil), f_49_3⟩
theorem q_49_4 : pQ_49 u_49_4 := ⟨_, _, _, _, (pS_cons ok_1 (pS_cons ok_48 (pS_nil))), (pV_cons (List.mem_of_getElem? (i := 6) rfl) (pV_nil)), f_49_4⟩
theorem q_49_5 : pQ_49 u_49_5 := ⟨_, _, _, _, (pS_cons ok_1 (pS_cons ok_48 (pS_nil))), (pV_cons (List.mem_of_getElem? (i := 6) rfl) (pV_nil)), f_49_5⟩
theorem q_49_6 : pQ_49 u_49_6 := ⟨_, _, _, _, (pS_cons ok_27 (pS_cons ok_28 (pS_nil))), (pV_cons (List.mem_of_getElem? (i := 3) rfl) (pV_cons (List.mem_of_getElem? (i := 1) rfl) (pV_cons (List.mem_of_getElem? (i := 2) rfl) (pV_nil)))), f_49_6⟩
theorem q_49_7 : pQ_49 u_49_7 := ⟨_, _, _, _, (pS_cons ok_27 (pS_cons ok_28 (pS_nil))), (pV_cons (List.mem_of_getElem? (i := 3) rfl) (pV_cons (List.mem_of_getElem? (i := 1) rfl) (pV_cons (List.mem_of_getElem? (i := 2) rfl) (pV_nil)))), f_49_7⟩
theorem qb_49_0 : ∀ u ∈ [u_49_0, u_49_1, u_49_2, u_49_3, u_49_4, u_49_5, u_49_6, u_49_7], pQ_49 u := pU_cons q_49_0 (pU_cons q_49_1 (pU_cons q_49_2 (pU_cons q_49_3 (pU_cons q_49_4 (pU_cons q_49_5 (pU_cons q_49_6 (pU_cons q_49_7 (pU_nil))))))))
theorem ok_49 : sInOk pPT i_49 := sInst3 (M := pm_184) (cus := us_49) pOk pg_184 (by decide +kernel) ⟨_, _, _, _, (pS_cons ok_48 (pS_nil)), (pV_cons (List.mem_of_getElem? (i := 0) rfl) (pV_nil)), e_49⟩ (show ∀ u ∈ us_49, pQ_49 u from qb_49_0)
def pQ_50 (u : sCu) : Prop := ∃ (SM : List sIn) (H : gHt) (cu : List sCu) (n : Nat), (∀ I ∈ SM, sInOk pPT I) ∧ (∀ v ∈ cu, v ∈ us_50) ∧ sWhU pPT SM H i_50 (mR pm_185) cu n u = true
theorem q_50_0 : pQ_50 u_50_0 := ⟨_, _, _, _, (pS_cons ok_1 (pS_cons ok_49 (pS_nil))), (pV_cons (List.mem_of_getElem? (i := 2) rfl) (pV_nil)), f_50_0⟩
theorem q_50_1 : pQ_50 u_50_1 := ⟨_, _, _, _, (pS_cons ok_1 (pS_cons ok_49 (pS_nil))), (pV_cons (List.mem_of_getElem? (i := 3) rfl) (pV_nil)), f_50_1⟩
theorem q_50_2 : pQ_50 u_50_2 := ⟨_, _, _, _, (pS_nil), (pV_nil), f_50_2⟩
theorem q_50_3 : pQ_50 u_50_3 := ⟨_, _, _, _, (pS_nil), (pV_nil), f_50_3⟩
theorem qb_50_0 : ∀ u ∈ [u_50_0, u_50_1, u_50_2, u_50_3], pQ_50 u := pU_cons q_50_0 (pU_cons q_50_1 (pU_cons q_50_2 (pU_cons q_50_3 (pU_nil))))
theorem ok_50 : sInOk pPT i_50 := sInst3 (M := pm_185) (cus := us_50) pOk pg_185 (by decide +kernel) ⟨_, _, _, _, (pS_cons ok_30 (pS_cons ok_31 (pS_cons ok_49 (pS_nil)))), (pV_cons (List.mem_of_getElem? (i := 0) rfl) (pV_cons (List.mem_of_getElem? (i := 1) rfl) (pV_nil))), e_50⟩ (show ∀ u ∈ us_50, pQ_50 u from qb_50_0)
def pQ_51 (u : sCu) : Prop := ∃ (SM : List sIn) (H : gHt) (cu : List sCu) (n : Nat), (∀ I ∈ SM, sInOk pPT I) ∧ (∀ v ∈ cu, v ∈ us_51) ∧ sWhU pPT SM H i_51 (mR pm_178) cu n u = true
theorem q_51_0 : pQ_51 u_51_0 := ⟨_, _, _, _, (pS_cons ok_1 (pS_cons ok_11 (pS_nil))), (pV_cons (List.mem_of_getElem? (i := 1) rfl) (pV_cons (List.mem_of_getElem? (i := 2) rfl) (pV_nil))), f_51_0⟩
theorem q_51_1 : pQ_51 u_51_1 := ⟨_, _, _, _, (pS_nil), (pV_cons (List.mem_of_getElem? (i := 3) rfl) (pV_nil)), f_51_1⟩
theorem q_51_2 : pQ_51 u_51_2 := ⟨_, _, _, _, (pS_cons ok_1 (pS_cons ok_11 (pS_nil))), (pV_cons (List.mem_of_getElem? (i := 4) rfl) (pV_cons (List.mem_of_getElem? (i := 5) rfl) (pV_nil))), f_51_2⟩
theorem q_51_3 : pQ_51 u_51_3 := ⟨_, _, _, _, (pS_cons ok_50 (pS_nil)), (pV_cons (List.mem_of_getElem? (i := 6) rfl) (pV_nil)), f_51_3⟩
theorem q_51_4 : pQ_51 u_51_4 := ⟨_, _, _, _, (pS_nil), (pV_cons (List.mem_of_getElem? (i := 7) rfl) (pV_nil)), f_51_4⟩
theorem q_51_5 : pQ_51 u_51_5 := ⟨_, _, _, _, (pS_cons ok_1 (pS_cons ok_11 (pS_nil))), (pV_cons (List.mem_of_getElem? (i := 8) rfl) (pV_cons (List.mem_of_getElem? (i := 9) rfl) (pV_nil))), f_51_5⟩
theorem q_51_6 : pQ_51 u_51_6 := ⟨_, _, _, _, (pS_nil), (pV_nil), f_51_6⟩
theorem q_51_7 : pQ_51 u_51_7 := ⟨_, _, _, _, (pS_cons ok_50 (pS_nil)), (pV_cons (List.mem_of_getElem? (i := 10) rfl) (pV_nil)), f_51_7⟩
theorem q_51_8 : pQ_51 u_51_8 := ⟨_, _, _, _, (pS_nil), (pV_cons (List.mem_of_getElem? (i := 11) rfl) (pV_nil)), f_51_8⟩
theorem q_51_9 : pQ_51 u_51_9 := ⟨_, _, _, _, (pS_cons ok_1 (pS_cons ok_11 (pS_nil))), (pV_cons (List.mem_of_getElem? (i := 12) rfl) (pV_cons (List.mem_of_getElem? (i := 13) rfl) (pV_nil))), f_51_9⟩
theorem q_51_10 : pQ_51 u_51_10 := ⟨_, _, _, _, (pS_nil), (pV_cons (List.mem_of_getElem? (i := 10) rfl) (pV_nil)), f_51_10⟩
theorem q_51_11 : pQ_51 u_51_11 := ⟨_, _, _, _, (pS_cons ok_50 (pS_nil)), (pV_cons (List.mem_of_getElem? (i := 14) rfl) (pV_nil)), f_51_11⟩
theorem q_51_12 : pQ_51 u_51_12 := ⟨_, _, _, _, (pS_nil), (pV_cons (List.mem_of_getElem? (i := 15) rfl) (pV_nil)), f_51_12⟩
theorem q_51_13 : pQ_51 u_51_13 := ⟨_, _, _, _, (pS_cons ok_1 (pS_cons ok_11 (pS_nil))), (pV_cons (List.mem_of_getElem? (i := 16) rfl) (pV_cons (List.mem_of_getElem? (i := 17) rfl) (pV_nil))), f_51_13⟩
theorem q_51_14 : pQ_51 u_51_14 := ⟨_, _, _, _, (pS_nil), (pV_cons (List.mem_of_getElem? (i := 14) rfl) (pV_nil)), f_51_14⟩
theorem q_51_15 : pQ_51 u_51_15 := ⟨_, _, _, _, (pS_cons ok_50 (pS_nil)), (pV_cons (List.mem_of_getElem? (i := 18) rfl) (pV_nil)), f_51_15⟩
theorem q_51_16 : pQ_51 u_51_16 := ⟨_, _, _, _, (pS_nil), (pV_cons (List.mem_of_getElem? (i := 19) rfl) (pV_nil)), f_51_16⟩
theorem q_51_17 : pQ_51 u_51_17 := ⟨_, _, _, _, (pS_cons ok_1 (pS_cons ok_11 (pS_nil))), (pV_cons (List.mem_of_getElem? (i := 20) rfl) (pV_cons (List.mem_of_getElem? (i := 21) rfl) (pV_nil))), f_51_17⟩
theorem q_51_18 : pQ_51 u_51_18 := ⟨_, _, _, _, (pS_nil), (pV_cons (List.mem_of_getElem? (i := 18) rfl) (pV_nil)), f_51_18⟩
theorem q_51_19 : pQ_51 u_51_19 := ⟨_, _, _, _, (pS_cons ok_50 (pS_nil)), (pV_cons (List.mem_of_getElem? (i := 22) rfl) (pV_nil)), f_51_19⟩
theorem q_51_20 : pQ_51 u_51_20 := ⟨_, _, _, _, (pS_nil), (pV_cons (List.mem_of_getElem? (i := 23) rfl) (pV_nil)), f_51_20⟩
theorem q_51_21 : pQ_51 u_51_21 := ⟨_, _, _, _, (pS_nil), (pV_cons (List.mem_of_getElem? (i := 24) rfl) (pV_nil)), f_51_21⟩
theorem q_51_22 : pQ_51 u_51_22 := ⟨_, _, _, _, (pS_nil), (pV_cons (List.mem_of_getElem? (i := 22) rfl) (pV_nil)), f_51_22⟩
theorem q_51_23 : pQ_51 u_51_23 := ⟨_, _, _, _, (pS_cons ok_50 (pS_nil)), (pV_cons (List.mem_of_getElem? (i := 25) rfl) (pV_nil)), f_51_23⟩
theorem q_51_24 : pQ_51 u_51_24 := ⟨_, _, _, _, (pS_cons ok_11 (pS_nil)), (pV_cons (List.mem_of_getElem? (i := 26) rfl) (pV_nil)), f_51_24⟩
theorem q_51_25 : pQ_51 u_51_25 := ⟨_, _, _, _, (pS_nil), (pV_cons (List.mem_of_getElem? (i := 25) rfl) (pV_nil)), f_51_25⟩
theorem q_51_26 : pQ_51 u_51_26 := ⟨_, _, _, _, (pS_cons ok_50 (pS_nil)), (pV_cons (List.mem_of_getElem? (i := 27) rfl) (pV_nil)), f_51_26⟩
theorem q_51_27 : pQ_51 u_51_27 := ⟨_, _, _, _, (pS_nil), (pV_cons (List.mem_of_getElem? (i := 27) rfl) (pV_nil)), f_51_27⟩
theorem qb_51_0 : ∀ u ∈ [u_51_0, u_51_1, u_51_2, u_51_3, u_51_4, u_51_5, u_51_6, u_51_7, u_51_8, u_51_9], pQ_51 u := pU_cons q_51_0 (pU_cons q_51_1 (pU_cons q_51_2 (pU_cons q_51_3 (pU_cons q_51_4 (pU_cons q_51_5 (pU_cons q_51_6 (pU_cons q_51_7 (pU_cons q_51_8 (pU_cons q_51_9 (pU_nil))))))))))
theorem qb_51_1 : ∀ u ∈ [u_51_10, u_51_11, u_51_12, u_51_13, u_51_14, u_51_15, u_51_16, u_51_17, u_51_18, u_51_19], pQ_51 u := pU_cons q_51_10 (pU_cons q_51_11 (pU_cons q_51_12 (pU_cons q_51_13 (pU_cons q_51_14 (pU_cons q_51_15 (pU_cons q_51_16 (pU_cons q_51_17 (pU_cons q_51_18 (pU_cons q_51_19 (pU_nil))))))))))
theorem qb_51_2 : ∀ u ∈ [u_51_20, u_51_21, u_51_22, u_51_23, u_51_24, u_51_25, u_51_26, u_51_27], pQ_51 u := pU_cons q_51_20 (pU_cons q_51_21 (pU_cons q_51_22 (pU_cons q_51_23 (pU_cons q_51_24 (pU_cons q_51_25 (pU_cons q_51_26 (pU_cons q_51_27 (pU_nil))))))))
theorem ok_51 : sInOk pPT i_51 := sInst3 (M := pm_178) (cus := us_51) pOk pg_178 (by decide +kernel) ⟨_, _, _, _, (pS_nil), (pV_cons (List.mem_of_getElem? (i := 0) rfl) (pV_nil)), e_51⟩ (show ∀ u ∈ us_51, pQ_51 u from (pU_app qb_51_0 (pU_app qb_51_1 qb_51_2)))
def pQ_52 (u : sCu) : Prop := ∃ (SM : List sIn) (H : gHt) (cu : List sCu) (n : Nat), (∀ I ∈ SM, sInOk pPT I) ∧ (∀ v ∈ cu, v ∈ us_52) ∧ sWhU pPT SM H i_52 (mR pm_174) cu n u = true
theorem q_52_0 : pQ_52 u_52_0 := ⟨_, _, _, _, (pS_cons ok_1 (pS_cons ok_34 (pS_cons ok_51 (pS_nil)))), (pV_cons (List.mem_of_getElem? (i := 1) rfl) (pV_cons (List.mem_of_getElem? (i := 0) rfl) (pV_nil))), f_52_0⟩
theorem q_52_1 : pQ_52 u_52_1 := ⟨_, _, _, _, (pS_nil), (pV_nil), f_52_1⟩
theorem qb_52_0 : ∀ u ∈ [u_52_0, u_52_1], pQ_52 u := pU_cons q_52_0 (pU_cons q_52_1 (pU_nil))
theorem ok_52 : sInOk pPT i_52 := sInst3 (M := pm_174) (cus := us_52) pOk pg_174 (by decide +kernel) ⟨_, _, _, _, (pS_cons ok_51 (pS_nil)), (pV_cons (List.mem_of_getElem? (i := 0) rfl) (pV_nil)), e_52⟩ (show ∀ u ∈ us_52, pQ_52 u from qb_52_0)
def pQ_53 (u : sCu) : Prop := ∃ (SM : List sIn) (H : gHt) (cu : List sCu) (n : Nat), (∀ I ∈ SM, sInOk pPT I) ∧ (∀ v ∈ cu, v ∈ us_53) ∧ sWhU pPT SM H i_53 (mR pm_175) cu n u = true
theorem q_53_0 : pQ_53 u_53_0 := ⟨_, _, _, _, (pS_cons ok_1 (pS_cons ok_36 (pS_cons ok_52 (pS_nil)))), (pV_cons (List.mem_of_getElem? (i := 1) rfl) (pV_cons (List.mem_of_getElem? (i := 0) rfl) (pV_nil))), f_53_0⟩
theorem q_53_1 : pQ_53 u_53_1 := ⟨_, _, _, _, (pS_nil), (pV_nil), f_53_1⟩
theorem qb_53_0 : ∀ u ∈ [u_53_0, u_53_1], pQ_53 u := pU_cons q_53_0 (pU_cons q_53_1 (pU_nil))
theorem ok_53 : sInOk pPT i_53 := sInst3 (M := pm_175) (cus := us_53) pOk pg_175 (by decide +kernel) ⟨_, _, _, _, (pS_cons ok_52 (pS_nil)), (pV_cons (List.mem_of_getElem? (i := 0) rfl) (pV_nil)), e_53⟩ (show ∀ u ∈ us_53, pQ_53 u from qb_53_0)
def pQ_54 (u : sCu) : Prop := ∃ (SM : List sIn) (H : gHt) (cu : List sCu) (n : Nat), (∀ I ∈ SM, sInOk pPT I) ∧ (∀ v ∈ cu, v ∈ us_54) ∧ sWhU pPT SM H i_54 (mR pm_179) cu n u = true
theorem q_54_0 : pQ_54 u_54_0 := ⟨_, _, _, _, (pS_nil), (pV_nil), f_54_0⟩
theorem qb_54_0 : ∀ u ∈ [u_54_0], pQ_54 u := pU_cons q_54_0 (pU_nil)
theorem ok_54 : sInOk pPT i_54 := sInst3 (M := pm_179) (cus := us_54) pOk pg_179 (by decide +kernel) ⟨_, _, _, _, (pS_cons ok_1 (pS_cons ok_12 (pS_cons ok_13 (pS_cons ok_14 (pS_cons ok_15 (pS_cons ok_16 (pS_cons ok_17 (pS_cons ok_18 (pS_cons ok_19 (pS_cons ok_20 (pS_cons ok_22 (pS_cons ok_39 (pS_cons ok_53 (pS_nil)))))))))))))), (pV_cons (List.mem_of_getElem? (i := 0) rfl) (pV_nil)), e_54⟩ (show ∀ u ∈ us_54, pQ_54 u from qb_54_0)
def pQ_55 (u : sCu) : Prop := ∃ (SM : List sIn) (H : gHt) (cu : List sCu) (n : Nat), (∀ I ∈ SM, sInOk pPT I) ∧ (∀ v ∈ cu, v ∈ us_55) ∧ sWhU pPT SM H i_55 (mR pm_180) cu n u = true
theorem q_55_0 : pQ_55 u_55_0 := ⟨_, _, _, _, (pS_cons ok_24 (pS_cons ok_25 (pS_nil))), (pV_cons (List.mem_of_getElem? (i := 1) rfl) (pV_cons (List.mem_of_getElem? (i := 2) rfl) (pV_cons (List.mem_of_getElem? (i := 3) rfl) (pV_nil)))), f_55_0⟩
theorem q_55_1 : pQ_55 u_55_1 := ⟨_, _, _, _, (pS_cons ok_24 (pS_nil)), (pV_cons (List.mem_of_getElem? (i := 4) rfl) (pV_cons (List.mem_of_getElem? (i := 5) rfl) (pV_nil))), f_55_1⟩
theorem q_55_2 : pQ_55 u_55_2 := ⟨_, _, _, _, (pS_cons ok_24 (pS_nil)), (pV_cons (List.mem_of_getElem? (i := 4) rfl) (pV_cons (List.mem_of_getElem? (i := 5) rfl) (pV_nil))), f_55_2⟩
theorem q_55_3 : pQ_55 u_55_3 := ⟨_, _, _, _, (pS_nil), (pV_nil), f_55_3⟩
theorem q_55_4 : pQ_55 u_55_4 := ⟨_, _, _, _, (pS_cons ok_1 (pS_cons ok_54 (pS_nil))), (pV_cons (List.mem_of_getElem? (i := 6) rfl) (pV_nil)), f_55_4⟩
theorem q_55_5 : pQ_55 u_55_5 := ⟨_, _, _, _, (pS_cons ok_1 (pS_cons ok_54 (pS_nil))), (pV_cons (List.mem_of_getElem? (i := 6) rfl) (pV_nil)), f_55_5⟩
theorem q_55_6 : pQ_55 u_55_6 := ⟨_, _, _, _, (pS_cons ok_24 (pS_cons ok_25 (pS_nil))), (pV_cons (List.mem_of_getElem? (i := 3) rfl) (pV_cons (List.mem_of_getElem? (i := 1) rfl) (pV_cons (List.mem_of_getElem? (i := 2) rfl) (pV_nil)))), f_55_6⟩
theorem q_55_7 : pQ_55 u_55_7 := ⟨_, _, _, _, (pS_cons ok_24 (pS_cons ok_25 (pS_nil))), (pV_cons (List.mem_of_getElem? (i := 3) rfl) (pV_cons (List.mem_of_getElem? (i := 1) rfl) (pV_cons (List.mem_of_getElem? (i := 2) rfl) (pV_nil)))), f_55_7⟩
theorem qb_55_0 : ∀ u ∈ [u_55_0, u_55_1, u_55_2, u_55_3, u_55_4, u_55_5, u_55_6, u_55_7], pQ_55 u := pU_cons q_55_0 (pU_cons q_55_1 (pU_cons q_55_2 (pU_cons q_55_3 (pU_cons q_55_4 (pU_cons q_55_5 (pU_cons q_55_6 (pU_cons q_55_7 (pU_nil))))))))
theorem ok_55 : sInOk pPT i_55 := sInst3 (M := pm_180) (cus := us_55) pOk pg_180 (by decide +kernel) ⟨_, _, _, _, (pS_cons ok_54 (pS_nil)), (pV_cons (List.mem_of_getElem? (i := 0) rfl) (pV_nil)), e_55⟩ (show ∀ u ∈ us_55, pQ_55 u from qb_55_0)
def pQ_56 (u : sCu) : Prop := ∃ (SM : List sIn) (H : gHt) (cu : List sCu) (n : Nat), (∀ I ∈ SM, sInOk pPT I) ∧ (∀ v ∈ cu, v ∈ us_56) ∧ sWhU pPT SM H i_56 (mR pm_184) cu n u = true
theorem q_56_0 : pQ_56 u_56_0 := ⟨_, _, _, _, (pS_cons ok_27 (pS_cons ok_28 (pS_nil))), (pV_cons (List.mem_of_getElem? (i := 1) rfl) (pV_cons (List.mem_of_getElem? (i := 2) rfl) (pV_cons (List.mem_of_getElem? (i := 3) rfl) (pV_nil)))), f_56_0⟩
theorem q_56_1 : pQ_56 u_56_1 := ⟨_, _, _, _, (pS_cons ok_27 (pS_nil)), (pV_cons (List.mem_of_getElem? (i := 4) rfl) (pV_cons (List.mem_of_getElem? (i := 5) rfl) (pV_nil))), f_56_1⟩
theorem q_56_2 : pQ_56 u_56_2 := ⟨_, _, _, _, (pS_cons ok_27 (pS_nil)), (pV_cons (List.mem_of_getElem? (i := 4) rfl) (pV_cons (List.mem_of_getElem? (i := 5) rfl) (pV_nil))), f_56_2⟩
theorem q_56_3 : pQ_56 u_56_3 := ⟨_, _, _, _, (pS_nil), (pV_nil), f_56_3⟩
theorem q_56_4 : pQ_56 u_56_4 := ⟨_, _, _, _, (pS_cons ok_1 (pS_cons ok_55 (pS_nil))), (pV_cons (List.mem_of_getElem? (i := 6) rfl) (pV_nil)), f_56_4⟩
theorem q_56_5 : pQ_56 u_56_5 := ⟨_, _, _, _, (pS_cons ok_1 (pS_cons ok_55 (pS_nil))), (pV_cons (List.mem_of_getElem? (i := 6) rfl) (pV_nil)), f_56_5⟩
theorem q_56_6 : pQ_56 u_56_6 := ⟨_, _, _, _, (pS_cons ok_27 (pS_cons ok_28 (pS_nil))), (pV_cons (List.mem_of_getElem? (i := 3) rfl) (pV_cons (List.mem_of_getElem? (i := 1) rfl) (pV_cons (List.mem_of_getElem? (i := 2) rfl) (pV_nil)))), f_56_6⟩
theorem q_56_7 : pQ_56 u_56_7 := ⟨_, _, _, _, (pS_cons ok_27 (pS_cons ok_28 (pS_nil))), (pV_cons (List.mem_of_getElem? (i := 3) rfl) (pV_cons (List.mem_of_getElem? (i := 1) rfl) (pV_cons (List.mem_of_getElem? (i := 2) rfl) (pV_nil)))), f_56_7⟩
theorem qb_56_0 : ∀ u ∈ [u_56_0, u_56_1, u_56_2, u_56_3, u_56_4, u_56_5, u_56_6, u_56_7], pQ_56 u := pU_cons q_56_0 (pU_cons q_56_1 (pU_cons q_56_2 (pU_cons q_56_3 (pU_cons q_56_4 (pU_cons q_56_5 (pU_cons q_56_6 (pU_cons q_56_7 (pU_nil))))))))
theorem ok_56 : sInOk pPT i_56 := sInst3 (M := pm_184) (cus := us_56) pOk pg_184 (by decide +kernel) ⟨_, _, _, _, (pS_cons ok_55 (pS_nil)), (pV_cons (List.mem_of_getElem? (i := 0) rfl) (pV_nil)), e_56⟩ (show ∀ u ∈ us_56, pQ_56 u from qb_56_0)
def pQ_57 (u : sCu) : Prop := ∃ (SM : List sIn) (H : gHt) (cu : List sCu) (n : Nat), (∀ I ∈ SM, sInOk pPT I) ∧ (∀ v ∈ cu, v ∈ us_57) ∧ sWhU pPT SM H i_57 (mR pm_185) cu n u = true
theorem q_57_0 : pQ_57 u_57_0 := ⟨_, _, _, _, (pS_cons ok_1 (pS_cons ok_56 (pS_nil))), (pV_cons (List.mem_of_getElem? (i := 2) rfl) (pV_nil)), f_57_0⟩
theorem q_57_1 : pQ_57 u_57_1 := ⟨_, _, _, _, (pS_cons ok_1 (pS_cons ok_56 (pS_nil))), (pV_cons (List.mem_of_getElem? (i := 3) rfl) (pV_nil)), f_57_1⟩
theorem q_57_2 : pQ_57 u_57_2 := ⟨_, _, _, _, (pS_nil), (pV_nil), f_57_2⟩
theorem q_57_3 : pQ_57 u_57_3 := ⟨_, _, _, _, (pS_nil), (pV_nil), f_57_3⟩
theorem qb_57_0 : ∀ u ∈ [u_57_0, u_57_1, u_57_2, u_57_3], pQ_57 u := pU_cons q_57_0 (pU_cons q_57_1 (pU_cons q_57_2 (pU_cons q_57_3 (pU_nil))))
theorem ok_57 : sInOk pPT i_57 := sInst3 (M := pm_185) (cus := us_57) pOk pg_185 (by decide +kernel) ⟨_, _, _, _, (pS_cons ok_30 (pS_cons ok_31 (pS_cons ok_56 (pS_nil)))), (pV_cons (List.mem_of_getElem? (i := 0) rfl) (pV_cons (List.mem_of_getElem? (i := 1) rfl) (pV_nil))), e_57⟩ (show ∀ u ∈ us_57, pQ_57 u from qb_57_0)
def pQ_58 (u : sCu) : Prop := ∃ (SM : List sIn) (H : gHt) (cu : List sCu) (n : Nat), (∀ I ∈ SM, sInOk pPT I) ∧ (∀ v ∈ cu, v ∈ us_58) ∧ sWhU pPT SM H i_58 (mR pm_178) cu n u = true
theorem q_58_0 : pQ_58 u_58_0 := ⟨_, _, _, _, (pS_cons ok_1 (pS_cons ok_11 (pS_nil))), (pV_cons (List.mem_of_getElem? (i := 1) rfl) (pV_cons (List.mem_of_getElem? (i := 2) rfl) (pV_nil))), f_58_0⟩
theorem q_58_1 : pQ_58 u_58_1 := ⟨_, _, _, _, (pS_nil), (pV_cons (List.mem_of_getElem? (i := 3) rfl) (pV_nil)), f_58_1⟩
theorem q_58_2 : pQ_58 u_58_2 := ⟨_, _, _, _, (pS_cons ok_1 (pS_cons ok_11 (pS_nil))), (pV_cons (List.mem_of_getElem? (i := 4) rfl) (pV_cons (List.mem_of_getElem? (i := 5) rfl) (pV_nil))), f_58_2⟩
theorem q_58_3 : pQ_58 u_58_3 := ⟨_, _, _, _, (pS_cons ok_57 (pS_nil)), (pV_cons (List.mem_of_getElem? (i := 6) rfl) (pV_nil)), f_58_3⟩
theorem q_58_4 : pQ_58 u_58_4 := ⟨_, _, _, _, (pS_nil), (pV_cons (List.mem_of_getElem? (i := 7) rfl) (pV_nil)), f_58_4⟩
theorem q_58_5 : pQ_58 u_58_5 := ⟨_, _, _, _, (pS_cons ok_1 (pS_cons ok_11 (pS_nil))), (pV_cons (List.mem_of_getElem? (i := 8) rfl) (pV_cons (List.mem_of_getElem? (i := 9) rfl) (pV_nil))), f_58_5⟩
theorem q_58_6 : pQ_58 u_58_6 := ⟨_, _, _, _, (pS_nil), (pV_nil), f_58_6⟩
theorem q_58_7 : pQ_58 u_58_7 := ⟨_, _, _, _, (pS_cons ok_57 (pS_nil)), (pV_cons (List.mem_of_getElem? (i := 10) rfl) (pV_nil)), f_58_7⟩
theorem q_58_8 : pQ_58 u_58_8 := ⟨_, _, _, _, (pS_nil), (pV_cons (List.mem_of_getElem? (i := 11) rfl) (pV_nil)), f_58_8⟩
theorem q_58_9 : pQ_58 u_58_9 := ⟨_, _, _, _, (pS_cons ok_1 (pS_cons ok_11 (pS_nil))), (pV_cons (List.mem_of_getElem? (i := 12) rfl) (pV_cons (List.mem_of_getElem? (i := 13) rfl) (pV_nil))), f_58_9⟩
theorem q_58_10 : pQ_58 u_58_10 := ⟨_, _, _, _, (pS_nil), (pV_cons (List.mem_of_getElem? (i := 10) rfl) (pV_nil)), f_58_10⟩
theorem q_58_11 : pQ_58 u_58_11 := ⟨_, _, _, _, (pS_cons ok_57 (pS_nil)), (pV_cons (List.mem_of_getElem? (i := 14) rfl) (pV_nil)), f_58_11⟩
theorem q_58_12 : pQ_58 u_58_12 := ⟨_, _, _, _, (pS_nil), (pV_cons (List.mem_of_getElem? (i := 15) rfl) (pV_nil)), f_58_12⟩
theorem q_58_13 : pQ_58 u_58_13 := ⟨_, _, _, _, (pS_cons ok_1 (pS_cons ok_11 (pS_nil))), (pV_cons (List.mem_of_getElem? (i := 16) rfl) (pV_cons (List.mem_of_getElem? (i := 17) rfl) (pV_nil))), f_58_13⟩
theorem q_58_14 : pQ_58 u_58_14 := ⟨_, _, _, _, (pS_nil), (pV_cons (List.mem_of_getElem? (i := 14) rfl) (pV_nil)), f_58_14⟩
theorem q_58_15 : pQ_58 u_58_15 := ⟨_, _, _, _, (pS_cons ok_57 (pS_nil)), (pV_cons (List.mem_of_getElem? (i := 18) rfl) (pV_nil)), f_58_15⟩
theorem q_58_16 : pQ_58 u_58_16 := ⟨_, _, _, _, (pS_nil), (pV_cons (List.mem_of_getElem? (i := 19) rfl) (pV_nil)), f_58_16⟩
theorem q_58_17 : pQ_58 u_58_17 := ⟨_, _, _, _, (pS_cons ok_1 (pS_cons ok_11 (pS_nil))), (pV_cons (List.mem_of_getElem? (i := 20) rfl) (pV_cons (List.mem_of_getElem? (i := 21) rfl) (pV_nil))), f_58_17⟩
theorem q_58_18 : pQ_58 u_58_18 := ⟨_, _, _, _, (pS_nil), (pV_cons (List.mem_of_getElem? (i := 18) rfl) (pV_nil)), f_58_18⟩
theorem q_58_19 : pQ_58 u_58_19 := ⟨_, _, _, _, (pS_cons ok_57 (pS_nil)), (pV_cons (List.mem_of_getElem? (i := 22) rfl) (pV_nil)), f_58_19⟩
theorem q_58_20 : pQ_58 u_58_20 := ⟨_, _, _, _, (pS_nil), (pV_cons (List.mem_of_getElem? (i := 23) rfl) (pV_nil)), f_58_20⟩
theorem q_58_21 : pQ_58 u_58_21 := ⟨_, _, _, _, (pS_nil), (pV_cons (List.mem_of_getElem? (i := 24) rfl) (pV_nil)), f_58_21⟩
theorem q_58_22 : pQ_58 u_58_22 := ⟨_, _, _, _, (pS_nil), (pV_cons (List.mem_of_getElem? (i := 22) rfl) (pV_nil)), f_58_22⟩
theorem q_58_23 : pQ_58 u_58_23 := ⟨_, _, _, _, (pS_cons ok_57 (pS_nil)), (pV_cons (List.mem_of_getElem? (i := 25) rfl) (pV_nil)), f_58_23⟩
theorem q_58_24 : pQ_58 u_58_24 := ⟨_, _, _, _, (pS_cons ok_11 (pS_nil)), (pV_cons (List.mem_of_getElem? (i := 26) rfl) (pV_nil)), f_58_24⟩
theorem q_58_25 : pQ_58 u_58_25 := ⟨_, _, _, _, (pS_nil), (pV_cons (List.mem_of_getElem? (i := 25) rfl) (pV_nil)), f_58_25⟩
theorem q_58_26 : pQ_58 u_58_26 := ⟨_, _, _, _, (pS_cons ok_57 (pS_nil)), (pV_cons (List.mem_of_getElem? (i := 27) rfl) (pV_nil)), f_58_26⟩
theorem q_58_27 : pQ_58 u_58_27 := ⟨_, _, _, _, (pS_nil), (pV_cons (List.mem_of_getElem? (i := 27) rfl) (pV_nil)), f_58_27⟩
theorem qb_58_0 : ∀ u ∈ [u_58_0, u_58_1, u_58_2, u_58_3, u_58_4, u_58_5, u_58_6, u_58_7, u_58_8, u_58_9], pQ_58 u := pU_cons q_58_0 (pU_cons q_58_1 (pU_cons q_58_2 (pU_cons q_58_3 (pU_cons q_58_4 (pU_cons q_58_5 (pU_cons q_58_6 (pU_cons q_58_7 (pU_cons q_58_8 (pU_cons q_58_9 (pU_nil))))))))))
theorem qb_58_1 : ∀ u ∈ [u_58_10, u_58_11, u_58_12, u_58_13, u_58_14, u_58_15, u_58_16, u_58_17, u_58_18, u_58_19], pQ_58 u := pU_cons q_58_10 (pU_cons q_58_11 (pU_cons q_58_12 (pU_cons q_58_13 (pU_cons q_58_14 (pU_cons q_58_15 (pU_cons q_58_16 (pU_cons q_58_17 (pU_cons q_58_18 (pU_cons q_58_19 (pU_nil))))))))))
theorem qb_58_2 : ∀ u ∈ [u_58_20, u_58_21, u_58_22, u_58_23, u_58_24, u_58_25, u_58_26, u_58_27], pQ_58 u := pU_cons q_58_20 (pU_cons q_58_21 (pU_cons q_58_22 (pU_cons q_58_23 (pU_cons q_58_24 (pU_cons q_58_25 (pU_cons q_58_26 (pU_cons q_58_27 (pU_nil))))))))
theorem ok_58 : sInOk pPT i_58 := sInst3 (M := pm_178) (cus := us_58) pOk pg_178 (by decide +kernel) ⟨_, _, _, _, (pS_nil), (pV_cons (List.mem_of_getElem? (i := 0) rfl) (pV_nil)), e_58⟩ (show ∀ u ∈ us_58, pQ_58 u from (pU_app qb_58_0 (pU_app qb_58_1 qb_58_2)))
def pQ_59 (u : sCu) : Prop := ∃ (SM : List sIn) (H : gHt) (cu : List sCu) (n : Nat), (∀ I ∈ SM, sInOk pPT I) ∧ (∀ v ∈ cu, v ∈ us_59) ∧ sWhU pPT SM H i_59 (mR pm_174) cu n u = true
theorem q_59_0 : pQ_59 u_59_0 := ⟨_, _, _, _, (pS_cons ok_1 (pS_cons ok_34 (pS_cons ok_58 (pS_nil)))), (pV_cons (List.mem_of_getElem? (i := 1) rfl) (pV_cons (List.mem_of_getElem? (i := 0) rfl) (pV_nil))), f_59_0⟩
theorem q_59_1 : pQ_59 u_59_1 := ⟨_, _, _, _, (pS_nil), (pV_nil), f_59_1⟩
theorem qb_59_0 : ∀ u ∈ [u_59_0, u_59_1], pQ_59 u := pU_cons q_59_0 (pU_cons q_59_1 (pU_nil))
theorem ok_59 : sInOk pPT i_59 := sInst3 (M := pm_174) (cus := us_59) pOk pg_174 (by decide +kernel) ⟨_, _, _, _, (pS_cons ok_58 (pS_nil)), (pV_cons (List.mem_of_getElem? (i := 0) rfl) (pV_nil)), e_59⟩ (show ∀ u ∈ us_59, pQ_59 u from qb_59_0)
def pQ_60 (u : sCu) : Prop := ∃ (SM : List sIn) (H : gHt) (cu : List sCu) (n : Nat), (∀ I ∈ SM, sInOk pPT I) ∧ (∀ v ∈ cu, v ∈ us_60) ∧ sWhU pPT SM H i_60 (mR pm_175) cu n u = true
theorem q_60_0 : pQ_60 u_60_0 := ⟨_, _, _, _, (pS_cons ok_1 (pS_cons ok_36 (pS_cons ok_59 (pS_nil)))), (pV_cons (List.mem_of_getElem? (i := 1) rfl) (pV_cons (List.mem_of_getElem? (i := 0) rfl) (pV_nil))), f_60_0⟩
theorem q_60_1 : pQ_60 u_60_1 := ⟨_, _, _, _, (pS_nil), (pV_nil), f_60_1⟩
theorem qb_60_0 : ∀ u ∈ [u_60_0, u_60_1], pQ_60 u := pU_cons q_60_0 (pU_cons q_60_1 (pU_nil))
theorem ok_60 : sInOk pPT i_60 := sInst3 (M := pm_175) (cus := us_60) pOk pg_175 (by decide +kernel) ⟨_, _, _, _, (pS_cons ok_59 (pS_nil)), (pV_cons (List.mem_of_getElem? (i := 0) rfl) (pV_nil)), e_60⟩ (show ∀ u ∈ us_60, pQ_60 u from qb_60_0)
def pQ_61 (u : sCu) : Prop := ∃ (SM : List sIn) (H : gHt) (cu : List sCu) (n : Nat), (∀ I ∈ SM, sInOk pPT I) ∧ (∀ v ∈ cu, v ∈ us_61) ∧ sWhU pPT SM H i_61 (mR pm_179) cu n u = true
theorem q_61_0 : pQ_61 u_61_0 := ⟨_, _, _, _, (pS_nil), (pV_nil), f_61_0⟩
theorem qb_61_0 : ∀ u ∈ [u_61_0], pQ_61 u := pU_cons q_61_0 (pU_nil)
theorem ok_61 : sInOk pPT i_61 := sInst3 (M := pm_179) (cus := us_61) pOk pg_179 (by decide +kernel) ⟨_, _, _, _, (pS_cons ok_1 (pS_cons ok_12 (pS_cons ok_13 (pS_cons ok_14 (pS_cons ok_15 (pS_cons ok_16 (pS_cons ok_17 (pS_cons ok_18 (pS_cons ok_19 (pS_cons ok_20 (pS_cons ok_22 (pS_cons ok_39 (pS_cons ok_60 (pS_nil)))))))))))))), (pV_cons (List.mem_of_getElem? (i := 0) rfl) (pV_nil)), e_61⟩ (show ∀ u ∈ us_61, pQ_61 u from qb_61_0)
def pQ_62 (u : sCu) : Prop := ∃ (SM : List sIn) (H : gHt) (cu : List sCu) (n : Nat), (∀ I ∈ SM, sInOk pPT I) ∧ (∀ v ∈ cu, v ∈ us_62) ∧ sWhU pPT SM H i_62 (mR pm_180) cu n u = true
theorem q_62_0 : pQ_62 u_62_0 := ⟨_, _, _, _, (pS_cons ok_24 (pS_cons ok_25 (pS_nil))), (pV_cons (List.mem_of_getElem? (i := 1) rfl) (pV_cons (List.mem_of_getElem? (i := 2) rfl) (pV_cons (List.mem_of_getElem? (i := 3) rfl) (pV_nil)))), f_62_0⟩
theorem q_62_1 : pQ_62 u_62_1 := ⟨_, _, _, _, (pS_cons ok_24 (pS_nil)), (pV_cons (List.mem_of_getElem? (i := 4) rfl) (pV_cons (List.mem_of_getElem? (i := 5) rfl) (pV_nil))), f_62_1⟩
theorem q_62_2 : pQ_62 u_62_2 := ⟨_, _, _, _, (pS_cons ok_24 (pS_nil)), (pV_cons (List.mem_of_getElem? (i := 4) rfl) (pV_cons (List.mem_of_getElem? (i := 5) rfl) (pV_nil))), f_62_2⟩
theorem q_62_3 : pQ_62 u_62_3 := ⟨_, _, _, _, (pS_nil), (pV_nil), f_62_3⟩
theorem q_62_4 : pQ_62 u_62_4 := ⟨_, _, _, _, (pS_cons ok_1 (pS_cons ok_61 (pS_nil))), (pV_cons (List.mem_of_getElem? (i := 6) rfl) (pV_nil)), f_62_4⟩
theorem q_62_5 : pQ_62 u_62_5 := ⟨_, _, _, _, (pS_cons ok_1 (pS_cons ok_61 (pS_nil))), (pV_cons (List.mem_of_getElem? (i := 6) rfl) (pV_nil)), f_62_5⟩
theorem q_62_6 : pQ_62 u_62_6 := ⟨_, _, _, _, (pS_cons ok_24 (pS_cons ok_25 (pS_nil))), (pV_cons (List.mem_of_getElem? (i := 3) rfl) (pV_cons (List.mem_of_getElem? (i := 1) rfl) (pV_cons (List.mem_of_getElem? (i := 2) rfl) (pV_nil)))), f_62_6⟩
theorem q_62_7 : pQ_62 u_62_7 := ⟨_, _, _, _, (pS_cons ok_24 (pS_cons ok_25 (pS_nil))), (pV_cons (List.mem_of_getElem? (i := 3) rfl) (pV_cons (List.mem_of_getElem? (i := 1) rfl) (pV_cons (List.mem_of_getElem? (i := 2) rfl) (pV_nil)))), f_62_7⟩
theorem qb_62_0 : ∀ u ∈ [u_62_0, u_62_1, u_62_2, u_62_3, u_62_4, u_62_5, u_62_6, u_62_7], pQ_62 u := pU_cons q_62_0 (pU_cons q_62_1 (pU_cons q_62_2 (pU_cons q_62_3 (pU_cons q_62_4 (pU_cons q_62_5 (pU_cons q_62_6 (pU_cons q_62_7 (pU_nil))))))))
theorem ok_62 : sInOk pPT i_62 := sInst3 (M := pm_180) (cus := us_62) pOk pg_180 (by decide +kernel) ⟨_, _, _, _, (pS_cons ok_61 (pS_nil)), (pV_cons (List.mem_of_getElem? (i := 0) rfl) (pV_nil)), e_62⟩ (show ∀ u ∈ us_62, pQ_62 u from qb_62_0)
def pQ_63 (u : sCu) : Prop := ∃ (SM : List sIn) (H : gHt) (cu : List sCu) (n : Nat), (∀ I ∈ SM, sInOk pPT I) ∧ (∀ v ∈ cu, v ∈ us_63) ∧ sWhU pPT SM H i_63 (mR pm_184) cu n u = true
theorem q_63_0 : pQ_63 u_63_0 := ⟨_, _, _, _, (pS_cons ok_27 (pS_cons ok_28 (pS_nil))), (pV_cons (List.mem_of_getElem? (i := 1) rfl) (pV_cons (List.mem_of_getElem? (i := 2) rfl) (pV_cons (List.mem_of_getElem? (i := 3) rfl) (pV_nil)))), f_63_0⟩
theorem q_63_1 : pQ_63 u_63_1 := ⟨_, _, _, _, (pS_cons ok_27 (pS_nil)), (pV_cons (List.mem_of_getElem? (i := 4) rfl) (pV_cons (List.mem_of_getElem? (i := 5) rfl) (pV_nil))), f_63_1⟩
theorem q_63_2 : pQ_63 u_63_2 := ⟨_, _, _, _, (pS_cons ok_27 (pS_nil)), (pV_cons (List.mem_of_getElem? (i := 4) rfl) (pV_cons (List.mem_of_getElem? (i := 5) rfl) (pV_nil))), f_63_2⟩
theorem q_63_3 : pQ_63 u_63_3 := ⟨_, _, _, _, (pS_nil), (pV_nil), f_63_3⟩
theorem q_63_4 : pQ_63 u_63_4 := ⟨_, _, _, _, (pS_cons ok_1 (pS_cons ok_62 (pS_nil))), (pV_cons (List.mem_of_getElem? (i := 6) rfl) (pV_nil)), f_63_4⟩
theorem q_63_5 : pQ_63 u_63_5 := ⟨_, _, _, _, (pS_cons ok_1 (pS_cons ok_62 (pS_nil))), (pV_cons (List.mem_of_getElem? (i := 6) rfl) (pV_nil)), f_63_5⟩
theorem q_63_6 : pQ_63 u_63_6 := ⟨_, _, _, _, (pS_cons ok_27 (pS_cons ok_28 (pS_nil))), (pV_cons (List.mem_of_getElem? (i := 3) rfl) (pV_cons (List.mem_of_getElem? (i := 1) rfl) (pV_cons (List.mem_of_getElem? (i := 2) rfl) (pV_nil)))), f_63_6⟩
theorem q_63_7 : pQ_63 u_63_7 := ⟨_, _, _, _, (pS_cons ok_27 (pS_cons ok_28 (pS_nil))), (pV_cons (List.mem_of_getElem? (i := 3) rfl) (pV_cons (List.mem_of_getElem? (i := 1) rfl) (pV_cons (List.mem_of_getElem? (i := 2) rfl) (pV_nil)))), f_63_7⟩
theorem qb_63_0 : ∀ u ∈ [u_63_0, u_63_1, u_63_2, u_63_3, u_63_4, u_63_5, u_63_6, u_63_7], pQ_63 u := pU_cons q_63_0 (pU_cons q_63_1 (pU_cons q_63_2 (pU_cons q_63_3 (pU_cons q_63_4 (pU_cons q_63_5 (pU_cons q_63_6 (pU_cons q_63_7 (pU_nil))))))))
theorem ok_63 : sInOk pPT i_63 := sInst3 (M := pm_184) (cus := us_63) pOk pg_184 (by decide +kernel) ⟨_, _, _, _, (pS_cons ok_62 (pS_nil)), (pV_cons (List.mem_of_getElem? (i := 0) rfl) (pV_nil)), e_63⟩ (show ∀ u ∈ us_63, pQ_63 u from qb_63_0)
def pQ_64 (u : sCu) : Prop := ∃ (SM : List sIn) (H : gHt) (cu : List sCu) (n : Nat), (∀ I ∈ SM, sInOk pPT I) ∧ (∀ v ∈ cu, v ∈ us_64) ∧ sWhU pPT SM H i_64 (mR pm_185) cu n u = true
theorem q_64_0 : pQ_64 u_64_0 := ⟨_, _, _, _, (pS_cons ok_1 (pS_cons ok_63 (pS_nil))), (pV_cons (List.mem_of_getElem? (i := 2) rfl) (pV_nil)), f_64_0⟩
theorem q_64_1 : pQ_64 u_64_1 := ⟨_, _, _, _, (pS_cons ok_1 (pS_cons ok_63 (pS_nil))), (pV_cons (List.mem_of_getElem? (i := 3) rfl) (pV_nil)), f_64_1⟩
theorem q_64_2 : pQ_64 u_64_2 := ⟨_, _, _, _, (pS_nil), (pV_nil), f_64_2⟩
theorem q_64_3 : pQ_64 u_64_3 := ⟨_, _, _, _, (pS_nil), (pV_nil), f_64_3⟩
theorem qb_64_0 : ∀ u ∈ [u_64_0, u_64_1, u_64_2, u_64_3], pQ_64 u := pU_cons q_64_0 (pU_cons q_64_1 (pU_cons q_64_2 (pU_cons q_64_3 (pU_nil))))
theorem ok_64 : sInOk pPT i_64 := sInst3 (M := pm_185) (cus := us_64) pOk pg_185 (by decide +kernel) ⟨_, _, _, _, (pS_cons ok_30 (pS_cons ok_31 (pS_cons ok_63 (pS_nil)))), (pV_cons (List.mem_of_getElem? (i := 0) rfl) (pV_cons (List.mem_of_getElem? (i := 1) rfl) (pV_nil))), e_64⟩ (show ∀ u ∈ us_64, pQ_64 u from qb_64_0)
def pQ_65 (u : sCu) : Prop := ∃ (SM : List sIn) (H : gHt) (cu : List sCu) (n : Nat), (∀ I ∈ SM, sInOk pPT I) ∧ (∀ v ∈ cu, v ∈ us_65) ∧ sWhU pPT SM H i_65 (mR pm_178) cu n u = true
theorem q_65_0 : pQ_65 u_65_0 := ⟨_, _, _, _, (pS_cons ok_1 (pS_cons ok_11 (pS_nil))), (pV_cons (List.mem_of_getElem? (i := 1) rfl) (pV_cons (List.mem_of_getElem? (i := 2) rfl) (pV_nil))), f_65_0⟩
theorem q_65_1 : pQ_65 u_65_1 := ⟨_, _, _, _, (pS_nil), (pV_cons (List.mem_of_getElem? (i := 3) rfl) (pV_nil)), f_65_1⟩
theorem q_65_2 : pQ_65 u_65_2 := ⟨_, _, _, _, (pS_cons ok_1 (pS_cons ok_11 (pS_nil))), (pV_cons (List.mem_of_getElem? (i := 4) rfl) (pV_cons (List.mem_of_getElem? (i := 5) rfl) (pV_nil))), f_65_2⟩
theorem q_65_3 : pQ_65 u_65_3 := ⟨_, _, _, _, (pS_cons ok_64 (pS_nil)), (pV_cons (List.mem_of_getElem? (i := 6) rfl) (pV_nil)), f_65_3⟩
theorem q_65_4 : pQ_65 u_65_4 := ⟨_, _, _, _, (pS_nil), (pV_cons (List.mem_of_getElem? (i := 7) rfl) (pV_nil)), f_65_4⟩
theorem q_65_5 : pQ_65 u_65_5 := ⟨_, _, _, _, (pS_cons ok_1 (pS_cons ok_11 (pS_nil))), (pV_cons (List.mem_of_getElem? (i := 8) rfl) (pV_cons (List.mem_of_getElem? (i := 9) rfl) (pV_nil))), f_65_5⟩
theorem q_65_6 : pQ_65 u_65_6 := ⟨_, _, _, _, (pS_nil), (pV_nil), f_65_6⟩
theorem q_65_7 : pQ_65 u_65_7 := ⟨_, _, _, _, (pS_cons ok_64 (pS_nil)), (pV_cons (List.mem_of_getElem? (i := 10) rfl) (pV_nil)), f_65_7⟩
theorem q_65_8 : pQ_65 u_65_8 := ⟨_, _, _, _, (pS_nil), (pV_cons (List.mem_of_getElem? (i := 11) rfl) (pV_nil)), f_65_8⟩
theorem q_65_9 : pQ_65 u_65_9 := ⟨_, _, _, _, (pS_cons ok_1 (pS_cons ok_11 (pS_nil))), (pV_cons (List.mem_of_getElem? (i := 12) rfl) (pV_cons (List.mem_of_getElem? (i := 13) rfl) (pV_nil))), f_65_9⟩
theorem q_65_10 : pQ_65 u_65_10 := ⟨_, _, _, _, (pS_nil), (pV_cons (List.mem_of_getElem? (i := 10) rfl) (pV_nil)), f_65_10⟩
theorem q_65_11 : pQ_65 u_65_11 := ⟨_, _, _, _, (pS_cons ok_64 (pS_nil)), (pV_cons (List.mem_of_getElem? (i := 14) rfl) (pV_nil)), f_65_11⟩
theorem q_65_12 : pQ_65 u_65_12 := ⟨_, _, _, _, (pS_nil), (pV_cons (List.mem_of_getElem? (i := 15) rfl) (pV_nil)), f_65_12⟩
theorem q_65_13 : pQ_65 u_65_13 := ⟨_, _, _, _, (pS_cons ok_1 (pS_cons ok_11 (pS_nil))), (pV_cons (List.mem_of_getElem? (i := 16) rfl) (pV_cons (List.mem_of_getElem? (i := 17) rfl) (pV_nil))), f_65_13⟩
theorem q_65_14 : pQ_65 u_65_14 := ⟨_, _, _, _, (pS_nil), (pV_cons (List.mem_of_getElem? (i := 14) rfl) (pV_nil)), f_65_14⟩
theorem q_65_15 : pQ_65 u_65_15 := ⟨_, _, _, _, (pS_cons ok_64 (pS_nil)), (pV_cons (List.mem_of_getElem? (i := 18) rfl) (pV_nil)), f_65_15⟩
theorem q_65_16 : pQ_65 u_65_16 := ⟨_, _, _, _, (pS_nil), (pV_cons (List.mem_of_getElem? (i := 19) rfl) (pV_nil)), f_65_16⟩
theorem q_65_17 : pQ_65 u_65_17 := ⟨_, _, _, _, (pS_cons ok_1 (pS_cons ok_11 (pS_nil))), (pV_cons (List.mem_of_getElem? (i := 20) rfl) (pV_cons (List.mem_of_getElem? (i := 21) rfl) (pV_nil))), f_65_17⟩
theorem q_65_18 : pQ_65 u_65_18 := ⟨_, _, _, _, (pS_nil), (pV_cons (List.mem_of_getElem? (i := 18) rfl) (pV_nil)), f_65_18⟩
theorem q_65_19 : pQ_65 u_65_19 := ⟨_, _, _, _, (pS_cons ok_64 (pS_nil)), (pV_cons (List.mem_of_getElem? (i := 22) rfl) (pV_nil)), f_65_19⟩
theorem q_65_20 : pQ_65 u_65_20 := ⟨_, _, _, _, (pS_nil), (pV_cons (List.mem_of_getElem? (i := 23) rfl) (pV_nil)), f_65_20⟩
theorem q_65_21 : pQ_65 u_65_21 := ⟨_, _, _, _, (pS_nil), (pV_cons (List.mem_of_getElem? (i := 24) rfl) (pV_nil)), f_65_21⟩
theorem q_65_22 : pQ_65 u_65_22 := ⟨_, _, _, _, (pS_nil), (pV_cons (List.mem_of_getElem? (i := 22) rfl) (pV_nil)), f_65_22⟩
theorem q_65_23 : pQ_65 u_65_23 := ⟨_, _, _, _, (pS_cons ok_64 (pS_nil)), (pV_cons (List.mem_of_getElem? (i := 25) rfl) (pV_nil)), f_65_23⟩
theorem q_65_24 : pQ_65 u_65_24 := ⟨_, _, _, _, (pS_cons ok_11 (pS_nil)), (pV_cons (List.mem_of_getElem? (i := 26) rfl) (pV_nil)), f_65_24⟩
theorem q_65_25 : pQ_65 u_65_25 := ⟨_, _, _, _, (pS_nil), (pV_cons (List.mem_of_getElem? (i := 25) rfl) (pV_nil)), f_65_25⟩
theorem q_65_26 : pQ_65 u_65_26 := ⟨_, _, _, _, (pS_cons ok_64 (pS_nil)), (pV_cons (List.mem_of_getElem? (i := 27) rfl) (pV_nil)), f_65_26⟩
theorem q_65_27 : pQ_65 u_65_27 := ⟨_, _, _, _, (pS_nil), (pV_cons (List.mem_of_getElem? (i := 27) rfl) (pV_nil)), f_65_27⟩
theorem qb_65_0 : ∀ u ∈ [u_65_0, u_65_1, u_65_2, u_65_3, u_65_4, u_65_5, u_65_6, u_65_7, u_65_8, u_65_9], pQ_65 u := pU_cons q_65_0 (pU_cons q_65_1 (pU_cons q_65_2 (pU_cons q_65_3 (pU_cons q_65_4 (pU_cons q_65_5 (pU_cons q_65_6 (pU_cons q_65_7 (pU_cons q_65_8 (pU_cons q_65_9 (pU_nil))))))))))
theorem qb_65_1 : ∀ u ∈ [u_65_10, u_65_11, u_65_12, u_65_13, u_65_14, u_65_15, u_65_16, u_65_17, u_65_18, u_65_19], pQ_65 u := pU_cons q_65_10 (pU_cons q_65_11 (pU_cons q_65_12 (pU_cons q_65_13 (pU_cons q_65_14 (pU_cons q_65_15 (pU_cons q_65_16 (pU_cons q_65_17 (pU_cons q_65_18 (pU_cons q_65_19 (pU_nil))))))))))
theorem qb_65_2 : ∀ u ∈ [u_65_20, u_65_21, u_65_22, u_65_23, u_65_24, u_65_25, u_65_26, u_65_27], pQ_65 u := pU_cons q_65_20 (pU_cons q_65_21 (pU_cons q_65_22 (pU_cons q_65_23 (pU_cons q_65_24 (pU_cons q_65_25 (pU_cons q_65_26 (pU_cons q_65_27 (pU_nil))))))))
theorem ok_65 : sInOk pPT i_65 := sInst3 (M := pm_178) (cus := us_65) pOk pg_178 (by decide +kernel) ⟨_, _, _, _, (pS_nil), (pV_cons (List.mem_of_getElem? (i := 0) rfl) (pV_nil)), e_65⟩ (show ∀ u ∈ us_65, pQ_65 u from (pU_app qb_65_0 (pU_app qb_65_1 qb_65_2)))
def pQ_66 (u : sCu) : Prop := ∃ (SM : List sIn) (H : gHt) (cu : List sCu) (n : Nat), (∀ I ∈ SM, sInOk pPT I) ∧ (∀ v ∈ cu, v ∈ us_66) ∧ sWhU pPT SM H i_66 (mR pm_174) cu n u = true
theorem q_66_0 : pQ_66 u_66_0 := ⟨_, _, _, _, (pS_cons ok_1 (pS_cons ok_34 (pS_cons ok_65 (pS_nil)))), (pV_cons (List.mem_of_getElem? (i := 1) rfl) (pV_cons (List.mem_of_getElem? (i := 0) rfl) (pV_nil))), f_66_0⟩
theorem q_66_1 : pQ_66 u_66_1 := ⟨_, _, _, _, (pS_nil), (pV_nil), f_66_1⟩
theorem qb_66_0 : ∀ u ∈ [u_66_0, u_66_1], pQ_66 u := pU_cons q_66_0 (pU_cons q_66_1 (pU_nil))
theorem ok_66 : sInOk pPT i_66 := sInst3 (M := pm_174) (cus := us_66) pOk pg_174 (by decide +kernel) ⟨_, _, _, _, (pS_cons ok_65 (pS_nil)), (pV_cons (List.mem_of_getElem? (i := 0) rfl) (pV_nil)), e_66⟩ (show ∀ u ∈ us_66, pQ_66 u from qb_66_0)
def pQ_67 (u : sCu) : Prop := ∃ (SM : List sIn) (H : gHt) (cu : List sCu) (n : Nat), (∀ I ∈ SM, sInOk pPT I) ∧ (∀ v ∈ cu, v ∈ us_67) ∧ sWhU pPT SM H i_67 (mR pm_175) cu n u = true
theorem q_67_0 : pQ_67 u_67_0 := ⟨_, _, _, _, (pS_cons ok_1 (pS_cons ok_36 (pS_cons ok_66 (pS_nil)))), (pV_cons (List.mem_of_getElem? (i := 1) rfl) (pV_cons (List.mem_of_getElem? (i := 0) rfl) (pV_nil))), f_67_0⟩
theorem q_67_1 : pQ_67 u_67_1 := ⟨_, _, _, _, (pS_nil), (pV_nil), f_67_1⟩
theorem qb_67_0 : ∀ u ∈ [u_67_0, u_67_1], pQ_67 u := pU_cons q_67_0 (pU_cons q_67_1 (pU_nil))
theorem ok_67 : sInOk pPT i_67 := sInst3 (M := pm_175) (cus := us_67) pOk pg_175 (by decide +kernel) ⟨_, _, _, _, (pS_cons ok_66 (pS_nil)), (pV_cons (List.mem_of_getElem? (i := 0) rfl) (pV_nil)), e_67⟩ (show ∀ u ∈ us_67, pQ_67 u from qb_67_0)
def pQ_68 (u : sCu) : Prop := ∃ (SM : List sIn) (H : gHt) (cu : List sCu) (n : Nat), (∀ I ∈ SM, sInOk pPT I) ∧ (∀ v ∈ cu, v ∈ us_68) ∧ sWhU pPT SM H i_68 (mR pm_179) cu n u = true
theorem q_68_0 : pQ_68 u_68_0 := ⟨_, _, _, _, (pS_nil), (pV_nil), f_68_0⟩
theorem qb_68_0 : ∀ u ∈ [u_68_0], pQ_68 u := pU_cons q_68_0 (pU_nil)
theorem ok_68 : sInOk pPT i_68 := sInst3 (M := pm_179) (cus := us_68) pOk pg_179 (by decide +kernel) ⟨_, _, _, _, (pS_cons ok_1 (pS_cons ok_12 (pS_cons ok_13 (pS_cons ok_14 (pS_cons ok_15 (pS_cons ok_16 (pS_cons ok_17 (pS_cons ok_18 (pS_cons ok_19 (pS_cons ok_20 (pS_cons ok_22 (pS_cons ok_39 (pS_cons ok_67 (pS_nil)))))))))))))), (pV_cons (List.mem_of_getElem? (i := 0) rfl) (pV_nil)), e_68⟩ (show ∀ u ∈ us_68, pQ_68 u from qb_68_0)
def pQ_69 (u : sCu) : Prop := ∃ (SM : List sIn) (H : gHt) (cu : List sCu) (n : Nat), (∀ I ∈ SM, sInOk pPT I) ∧ (∀ v ∈ cu, v ∈ us_69) ∧ sWhU pPT SM H i_69 (mR pm_180) cu n u = true
theorem q_69_0 : pQ_69 u_69_0 := ⟨_, _, _, _, (pS_cons ok_24 (pS_cons ok_25 (pS_nil))), (pV_cons (List.mem_of_getElem? (i := 1) rfl) (pV_cons (List.mem_of_getElem? (i := 2) rfl) (pV_cons (List.mem_of_getElem? (i := 3) rfl) (pV_nil)))), f_69_0⟩
theorem q_69_1 : pQ_69 u_69_1 := ⟨_, _, _, _, (pS_cons ok_24 (pS_nil)), (pV_cons (List.mem_of_getElem? (i := 4) rfl) (pV_cons (List.mem_of_getElem? (i := 5) rfl) (pV_nil))), f_69_1⟩
theorem q_69_2 : pQ_69 u_69_2 := ⟨_, _, _, _, (pS_cons ok_24 (pS_nil)), (pV_cons (List.mem_of_getElem? (i := 4) rfl) (pV_cons (List.mem_of_getElem? (i := 5) rfl) (pV_nil))), f_69_2⟩
theorem q_69_3 : pQ_69 u_69_3 := ⟨_, _, _, _, (pS_nil), (pV_nil), f_69_3⟩
theorem q_69_4 : pQ_69 u_69_4 := ⟨_, _, _, _, (pS_cons ok_1 (pS_cons ok_68 (pS_nil))), (pV_cons (List.mem_of_getElem? (i := 6) rfl) (pV_nil)), f_69_4⟩
theorem q_69_5 : pQ_69 u_69_5 := ⟨_, _, _, _, (pS_cons ok_1 (pS_cons ok_68 (pS_nil))), (pV_cons (List.mem_of_getElem? (i := 6) rfl) (pV_nil)), f_69_5⟩
theorem q_69_6 : pQ_69 u_69_6 := ⟨_, _, _, _, (pS_cons ok_24 (pS_cons ok_25 (pS_nil))), (pV_cons (List.mem_of_getElem? (i := 3) rfl) (pV_cons (List.mem_of_getElem? (i := 1) rfl) (pV_cons (List.mem_of_getElem? (i := 2) rfl) (pV_nil)))), f_69_6⟩
theorem q_69_7 : pQ_69 u_69_7 := ⟨_, _, _, _, (pS_cons ok_24 (pS_cons ok_25 (pS_nil))), (pV_cons (List.mem_of_getElem? (i := 3) rfl) (pV_cons (List.mem_of_getElem? (i := 1) rfl) (pV_cons (List.mem_of_getElem? (i := 2) rfl) (pV_nil)))), f_69_7⟩
theorem qb_69_0 : ∀ u ∈ [u_69_0, u_69_1, u_69_2, u_69_3, u_69_4, u_69_5, u_69_6, u_69_7], pQ_69 u := pU_cons q_69_0 (pU_cons q_69_1 (pU_cons q_69_2 (pU_cons q_69_3 (pU_cons q_69_4 (pU_cons q_69_5 (pU_cons q_69_6 (pU_cons q_69_7 (pU_nil))))))))
theorem ok_69 : sInOk pPT i_69 := sInst3 (M := pm_180) (cus := us_69) pOk pg_180 (by decide +kernel) ⟨_, _, _, _, (pS_cons ok_68 (pS_nil)), (pV_cons (List.mem_of_getElem? (i := 0) rfl) (pV_nil)), e_69⟩ (show ∀ u ∈ us_69, pQ_69 u from qb_69_0)
def pQ_70 (u : sCu) : Prop := ∃ (SM : List sIn) (H : gHt) (cu : List sCu) (n : Nat), (∀ I ∈ SM, sInOk pPT I) ∧ (∀ v ∈ cu, v ∈ us_70) ∧ sWhU pPT SM H i_70 (mR pm_184) cu n u = true
theorem q_70_0 : pQ_70 u_70_0 := ⟨_, _, _, _, (pS_cons ok_27 (pS_cons ok_28 (pS_nil))), (pV_cons (List.mem_of_getElem? (i := 1) rfl) (pV_cons (List.mem_of_getElem? (i := 2) rfl) (pV_cons (List.mem_of_getElem? (i := 3) rfl) (pV_nil)))), f_70_0⟩
theorem q_70_1 : pQ_70 u_70_1 := ⟨_, _, _, _, (pS_cons ok_27 (pS_nil)), (pV_cons (List.mem_of_getElem? (i := 4) rfl) (pV_cons (List.mem_of_getElem? (i := 5) rfl) (pV_nil))), f_70_1⟩
theorem q_70_2 : pQ_70 u_70_2 := ⟨_, _, _, _, (pS_cons ok_27 (pS_nil)), (pV_cons (List.mem_of_getElem? (i := 4) rfl) (pV_cons (List.mem_of_getElem? (i := 5) rfl) (pV_nil))), f_70_2⟩
theorem q_70_3 : pQ_70 u_70_3 := ⟨_, _, _, _, (pS_nil), (pV_nil), f_70_3⟩
theorem q_70_4 : pQ_70 u_70_4 := ⟨_, _, _, _, (pS_cons ok_1 (pS_cons ok_69 (pS_nil))), (pV_cons (List.mem_of_getElem? (i := 6) rfl) (pV_nil)), f_70_4⟩
theorem q_70_5 : pQ_70 u_70_5 := ⟨_, _, _, _, (pS_cons ok_1 (pS_cons ok_69 (pS_nil))), (pV_cons (List.mem_of_getElem? (i := 6) rfl) (pV_nil)), f_70_5⟩
theorem q_70_6 : pQ_70 u_70_6 := ⟨_, _, _, _, (pS_cons ok_27 (pS_cons ok_28 (pS_nil))), (pV_cons (List.mem_of_getElem? (i := 3) rfl) (pV_cons (List.mem_of_getElem? (i := 1) rfl) (pV_cons (List.mem_of_getElem? (i := 2) rfl) (pV_nil)))), f_70_6⟩
theorem q_70_7 : pQ_70 u_70_7 := ⟨_, _, _, _, (pS_cons ok_27 (pS_cons ok_28 (pS_nil))), (pV_cons (List.mem_of_getElem? (i := 3) rfl) (pV_cons (List.mem_of_getElem? (i := 1) rfl) (pV_cons (List.mem_of_getElem? (i := 2) rfl) (pV_nil)))), f_70_7⟩
theorem qb_70_0 : ∀ u ∈ [u_70_0, u_70_1, u_70_2, u_70_3, u_70_4, u_70_5, u_70_6, u_70_7], pQ_70 u := pU_cons q_70_0 (pU_cons q_70_1 (pU_cons q_70_2 (pU_cons q_70_3 (pU_cons q_70_4 (pU_cons q_70_5 (pU_cons q_70_6 (pU_cons q_70_7 (pU_nil))))))))
theorem ok_70 : sInOk pPT i_70 := sInst3 (M := pm_184) (cus := us_70) pOk pg_184 (by decide +kernel) ⟨_, _, _, _, (pS_cons ok_69 (pS_nil)), (pV_cons (List.mem_of_getElem? (i := 0) rfl) (pV_nil)), e_70⟩ (show ∀ u ∈ us_70, pQ_70 u from qb_70_0)
def pQ_71 (u : sCu) : Prop := ∃ (SM : List sIn) (H : gHt) (cu : List sCu) (n : Nat), (∀ I ∈ SM, sInOk pPT I) ∧ (∀ v ∈ cu, v ∈ us_71) ∧ sWhU pPT SM H i_71 (mR pm_185) cu n u = true
theorem q_71_0 : pQ_71 u_71_0 := ⟨_, _, _, _, (pS_cons ok_1 (pS_cons ok_70 (pS_nil))), (pV_cons (List.mem_of_getElem? (i := 2) rfl) (pV_nil)), f_71_0⟩
theorem q_71_1 : pQ_71 u_71_1 := ⟨_, _, _, _, (pS_cons ok_1 (pS_cons ok_70 (pS_nil))), (pV_cons (List.mem_of_getElem? (i := 3) rfl) (pV_nil)), f_71_1⟩
theorem q_71_2 : pQ_71 u_71_2 := ⟨_, _, _, _, (pS_nil), (pV_nil), f_71_2⟩
theorem q_71_3 : pQ_71 u_71_3 := ⟨_, _, _, _, (pS_nil), (pV_nil), f_71_3⟩
theorem qb_71_0 : ∀ u ∈ [u_71_0, u_71_1, u_71_2, u_71_3], pQ_71 u := pU_cons q_71_0 (pU_cons q_71_1 (pU_cons q_71_2 (pU_cons q_71_3 (pU_nil))))
theorem ok_71 : sInOk pPT i_71 := sInst3 (M := pm_185) (cus := us_71) pOk pg_185 (by decide +kernel) ⟨_, _, _, _, (pS_cons ok_30 (pS_cons ok_31 (pS_cons ok_70 (pS_nil)))), (pV_cons (List.mem_of_getElem? (i := 0) rfl) (pV_cons (List.mem_of_getElem? (i := 1) rfl) (pV_nil))), e_71⟩ (show ∀ u ∈ us_71, pQ_71 u from qb_71_0)
def pQ_72 (u : sCu) : Prop := ∃ (SM : List sIn) (H : gHt) (cu : List sCu) (n : Nat), (∀ I ∈ SM, sInOk pPT I) ∧ (∀ v ∈ cu, v ∈ us_72) ∧ sWhU pPT SM H i_72 (mR pm_178) cu n u = true
theorem q_72_0 : pQ_72 u_72_0 := ⟨_, _, _, _, (pS_cons ok_1 (pS_cons ok_11 (pS_nil))), (pV_cons (List.mem_of_getElem? (i := 1) rfl) (pV_cons (List.mem_of_getElem? (i := 2) rfl) (pV_nil))), f_72_0⟩
theorem q_72_1 : pQ_72 u_72_1 := ⟨_, _, _, _, (pS_nil), (pV_cons (List.mem_of_getElem? (i := 3) rfl) (pV_nil)), f_72_1⟩
theorem q_72_2 : pQ_72 u_72_2 := ⟨_, _, _, _, (pS_cons ok_1 (pS_cons ok_11 (pS_nil))), (pV_cons (List.mem_of_getElem? (i := 4) rfl) (pV_cons (List.mem_of_getElem? (i := 5) rfl) (pV_nil))), f_72_2⟩
theorem q_72_3 : pQ_72 u_72_3 := ⟨_, _, _, _, (pS_cons ok_71 (pS_nil)), (pV_cons (List.mem_of_getElem? (i := 6) rfl) (pV_nil)), f_72_3⟩
theorem q_72_4 : pQ_72 u_72_4 := ⟨_, _, _, _, (pS_nil), (pV_cons (List.mem_of_getElem? (i := 7) rfl) (pV_nil)), f_72_4⟩
theorem q_72_5 : pQ_72 u_72_5 := ⟨_, _, _, _, (pS_cons ok_1 (pS_cons ok_11 (pS_nil))), (pV_cons (List.mem_of_getElem? (i := 8) rfl) (pV_cons (List.mem_of_getElem? (i := 9) rfl) (pV_nil))), f_72_5⟩
theorem q_72_6 : pQ_72 u_72_6 := ⟨_, _, _, _, (pS_nil), (pV_nil), f_72_6⟩
theorem q_72_7 : pQ_72 u_72_7 := ⟨_, _, _, _, (pS_cons ok_71 (pS_nil)), (pV_cons (List.mem_of_getElem? (i := 10) rfl) (pV_nil)), f_72_7⟩
theorem q_72_8 : pQ_72 u_72_8 := ⟨_, _, _, _, (pS_nil), (pV_cons (List.mem_of_getElem? (i := 11) rfl) (pV_nil)), f_72_8⟩
theorem q_72_9 : pQ_72 u_72_9 := ⟨_, _, _, _, (pS_cons ok_1 (pS_cons ok_11 (pS_nil))), (pV_cons (List.mem_of_getElem? (i := 12) rfl) (pV_cons (List.mem_of_getElem? (i := 13) rfl) (pV_nil))), f_72_9⟩
theorem q_72_10 : pQ_72 u_72_10 := ⟨_, _, _, _, (pS_nil), (pV_cons (List.mem_of_getElem? (i := 10) rfl) (pV_nil)), f_72_10⟩
theorem q_72_11 : pQ_72 u_72_11 := ⟨_, _, _, _, (pS_cons ok_71 (pS_nil)), (pV_cons (List.mem_of_getElem? (i := 14) rfl) (pV_nil)), f_72_11⟩
theorem q_72_12 : pQ_72 u_72_12 := ⟨_, _, _, _, (pS_nil), (pV_cons (List.mem_of_getElem? (i := 15) rfl) (pV_nil)), f_72_12⟩
theorem q_72_13 : pQ_72 u_72_13 := ⟨_, _, _, _, (pS_cons ok_1 (pS_cons ok_11 (pS_nil))), (pV_cons (List.mem_of_getElem? (i := 16) rfl) (pV_cons (List.mem_of_getElem? (i := 17) rfl) (pV_nil))), f_72_13⟩
theorem q_72_14 : pQ_72 u_72_14 := ⟨_, _, _, _, (pS_nil), (pV_cons (List.mem_of_getElem? (i := 14) rfl) (pV_nil)), f_72_14⟩
theorem q_72_15 : pQ_72 u_72_15 := ⟨_, _, _, _, (pS_cons ok_71 (pS_nil)), (pV_cons (List.mem_of_getElem? (i := 18) rfl) (pV_nil)), f_72_15⟩
theorem q_72_16 : pQ_72 u_72_16 := ⟨_, _, _, _, (pS_nil), (pV_cons (List.mem_of_getElem? (i := 19) rfl) (pV_nil)), f_72_16⟩
theorem q_72_17 : pQ_72 u_72_17 := ⟨_, _, _, _, (pS_cons ok_1 (pS_cons ok_11 (pS_nil))), (pV_cons (List.mem_of_getElem? (i := 20) rfl) (pV_cons (List.mem_of_getElem? (i := 21) rfl) (pV_nil))), f_72_17⟩
theorem q_72_18 : pQ_72 u_72_18 := ⟨_, _, _, _, (pS_nil), (pV_cons (List.mem_of_getElem? (i := 18) rfl) (pV_nil)), f_72_18⟩
theorem q_72_19 : pQ_72 u_72_19 := ⟨_, _, _, _, (pS_cons ok_71 (pS_nil)), (pV_cons (List.mem_of_getElem? (i := 22) rfl) (pV_nil)), f_72_19⟩
theorem q_72_20 : pQ_72 u_72_20 := ⟨_, _, _, _, (pS_nil), (pV_cons (List.mem_of_getElem? (i := 23) rfl) (pV_nil)), f_72_20⟩
theorem q_72_21 : pQ_72 u_72_21 := ⟨_, _, _, _, (pS_nil), (pV_cons (List.mem_of_getElem? (i := 24) rfl) (pV_nil)), f_72_21⟩
theorem q_72_22 : pQ_72 u_72_22 := ⟨_, _, _, _, (pS_nil), (pV_cons (List.mem_of_getElem? (i := 22) rfl) (pV_nil)), f_72_22⟩
theorem q_72_23 : pQ_72 u_72_23 := ⟨_, _, _, _, (pS_cons ok_71 (pS_nil)), (pV_cons (List.mem_of_getElem? (i := 25) rfl) (pV_nil)), f_72_23⟩
theorem q_72_24 : pQ_72 u_72_24 := ⟨_, _, _, _, (pS_cons ok_11 (pS_nil)), (pV_cons (List.mem_of_getElem? (i := 26) rfl) (pV_nil)), f_72_24⟩
theorem q_72_25 : pQ_72 u_72_25 := ⟨_, _, _, _, (pS_nil), (pV_cons (List.mem_of_getElem? (i := 25) rfl) (pV_nil)), f_72_25⟩
theorem q_72_26 : pQ_72 u_72_26 := ⟨_, _, _, _, (pS_cons ok_71 (pS_nil)), (pV_cons (List.mem_of_getElem? (i := 27) rfl) (pV_nil)), f_72_26⟩
theorem q_72_27 : pQ_72 u_72_27 := ⟨_, _, _, _, (pS_nil), (pV_cons (List.mem_of_getElem? (i := 27) rfl) (pV_nil)), f_72_27⟩
theorem qb_72_0 : ∀ u ∈ [u_72_0, u_72_1, u_72_2, u_72_3, u_72_4, u_72_5, u_72_6, u_72_7, u_72_8, u_72_9], pQ_72 u := pU_cons q_72_0 (pU_cons q_72_1 (pU_cons q_72_2 (pU_cons q_72_3 (pU_cons q_72_4 (pU_cons q_72_5 (pU_cons q_72_6 (pU_cons q_72_7 (pU_cons q_72_8 (pU_cons q_72_9 (pU_nil))))))))))
theorem qb_72_1 : ∀ u ∈ [u_72_10, u_72_11, u_72_12, u_72_13, u_72_14, u_72_15, u_72_16, u_72_17, u_72_18, u_72_19], pQ_72 u := pU_cons q_72_10 (pU_cons q_72_11 (pU_cons q_72_12 (pU_cons q_72_13 (pU_cons q_72_14 (pU_cons q_72_15 (pU_cons q_72_16 (pU_cons q_72_17 (pU_cons q_72_18 (pU_cons q_72_19 (pU_nil))))))))))
theorem qb_72_2 : ∀ u ∈ [u_72_20, u_72_21, u_72_22, u_72_23, u_72_24, u_72_25, u_72_26, u_72_27], pQ_72 u := pU_cons q_72_20 (pU_cons q_72_21 (pU_cons q_72_22 (pU_cons q_72_23 (pU_cons q_72_24 (pU_cons q_72_25 (pU_cons q_72_26 (pU_cons q_72_27 (pU_nil))))))))
theorem ok_72 : sInOk pPT i_72 := sInst3 (M := pm_178) (cus := us_72) pOk pg_178 (by decide +kernel) ⟨_, _, _, _, (pS_nil), (pV_cons (List.mem_of_getElem? (i := 0) rfl) (pV_nil)), e_72⟩ (show ∀ u ∈ us_72, pQ_72 u from (pU_app qb_72_0 (pU_app qb_72_1 qb_72_2)))
def pQ_73 (u : sCu) : Prop := ∃ (SM : List sIn) (H : gHt) (cu : List sCu) (n : Nat), (∀ I ∈ SM, sInOk pPT I) ∧ (∀ v ∈ cu, v ∈ us_73) ∧ sWhU pPT SM H i_73 (mR pm_174) cu n u = true
theorem q_73_0 : pQ_73 u_73_0 := ⟨_, _, _, _, (pS_cons ok_1 (pS_cons ok_34 (pS_cons ok_72 (pS_nil)))), (pV_cons (List.mem_of_getElem? (i := 1) rfl) (pV_cons (List.mem_of_getElem? (i := 0) rfl) (pV_nil))), f_73_0⟩
theorem q_73_1 : pQ_73 u_73_1 := ⟨_, _, _, _, (pS_nil), (pV_nil), f_73_1⟩
theorem qb_73_0 : ∀ u ∈ [u_73_0, u_73_1], pQ_73 u := pU_cons q_73_0 (pU_cons q_73_1 (pU_nil))
theorem ok_73 : sInOk pPT i_73 := sInst3 (M := pm_174) (cus := us_73) pOk pg_174 (by decide +kernel) ⟨_, _, _, _, (pS_cons ok_72 (pS_nil)), (pV_cons (List.mem_of_getElem? (i := 0) rfl) (pV_nil)), e_73⟩ (show ∀ u ∈ us_73, pQ_73 u from qb_73_0)
def pQ_74 (u : sCu) : Prop := ∃ (SM : List sIn) (H : gHt) (cu : List sCu) (n : Nat), (∀ I ∈ SM, sInOk pPT I) ∧ (∀ v ∈ cu, v ∈ us_74) ∧ sWhU pPT SM H i_74 (mR pm_175) cu n u = true
theorem q_74_0 : pQ_74 u_74_0 := ⟨_, _, _, _, (pS_cons ok_1 (pS_cons ok_36 (pS_cons ok_73 (pS_nil)))), (pV_cons (List.mem_of_getElem? (i := 1) rfl) (pV_cons (List.mem_of_getElem? (i := 0) rfl) (pV_nil))), f_74_0⟩
theorem q_74_1 : pQ_74 u_74_1 := ⟨_, _, _, _, (pS_nil), (pV_nil), f_74_1⟩
theorem qb_74_0 : ∀ u ∈ [u_74_0, u_74_1], pQ_74 u := pU_cons q_74_0 (pU_cons q_74_1 (pU_nil))
theorem ok_74 : sInOk pPT i_74 := sInst3 (M := pm_175) (cus := us_74) pOk pg_175 (by decide +kernel) ⟨_, _, _, _, (pS_cons ok_73 (pS_nil)), (pV_cons (List.mem_of_getElem? (i := 0) rfl) (pV_nil)), e_74⟩ (show ∀ u ∈ us_74, pQ_74 u from qb_74_0)
def pQ_75 (u : sCu) : Prop := ∃ (SM : List sIn) (H : gHt) (cu : List sCu) (n : Nat), (∀ I ∈ SM, sInOk pPT I) ∧ (∀ v ∈ cu, v ∈ us_75) ∧ sWhU pPT SM H i_75 (mR pm_166) cu n u = true
theorem q_75_0 : pQ_75 u_75_0 := ⟨_, _, _, _, (pS_nil), (pV_nil), f_75_0⟩
theorem qb_75_0 : ∀ u ∈ [u_75_0], pQ_75 u := pU_cons q_75_0 (pU_nil)
theorem ok_75 : sInOk pPT i_75 := sInst3 (M := pm_166) (cus := us_75) pOk pg_166 (by decide +kernel) ⟨_, _, _, _, (pS_nil), (pV_cons (List.mem_of_getElem? (i := 0) rfl) (pV_nil)), e_75⟩ (show ∀ u ∈ us_75, pQ_75 u from qb_75_0)
theorem ok_76 : sInOk pPT i_76 := sInst3 (M := pm_182) (cus := []) pOk pg_182 (by decide +kernel) ⟨_, _, _, _, (pS_cons ok_1 (pS_cons ok_75 (pS_nil))), pV_nil, e_76⟩ pU_nil
def pQ_77 (u : sCu) : Prop := ∃ (SM : List sIn) (H : gHt) (cu : List sCu) (n : Nat), (∀ I ∈ SM, sInOk pPT I) ∧ (∀ v ∈ cu, v ∈ us_77) ∧ sWhU pPT SM H i_77 (mR pm_170) cu n u = true
theorem q_77_0 : pQ_77 u_77_0 := ⟨_, _, _, _, (pS_nil), (pV_nil), f_77_0⟩
theorem qb_77_0 : ∀ u ∈ [u_77_0], pQ_77 u := pU_cons q_77_0 (pU_nil)
theorem ok_77 : sInOk pPT i_77 := sInst3 (M := pm_170) (cus := us_77) pOk pg_170 (by decide +kernel) ⟨_, _, _, _, (pS_nil), (pV_cons (List.mem_of_getElem? (i := 0) rfl) (pV_nil)), e_77⟩ (show ∀ u ∈ us_77, pQ_77 u from qb_77_0)
def pQ_78 (u : sCu) : Prop := ∃ (SM : List sIn) (H : gHt) (cu : List sCu) (n : Nat), (∀ I ∈ SM, sInOk pPT I) ∧ (∀ v ∈ cu, v ∈ us_78) ∧ sWhU pPT SM H i_78 (mR pm_157) cu n u = true
theorem q_78_0 : pQ_78 u_78_0 := ⟨_, _, _, _, (pS_nil), (pV_cons (List.mem_of_getElem? (i := 0) rfl) (pV_nil)), f_78_0⟩
theorem qb_78_0 : ∀ u ∈ [u_78_0], pQ_78 u := pU_cons q_78_0 (pU_nil)
theorem ok_78 : sInOk pPT i_78 := sInst3 (M := pm_157) (cus := us_78) pOk pg_157 (by decide +kernel) ⟨_, _, _, _, (pS_nil), (pV_cons (List.mem_of_getElem? (i := 0) rfl) (pV_nil)), e_78⟩ (show ∀ u ∈ us_78, pQ_78 u from qb_78_0)
def pQ_79 (u : sCu) : Prop := ∃ (SM : List sIn) (H : gHt) (cu : List sCu) (n : Nat), (∀ I ∈ SM, sInOk pPT I) ∧ (∀ v ∈ cu, v ∈ us_79) ∧ sWhU pPT SM H i_79 (mR pm_176) cu n u = true
theorem q_79_0 : pQ_79 u_79_0 := ⟨_, _, _, _, (pS_nil), (pV_nil), f_79_0⟩
theorem q_79_1 : pQ_79 u_79_1 := ⟨_, _, _, _, (pS_cons ok_22 (pS_nil)), (pV_nil), f_79_1⟩
theorem qb_79_0 : ∀ u ∈ [u_79_0, u_79_1], pQ_79 u := pU_cons q_79_0 (pU_cons q_79_1 (pU_nil))
theorem ok_79 : sInOk pPT i_79 := sInst3 (M := pm_176) (cus := us_79) pOk pg_176 (by decide +kernel) ⟨_, _, _, _, (pS_cons ok_1 (pS_cons ok_22 (pS_cons ok_77 (pS_cons ok_78 (pS_nil))))), (pV_cons (List.mem_of_getElem? (i := 0) rfl) (pV_cons (List.mem_of_getElem? (i := 1) rfl) (pV_nil))), e_79⟩ (show ∀ u ∈ us_79, pQ_79 u from qb_79_0)
def pQ_80 (u : sCu) : Prop := ∃ (SM : List sIn) (H : gHt) (cu : List sCu) (n : Nat), (∀ I ∈ SM, sInOk pPT I) ∧ (∀ v ∈ cu, v ∈ us_80) ∧ sWhU pPT SM H i_80 (mR pm_171) cu n u = true
theorem q_80_0 : pQ_80 u_80_0 := ⟨_, _, _, _, (pS_nil), (pV_nil), f_80_0⟩
theorem qb_80_0 : ∀ u ∈ [u_80_0], pQ_80 u := pU_cons q_80_0 (pU_nil)
theorem ok_80 : sInOk pPT i_80 := sInst3 (M := pm_171) (cus := us_80) pOk pg_171 (by decide +kernel) ⟨_, _, _, _, (pS_nil), (pV_cons (List.mem_of_getElem? (i := 0) rfl) (pV_nil)), e_80⟩ (show ∀ u ∈ us_80, pQ_80 u from qb_80_0)
def pQ_81 (u : sCu) : Prop := ∃ (SM : List sIn) (H : gHt) (cu : List sCu) (n : Nat), (∀ I ∈ SM, sInOk pPT I) ∧ (∀ v ∈ cu, v ∈ us_81) ∧ sWhU pPT SM H i_81 (mR pm_171) cu n u = true
theorem q_81_0 : pQ_81 u_81_0 := ⟨_, _, _, _, (pS_nil), (pV_nil), f_81_0⟩
theorem qb_81_0 : ∀ u ∈ [u_81_0], pQ_81 u := pU_cons q_81_0 (pU_nil)
theorem ok_81 : sInOk pPT i_81 := sInst3 (M := pm_171) (cus := us_81) pOk pg_171 (by decide +kernel) ⟨_, _, _, _, (pS_nil), (pV_cons (List.mem_of_getElem? (i := 0) rfl) (pV_nil)), e_81⟩ (show ∀ u ∈ us_81, pQ_81 u from qb_81_0)
theorem ok_82 : sInOk pPT i_82 := sInst3 (M := pm_181) (cus := []) pOk pg_181 (by decide +kernel) ⟨_, _, _, _, (pS_cons ok_1 (pS_cons ok_22 (pS_cons ok_77 (pS_cons ok_80 (pS_cons ok_81 (pS_nil)))))), pV_nil, e_82⟩ pU_nil
def pQ_83 (u : sCu) : Prop := ∃ (SM : List sIn) (H : gHt) (cu : List sCu) (n : Nat), (∀ I ∈ SM, sInOk pPT I) ∧ (∀ v ∈ cu, v ∈ us_83) ∧ sWhU pPT SM H i_83 (mR pm_158) cu n u = true
theorem q_83_0 : pQ_83 u_83_0 := ⟨_, _, _, _, (pS_nil), (pV_cons (List.mem_of_getElem? (i := 0) rfl) (pV_nil)), f_83_0⟩
theorem qb_83_0 : ∀ u ∈ [u_83_0], pQ_83 u := pU_cons q_83_0 (pU_nil)
theorem ok_83 : sInOk pPT i_83 := sInst3 (M := pm_158) (cus := us_83) pOk pg_158 (by decide +kernel) ⟨_, _, _, _, (pS_nil), (pV_cons (List.mem_of_getElem? (i := 0) rfl) (pV_nil)), e_83⟩ (show ∀ u ∈ us_83, pQ_83 u from qb_83_0)
def pQ_84 (u : sCu) : Prop := ∃ (SM : List sIn) (H : gHt) (cu : List sCu) (n : Nat), (∀ I ∈ SM, sInOk pPT I) ∧ (∀ v ∈ cu, v ∈ us_84) ∧ sWhU pPT SM H i_84 (mR pm_171) cu n u = true
theorem q_84_0 : pQ_84 u_84_0 := ⟨_, _, _, _, (pS_nil), (pV_nil), f_84_0⟩
theorem qb_84_0 : ∀ u ∈ [u_84_0], pQ_84 u := pU_cons q_84_0 (pU_nil)
theorem ok_84 : sInOk pPT i_84 := sInst3 (M := pm_171) (cus := us_84) pOk pg_171 (by decide +kernel) ⟨_, _, _, _, (pS_nil), (pV_cons (List.mem_of_getElem? (i := 0) rfl) (pV_nil)), e_84⟩ (show ∀ u ∈ us_84, pQ_84 u from qb_84_0)
def pQ_85 (u : sCu) : Prop := ∃ (SM : List sIn) (H : gHt) (cu : List sCu) (n : Nat), (∀ I ∈ SM, sInOk pPT I) ∧ (∀ v ∈ cu, v ∈ us_85) ∧ sWhU pPT SM H i_85 (mR pm_177) cu n u = true
theorem q_85_0 : pQ_85 u_85_0 := ⟨_, _, _, _, (pS_nil), (pV_nil), f_85_0⟩
theorem q_85_1 : pQ_85 u_85_1 := ⟨_, _, _, _, (pS_cons ok_22 (pS_cons ok_84 (pS_nil))), (pV_nil), f_85_1⟩
theorem qb_85_0 : ∀ u ∈ [u_85_0, u_85_1], pQ_85 u := pU_cons q_85_0 (pU_cons q_85_1 (pU_nil))
theorem ok_85 : sInOk pPT i_85 := sInst3 (M := pm_177) (cus := us_85) pOk pg_177 (by decide +kernel) ⟨_, _, _, _, (pS_cons ok_1 (pS_cons ok_22 (pS_cons ok_77 (pS_cons ok_83 (pS_nil))))), (pV_cons (List.mem_of_getElem? (i := 0) rfl) (pV_cons (List.mem_of_getElem? (i := 1) rfl) (pV_nil))), e_85⟩ (show ∀ u ∈ us_85, pQ_85 u from qb_85_0)
def pQ_86 (u : sCu) : Prop := ∃ (SM : List sIn) (H : gHt) (cu : List sCu) (n : Nat), (∀ I ∈ SM, sInOk pPT I) ∧ (∀ v ∈ cu, v ∈ us_86) ∧ sWhU pPT SM H i_86 (mR pm_171) cu n u = true
theorem q_86_0 : pQ_86 u_86_0 := ⟨_, _, _, _, (pS_nil), (pV_nil), f_86_0⟩
theorem qb_86_0 : ∀ u ∈ [u_86_0], pQ_86 u := pU_cons q_86_0 (pU_nil)
theorem ok_86 : sInOk pPT i_86 := sInst3 (M := pm_171) (cus := us_86) pOk pg_171 (by decide +kernel) ⟨_, _, _, _, (pS_nil), (pV_cons (List.mem_of_getElem? (i := 0) rfl) (pV_nil)), e_86⟩ (show ∀ u ∈ us_86, pQ_86 u from qb_86_0)
theorem ok_87 : sInOk pPT i_87 := sInst3 (M := pm_173) (cus := []) pOk pg_173 (by decide +kernel) ⟨_, _, _, _, (pS_cons ok_1 (pS_cons ok_22 (pS_cons ok_81 (pS_cons ok_86 (pS_nil))))), pV_nil, e_87⟩ pU_nil
theorem ok_88 : sInOk pPT i_88 := sInst3 (M := pm_173) (cus := []) pOk pg_173 (by decide +kernel) ⟨_, _, _, _, (pS_cons ok_1 (pS_cons ok_22 (pS_cons ok_81 (pS_cons ok_86 (pS_nil))))), pV_nil, e_88⟩ pU_nil
theorem ok_89 : sInOk pPT i_89 := sInst3 (M := pm_173) (cus := []) pOk pg_173 (by decide +kernel) ⟨_, _, _, _, (pS_cons ok_1 (pS_cons ok_22 (pS_cons ok_81 (pS_cons ok_86 (pS_nil))))), pV_nil, e_89⟩ pU_nil
theorem ok_90 : sInOk pPT i_90 := sInst3 (M := pm_173) (cus := []) pOk pg_173 (by decide +kernel) ⟨_, _, _, _, (pS_cons ok_1 (pS_cons ok_22 (pS_cons ok_81 (pS_cons ok_86 (pS_nil))))), pV_nil, e_90⟩ pU_nil
theorem ok_91 : sInOk pPT i_91 := sInst3 (M := pm_173) (cus := []) pOk pg_173 (by decide +kernel) ⟨_, _, _, _, (pS_cons ok_1 (pS_cons ok_22 (pS_cons ok_81 (pS_cons ok_86 (pS_nil))))), pV_nil, e_91⟩ pU_nil
theorem ok_92 : sInOk pPT i_92 := sInst3 (M := pm_183) (cus := []) pOk pg_183 (by decide +kernel) ⟨_, _, _, _, (pS_cons ok_1 (pS_cons ok_2 (pS_cons ok_3 (pS_cons ok_4 (pS_cons ok_5 (pS_cons ok_6 (pS_cons ok_7 (pS_cons ok_8 (pS_cons ok_9 (pS_cons ok_10 (pS_cons ok_74 (pS_cons ok_76 (pS_cons ok_79 (pS_cons ok_82 (pS_cons ok_85 (pS_cons ok_87 (pS_cons ok_88 (pS_cons ok_89 (pS_cons ok_90 (pS_cons ok_91 (pS_nil))))))))))))))))))))), pV_nil, e_92⟩ pU_nil
def pQ_93 (u : sCu) : Prop := ∃ (SM : List sIn) (H : gHt) (cu : List sCu) (n : Nat), (∀ I ∈ SM, sInOk pPT I) ∧ (∀ v ∈ cu, v ∈ us_93) ∧ sWhU pPT SM H i_93 (mR pm_176) cu n u = true
theorem q_93_0 : pQ_93 u_93_0 := ⟨_, _, _, _, (pS_nil), (pV_nil), f_93_0⟩
theorem q_93_1 : pQ_93 u_93_1 := ⟨_, _, _, _, (pS_cons ok_22 (pS_nil)), (pV_nil), f_93_1⟩
theorem qb_93_0 : ∀ u ∈ [u_93_0, u_93_1], pQ_93 u := pU_cons q_93_0 (pU_cons q_93_1 (pU_nil))
theorem ok_93 : sInOk pPT i_93 := sInst3 (M := pm_176) (cus := us_93) pOk pg_176 (by decide +kernel) ⟨_, _, _, _, (pS_cons ok_1 (pS_cons ok_22 (pS_cons ok_77 (pS_cons ok_78 (pS_nil))))), (pV_cons (List.mem_of_getElem? (i := 0) rfl) (pV_cons (List.mem_of_getElem? (i := 1) rfl) (pV_nil))), e_93⟩ (show ∀ u ∈ us_93, pQ_93 u from qb_93_0)
theorem ok_94 : sInOk pPT i_94 := sInst3 (M := pm_181) (cus := []) pOk pg_181 (by decide +kernel) ⟨_, _, _, _, (pS_cons ok_1 (pS_cons ok_22 (pS_cons ok_77 (pS_cons ok_80 (pS_cons ok_81 (pS_nil)))))), pV_nil, e_94⟩ pU_nil
def pQ_95 (u : sCu) : Prop := ∃ (SM : List sIn) (H : gHt) (cu : List sCu) (n : Nat), (∀ I ∈ SM, sInOk pPT I) ∧ (∀ v ∈ cu, v ∈ us_95) ∧ sWhU pPT SM H i_95 (mR pm_177) cu n u = true
theorem q_95_0 : pQ_95 u_95_0 := ⟨_, _, _, _, (pS_nil), (pV_nil), f_95_0⟩
theorem q_95_1 : pQ_95 u_95_1 := ⟨_, _, _, _, (pS_cons ok_22 (pS_cons ok_84 (pS_nil))), (pV_nil), f_95_1⟩
theorem qb_95_0 : ∀ u ∈ [u_95_0, u_95_1], pQ_95 u := pU_cons q_95_0 (pU_cons q_95_1 (pU_nil))
theorem ok_95 : sInOk pPT i_95 := sInst3 (M := pm_177) (cus := us_95) pOk pg_177 (by decide +kernel) ⟨_, _, _, _, (pS_cons ok_1 (pS_cons ok_22 (pS_cons ok_77 (pS_cons ok_83 (pS_nil))))), (pV_cons (List.mem_of_getElem? (i := 0) rfl) (pV_cons (List.mem_of_getElem? (i := 1) rfl) (pV_nil))), e_95⟩ (show ∀ u ∈ us_95, pQ_95 u from qb_95_0)
theorem ok_96 : sInOk pPT i_96 := sInst3 (M := pm_173) (cus := []) pOk pg_173 (by decide +kernel) ⟨_, _, _, _, (pS_cons ok_1 (pS_cons ok_22 (pS_cons ok_81 (pS_cons ok_86 (pS_nil))))), pV_nil, e_96⟩ pU_nil
theorem ok_97 : sInOk pPT i_97 := sInst3 (M := pm_173) (cus := []) pOk pg_173 (by decide +kernel) ⟨_, _, _, _, (pS_cons ok_1 (pS_cons ok_22 (pS_cons ok_81 (pS_cons ok_86 (pS_nil))))), pV_nil, e_97⟩ pU_nil
theorem ok_98 : sInOk pPT i_98 := sInst3 (M := pm_173) (cus := []) pOk pg_173 (by decide +kernel) ⟨_, _, _, _, (pS_cons ok_1 (pS_cons ok_22 (pS_cons ok_81 (pS_cons ok_86 (pS_nil))))), pV_nil, e_98⟩ pU_nil
theorem ok_99 : sInOk pPT i_99 := sInst3 (M := pm_173) (cus := []) pOk pg_173 (by decide +kernel) ⟨_, _, _, _, (pS_cons ok_1 (pS_cons ok_22 (pS_cons ok_81 (pS_cons ok_86 (pS_nil))))), pV_nil, e_99⟩ pU_nil
theorem ok_100 : sInOk pPT i_100 := sInst3 (M := pm_173) (cus := []) pOk pg_173 (by decide +kernel) ⟨_, _, _, _, (pS_cons ok_1 (pS_cons ok_22 (pS_cons ok_81 (pS_cons ok_86 (pS_nil))))), pV_nil, e_100⟩ pU_nil
theorem ok_101 : sInOk pPT i_101 := sInst3 (M := pm_183) (cus := []) pOk pg_183 (by decide +kernel) ⟨_, _, _, _, (pS_cons ok_2 (pS_cons ok_3 (pS_cons ok_4 (pS_cons ok_5 (pS_cons ok_6 (pS_cons ok_7 (pS_cons ok_8 (pS_cons ok_9 (pS_cons ok_10 (pS_cons ok_76 (pS_cons ok_93 (pS_cons ok_94 (pS_cons ok_95 (pS_cons ok_96 (pS_cons ok_97 (pS_cons ok_98 (pS_cons ok_99 (pS_cons ok_100 (pS_nil))))))))))))))))))), pV_nil, e_101⟩ pU_nil
def pQ_102 (u : sCu) : Prop := ∃ (SM : List sIn) (H : gHt) (cu : List sCu) (n : Nat), (∀ I ∈ SM, sInOk pPT I) ∧ (∀ v ∈ cu, v ∈ us_102) ∧ sWhU pPT SM H i_102 (mR pm_172) cu n u = true
theorem q_102_0 : pQ_102 u_102_0 := ⟨_, _, _, _, (pS_cons ok_1 (pS_nil)), (pV_cons (List.mem_of_getElem? (i := 1) rfl) (pV_nil)), f_102_0⟩
theorem q_102_1 : pQ_102 u_102_1 := ⟨_, _, _, _, (pS_cons ok_92 (pS_nil)), (pV_cons (List.mem_of_getElem? (i := 2) rfl) (pV_cons (List.mem_of_getElem? (i := 3) rfl) (pV_cons (List.mem_of_getElem? (i := 4) rfl) (pV_nil)))), f_102_1⟩
theorem q_102_2 : pQ_102 u_102_2 := ⟨_, _, _, _, (pS_nil), (pV_nil), f_102_2⟩
theorem q_102_3 : pQ_102 u_102_3 := ⟨_, _, _, _, (pS_cons ok_101 (pS_nil)), (pV_cons (List.mem_of_getElem? (i := 5) rfl) (pV_cons (List.mem_of_getElem? (i := 3) rfl) (pV_nil))), f_102_3⟩
theorem q_102_4 : pQ_102 u_102_4 := ⟨_, _, _, _, (pS_cons ok_92 (pS_nil)), (pV_cons (List.mem_of_getElem? (i := 2) rfl) (pV_cons (List.mem_of_getElem? (i := 3) rfl) (pV_cons (List.mem_of_getElem? (i := 4) rfl) (pV_nil)))), f_102_4⟩
theorem q_102_5 : pQ_102 u_102_5 := ⟨_, _, _, _, (pS_nil), (pV_nil), f_102_5⟩
theorem qb_102_0 : ∀ u ∈ [u_102_0, u_102_1, u_102_2, u_102_3, u_102_4, u_102_5], pQ_102 u := pU_cons q_102_0 (pU_cons q_102_1 (pU_cons q_102_2 (pU_cons q_102_3 (pU_cons q_102_4 (pU_cons q_102_5 (pU_nil))))))
theorem ok_102 : sInOk pPT i_102 := sInst3 (M := pm_172) (cus := us_102) pOk pg_172 (by decide +kernel) ⟨_, _, _, _, (pS_nil), (pV_cons (List.mem_of_getElem? (i := 0) rfl) (pV_nil)), e_102⟩ (show ∀ u ∈ us_102, pQ_102 u from qb_102_0)
def pQ_103 (u : sCu) : Prop := ∃ (SM : List sIn) (H : gHt) (cu : List sCu) (n : Nat), (∀ I ∈ SM, sInOk pPT I) ∧ (∀ v ∈ cu, v ∈ us_103) ∧ sWhU pPT SM H i_103 (mR pm_146) cu n u = true
theorem q_103_0 : pQ_103 u_103_0 := ⟨_, _, _, _, (pS_nil), (pV_cons (List.mem_of_getElem? (i := 1) rfl) (pV_cons (List.mem_of_getElem? (i := 0) rfl) (pV_nil))), f_103_0⟩
theorem q_103_1 : pQ_103 u_103_1 := ⟨_, _, _, _, (pS_nil), (pV_cons (List.mem_of_getElem? (i := 2) rfl) (pV_cons (List.mem_of_getElem? (i := 3) rfl) (pV_nil))), f_103_1⟩
theorem q_103_2 : pQ_103 u_103_2 := ⟨_, _, _, _, (pS_nil), (pV_cons (List.mem_of_getElem? (i := 1) rfl) (pV_nil)), f_103_2⟩
theorem q_103_3 : pQ_103 u_103_3 := ⟨_, _, _, _, (pS_nil), (pV_cons (List.mem_of_getElem? (i := 2) rfl) (pV_nil)), f_103_3⟩
theorem qb_103_0 : ∀ u ∈ [u_103_0, u_103_1, u_103_2, u_103_3], pQ_103 u := pU_cons q_103_0 (pU_cons q_103_1 (pU_cons q_103_2 (pU_cons q_103_3 (pU_nil))))
theorem ok_103 : sInOk pPT i_103 := sInst3 (M := pm_146) (cus := us_103) pOk pg_146 (by decide +kernel) ⟨_, _, _, _, (pS_nil), (pV_cons (List.mem_of_getElem? (i := 0) rfl) (pV_nil)), e_103⟩ (show ∀ u ∈ us_103, pQ_103 u from qb_103_0)
def pQ_104 (u : sCu) : Prop := ∃ (SM : List sIn) (H : gHt) (cu : List sCu) (n : Nat), (∀ I ∈ SM, sInOk pPT I) ∧ (∀ v ∈ cu, v ∈ us_104) ∧ sWhU pPT SM H i_104 (mR pm_134) cu n u = true
theorem q_104_0 : pQ_104 u_104_0 := ⟨_, _, _, _, (pS_nil), (pV_cons (List.mem_of_getElem? (i := 1) rfl) (pV_cons (List.mem_of_getElem? (i := 2) rfl) (pV_nil))), f_104_0⟩
theorem q_104_1 : pQ_104 u_104_1 := ⟨_, _, _, _, (pS_nil), (pV_cons (List.mem_of_getElem? (i := 0) rfl) (pV_nil)), f_104_1⟩
theorem q_104_2 : pQ_104 u_104_2 := ⟨_, _, _, _, (pS_nil), (pV_cons (List.mem_of_getElem? (i := 1) rfl) (pV_nil)), f_104_2⟩
theorem qb_104_0 : ∀ u ∈ [u_104_0, u_104_1, u_104_2], pQ_104 u := pU_cons q_104_0 (pU_cons q_104_1 (pU_cons q_104_2 (pU_nil)))
theorem ok_104 : sInOk pPT i_104 := sInst3 (M := pm_134) (cus := us_104) pOk pg_134 (by decide +kernel) ⟨_, _, _, _, (pS_nil), (pV_cons (List.mem_of_getElem? (i := 0) rfl) (pV_nil)), e_104⟩ (show ∀ u ∈ us_104, pQ_104 u from qb_104_0)
def pQ_105 (u : sCu) : Prop := ∃ (SM : List sIn) (H : gHt) (cu : List sCu) (n : Nat), (∀ I ∈ SM, sInOk pPT I) ∧ (∀ v ∈ cu, v ∈ us_105) ∧ sWhU pPT SM H i_105 (mR pm_193) cu n u = true
theorem q_105_0 : pQ_105 u_105_0 := ⟨_, _, _, _, (pS_nil), (pV_cons (List.mem_of_getElem? (i := 1) rfl) (pV_cons (List.mem_of_getElem? (i := 4) rfl) (pV_cons (List.mem_of_getElem? (i := 5) rfl) (pV_cons (List.mem_of_getElem? (i := 6) rfl) (pV_cons (List.mem_of_getElem? (i := 7) rfl) (pV_cons (List.mem_of_getElem? (i := 8) rfl) (pV_cons (List.mem_of_getElem? (i := 9) rfl) (pV_cons (List.mem_of_getElem? (i := 10) rfl) (pV_cons (List.mem_of_getElem? (i := 3) rfl) (pV_cons (List.mem_of_getElem? (i := 2) rfl) (pV_nil))))))))))), f_105_0⟩
theorem q_105_1 : pQ_105 u_105_1 := ⟨_, _, _, _, (pS_nil), (pV_cons (List.mem_of_getElem? (i := 0) rfl) (pV_nil)), f_105_1⟩
theorem q_105_2 : pQ_105 u_105_2 := ⟨_, _, _, _, (pS_nil), (pV_cons (List.mem_of_getElem? (i := 1) rfl) (pV_nil)), f_105_2⟩
theorem q_105_3 : pQ_105 u_105_3 := ⟨_, _, _, _, (pS_nil), (pV_cons (List.mem_of_getElem? (i := 1) rfl) (pV_nil)), f_105_3⟩
theorem q_105_4 : pQ_105 u_105_4 := ⟨_, _, _, _, (pS_nil), (pV_cons (List.mem_of_getElem? (i := 1) rfl) (pV_nil)), f_105_4⟩
theorem q_105_5 : pQ_105 u_105_5 := ⟨_, _, _, _, (pS_nil), (pV_cons (List.mem_of_getElem? (i := 1) rfl) (pV_nil)), f_105_5⟩
theorem q_105_6 : pQ_105 u_105_6 := ⟨_, _, _, _, (pS_nil), (pV_cons (List.mem_of_getElem? (i := 1) rfl) (pV_nil)), f_105_6⟩
theorem q_105_7 : pQ_105 u_105_7 := ⟨_, _, _, _, (pS_nil), (pV_cons (List.mem_of_getElem? (i := 8) rfl) (pV_nil)), f_105_7⟩
theorem q_105_8 : pQ_105 u_105_8 := ⟨_, _, _, _, (pS_nil), (pV_cons (List.mem_of_getElem? (i := 1) rfl) (pV_nil)), f_105_8⟩
theorem q_105_9 : pQ_105 u_105_9 := ⟨_, _, _, _, (pS_nil), (pV_cons (List.mem_of_getElem? (i := 10) rfl) (pV_nil)), f_105_9⟩
theorem q_105_10 : pQ_105 u_105_10 := ⟨_, _, _, _, (pS_nil), (pV_cons (List.mem_of_getElem? (i := 1) rfl) (pV_nil)), f_105_10⟩
theorem qb_105_0 : ∀ u ∈ [u_105_0, u_105_1, u_105_2, u_105_3, u_105_4, u_105_5, u_105_6, u_105_7, u_105_8, u_105_9], pQ_105 u := pU_cons q_105_0 (pU_cons q_105_1 (pU_cons q_105_2 (pU_cons q_105_3 (pU_cons q_105_4 (pU_cons q_105_5 (pU_cons q_105_6 (pU_cons q_105_7 (pU_cons q_105_8 (pU_cons q_105_9 (pU_nil))))))))))
theorem qb_105_1 : ∀ u ∈ [u_105_10], pQ_105 u := pU_cons q_105_10 (pU_nil)
theorem ok_105 : sInOk pPT i_105 := sInst3 (M := pm_193) (cus := us_105) pOk pg_193 (by decide +kernel) ⟨_, _, _, _, (pS_nil), (pV_cons (List.mem_of_getElem? (i := 0) rfl) (pV_nil)), e_105⟩ (show ∀ u ∈ us_105, pQ_105 u from (pU_app qb_105_0 qb_105_1))
def pQ_106 (u : sCu) : Prop := ∃ (SM : List sIn) (H : gHt) (cu : List sCu) (n : Nat), (∀ I ∈ SM, sInOk pPT I) ∧ (∀ v ∈ cu, v ∈ us_106) ∧ sWhU pPT SM H i_106 (mR pm_152) cu n u = true
theorem q_106_0 : pQ_106 u_106_0 := ⟨_, _, _, _, (pS_nil), (pV_cons (List.mem_of_getElem? (i := 2) rfl) (pV_nil)), f_106_0⟩
theorem q_106_1 : pQ_106 u_106_1 := ⟨_, _, _, _, (pS_nil), (pV_cons (List.mem_of_getElem? (i := 0) rfl) (pV_nil)), f_106_1⟩
theorem q_106_2 : pQ_106 u_106_2 := ⟨_, _, _, _, (pS_nil), (pV_cons (List.mem_of_getElem? (i := 4) rfl) (pV_cons (List.mem_of_getElem? (i := 3) rfl) (pV_nil))), f_106_2⟩
theorem q_106_3 : pQ_106 u_106_3 := ⟨_, _, _, _, (pS_nil), (pV_cons (List.mem_of_getElem? (i := 5) rfl) (pV_nil)), f_106_3⟩
theorem q_106_4 : pQ_106 u_106_4 := ⟨_, _, _, _, (pS_nil), (pV_cons (List.mem_of_getElem? (i := 3) rfl) (pV_nil)), f_106_4⟩
theorem q_106_5 : pQ_106 u_106_5 := ⟨_, _, _, _, (pS_nil), (pV_cons (List.mem_of_getElem? (i := 6) rfl) (pV_nil)), f_106_5⟩
theorem q_106_6 : pQ_106 u_106_6 := ⟨_, _, _, _, (pS_cons ok_105 (pS_nil)), (pV_nil), f_106_6⟩
theorem qb_106_0 : ∀ u ∈ [u_106_0, u_106_1, u_106_2, u_106_3, u_106_4, u_106_5, u_106_6], pQ_106 u := pU_cons q_106_0 (pU_cons q_106_1 (pU_cons q_106_2 (pU_cons q_106_3 (pU_cons q_106_4 (pU_cons q_106_5 (pU_cons q_106_6 (pU_nil)))))))
theorem ok_106 : sInOk pPT i_106 := sInst3 (M := pm_152) (cus := us_106) pOk pg_152 (by decide +kernel) ⟨_, _, _, _, (pS_nil), (pV_cons (List.mem_of_getElem? (i := 0) rfl) (pV_cons (List.mem_of_getElem? (i := 1) rfl) (pV_nil))), e_106⟩ (show ∀ u ∈ us_106, pQ_106 u from qb_106_0)
def pQ_107 (u : sCu) : Prop := ∃ (SM : List sIn) (H : gHt) (cu : List sCu) (n : Nat), (∀ I ∈ SM, sInOk pPT I) ∧ (∀ v ∈ cu, v ∈ us_107) ∧ sWhU pPT SM H i_107 (mR pm_149) cu n u = true
theorem q_107_0 : pQ_107 u_107_0 := ⟨_, _, _, _, (pS_nil), (pV_cons (List.mem_of_getElem? (i := 1) rfl) (pV_nil)), f_107_0⟩
theorem q_107_1 : pQ_107 u_107_1 := ⟨_, _, _, _, (pS_nil), (pV_cons (List.mem_of_getElem? (i := 2) rfl) (pV_cons (List.mem_of_getElem? (i := 3) rfl) (pV_nil))), f_107_1⟩
theorem q_107_2 : pQ_107 u_107_2 := ⟨_, _, _, _, (pS_nil), (pV_cons (List.mem_of_getElem? (i := 3) rfl) (pV_nil)), f_107_2⟩
theorem q_107_3 : pQ_107 u_107_3 := ⟨_, _, _, _, (pS_nil), (pV_cons (List.mem_of_getElem? (i := 4) rfl) (pV_nil)), f_107_3⟩
theorem q_107_4 : pQ_107 u_107_4 := ⟨_, _, _, _, (pS_cons ok_106 (pS_nil)), (pV_nil), f_107_4⟩
theorem qb_107_0 : ∀ u ∈ [u_107_0, u_107_1, u_107_2, u_107_3, u_107_4], pQ_107 u := pU_cons q_107_0 (pU_cons q_107_1 (pU_cons q_107_2 (pU_cons q_107_3 (pU_cons q_107_4 (pU_nil)))))
theorem ok_107 : sInOk pPT i_107 := sInst3 (M := pm_149) (cus := us_107) pOk pg_149 (by decide +kernel) ⟨_, _, _, _, (pS_nil), (pV_cons (List.mem_of_getElem? (i := 0) rfl) (pV_cons (List.mem_of_getElem? (i := 1) rfl) (pV_nil))), e_107⟩ (show ∀ u ∈ us_107, pQ_107 u from qb_107_0)
def pQ_108 (u : sCu) : Prop := ∃ (SM : List sIn) (H : gHt) (cu : List sCu) (n : Nat), (∀ I ∈ SM, sInOk pPT I) ∧ (∀ v ∈ cu, v ∈ us_108) ∧ sWhU pPT SM H i_108 (mR pm_148) cu n u = true
theorem q_108_0 : pQ_108 u_108_0 := ⟨_, _, _, _, (pS_cons ok_107 (pS_nil)), (pV_cons (List.mem_of_getElem? (i := 1) rfl) (pV_nil)), f_108_0⟩
theorem q_108_1 : pQ_108 u_108_1 := ⟨_, _, _, _, (pS_nil), (pV_cons (List.mem_of_getElem? (i := 0) rfl) (pV_nil)), f_108_1⟩
theorem qb_108_0 : ∀ u ∈ [u_108_0, u_108_1], pQ_108 u := pU_cons q_108_0 (pU_cons q_108_1 (pU_nil))
theorem ok_108 : sInOk pPT i_108 := sInst3 (M := pm_148) (cus := us_108) pOk pg_148 (by decide +kernel) ⟨_, _, _, _, (pS_nil), (pV_cons (List.mem_of_getElem? (i := 0) rfl) (pV_nil)), e_108⟩ (show ∀ u ∈ us_108, pQ_108 u from qb_108_0)
def pQ_109 (u : sCu) : Prop := ∃ (SM : List sIn) (H : gHt) (cu : List sCu) (n : Nat), (∀ I ∈ SM, sInOk pPT I) ∧ (∀ v ∈ cu, v ∈ us_109) ∧ sWhU pPT SM H i_109 (mR pm_144) cu n u = true
theorem q_109_0 : pQ_109 u_109_0 := ⟨_, _, _, _, (pS_cons ok_104 (pS_cons ok_108 (pS_nil))), (pV_cons (List.mem_of_getElem? (i := 1) rfl) (pV_nil)), f_109_0⟩
theorem q_109_1 : pQ_109 u_109_1 := ⟨_, _, _, _, (pS_nil), (pV_cons (List.mem_of_getElem? (i := 0) rfl) (pV_nil)), f_109_1⟩
theorem qb_109_0 : ∀ u ∈ [u_109_0, u_109_1], pQ_109 u := pU_cons q_109_0 (pU_cons q_109_1 (pU_nil))
theorem ok_109 : sInOk pPT i_109 := sInst3 (M := pm_144) (cus := us_109) pOk pg_144 (by decide +kernel) ⟨_, _, _, _, (pS_cons ok_103 (pS_nil)), (pV_cons (List.mem_of_getElem? (i := 0) rfl) (pV_nil)), e_109⟩ (show ∀ u ∈ us_109, pQ_109 u from qb_109_0)
def pQ_110 (u : sCu) : Prop := ∃ (SM : List sIn) (H : gHt) (cu : List sCu) (n : Nat), (∀ I ∈ SM, sInOk pPT I) ∧ (∀ v ∈ cu, v ∈ us_110) ∧ sWhU pPT SM H i_110 (mR pm_145) cu n u = true
theorem q_110_0 : pQ_110 u_110_0 := ⟨_, _, _, _, (pS_cons ok_109 (pS_nil)), (pV_cons (List.mem_of_getElem? (i := 0) rfl) (pV_nil)), f_110_0⟩
theorem qb_110_0 : ∀ u ∈ [u_110_0], pQ_110 u := pU_cons q_110_0 (pU_nil)
theorem ok_110 : sInOk pPT i_110 := sInst3 (M := pm_145) (cus := us_110) pOk pg_145 (by decide +kernel) ⟨_, _, _, _, (pS_nil), (pV_cons (List.mem_of_getElem? (i := 0) rfl) (pV_nil)), e_110⟩ (show ∀ u ∈ us_110, pQ_110 u from qb_110_0)
theorem ok_111 : sInOk pPT i_111 := sInst3 (M := pm_258) (cus := []) pOk pg_258 (by decide +kernel) ⟨_, _, _, _, (pS_cons ok_102 (pS_cons ok_110 (pS_nil))), pV_nil, e_111⟩ pU_nil
theorem ok_112 : sInOk pPT i_112 := sInst3 (M := pm_15) (cus := []) pOk pg_15 (by decide +kernel) ⟨_, _, _, _, (pS_cons ok_111 (pS_nil)), pV_nil, e_112⟩ pU_nil
def pQ_113 (u : sCu) : Prop := ∃ (SM : List sIn) (H : gHt) (cu : List sCu) (n : Nat), (∀ I ∈ SM, sInOk pPT I) ∧ (∀ v ∈ cu, v ∈ us_113) ∧ sWhU pPT SM H i_113 (mR pm_110) cu n u = true
theorem q_113_0 : pQ_113 u_113_0 := ⟨_, _, _, _, (pS_nil), (pV_nil), f_113_0⟩
theorem q_113_1 : pQ_113 u_113_1 := ⟨_, _, _, _, (pS_nil), (pV_cons (List.mem_of_getElem? (i := 6) rfl) (pV_nil)), f_113_1⟩
theorem q_113_2 : pQ_113 u_113_2 := ⟨_, _, _, _, (pS_nil), (pV_cons (List.mem_of_getElem? (i := 0) rfl) (pV_nil)), f_113_2⟩
theorem q_113_3 : pQ_113 u_113_3 := ⟨_, _, _, _, (pS_nil), (pV_cons (List.mem_of_getElem? (i := 0) rfl) (pV_nil)), f_113_3⟩
theorem q_113_4 : pQ_113 u_113_4 := ⟨_, _, _, _, (pS_nil), (pV_cons (List.mem_of_getElem? (i := 7) rfl) (pV_nil)), f_113_4⟩
theorem q_113_5 : pQ_113 u_113_5 := ⟨_, _, _, _, (pS_nil), (pV_cons (List.mem_of_getElem? (i := 8) rfl) (pV_nil)), f_113_5⟩
theorem q_113_6 : pQ_113 u_113_6 := ⟨_, _, _, _, (pS_nil), (pV_cons (List.mem_of_getElem? (i := 0) rfl) (pV_cons (List.mem_of_getElem? (i := 1) rfl) (pV_cons (List.mem_of_getElem? (i := 2) rfl) (pV_cons (List.mem_of_getElem? (i := 3) rfl) (pV_cons (List.mem_of_getElem? (i := 4) rfl) (pV_cons (List.mem_of_getElem? (i := 5) rfl) (pV_nil))))))), f_113_6⟩
theorem q_113_7 : pQ_113 u_113_7 := ⟨_, _, _, _, (pS_nil), (pV_cons (List.mem_of_getElem? (i := 0) rfl) (pV_cons (List.mem_of_getElem? (i := 7) rfl) (pV_nil))), f_113_7⟩
theorem q_113_8 : pQ_113 u_113_8 := ⟨_, _, _, _, (pS_nil), (pV_cons (List.mem_of_getElem? (i := 0) rfl) (pV_cons (List.mem_of_getElem? (i := 8) rfl) (pV_nil))), f_113_8⟩
theorem qb_113_0 : ∀ u ∈ [u_113_0, u_113_1, u_113_2, u_113_3, u_113_4, u_113_5, u_113_6, u_113_7, u_113_8], pQ_113 u := pU_cons q_113_0 (pU_cons q_113_1 (pU_cons q_113_2 (pU_cons q_113_3 (pU_cons q_113_4 (pU_cons q_113_5 (pU_cons q_113_6 (pU_cons q_113_7 (pU_cons q_113_8 (pU_nil)))))))))
theorem ok_113 : sInOk pPT i_113 := sInst3 (M := pm_110) (cus := us_113) pOk pg_110 (by decide +kernel) ⟨_, _, _, _, (pS_nil), (pV_cons (List.mem_of_getElem? (i := 0) rfl) (pV_cons (List.mem_of_getElem? (i := 1) rfl) (pV_cons (List.mem_of_getElem? (i := 2) rfl) (pV_cons (List.mem_of_getElem? (i := 3) rfl) (pV_cons (List.mem_of_getElem? (i := 4) rfl) (pV_cons (List.mem_of_getElem? (i := 5) rfl) (pV_nil))))))), e_113⟩ (show ∀ u ∈ us_113, pQ_113 u from qb_113_0)
theorem ok_114 : sInOk pPT i_114 := sInst3 (M := pm_58) (cus := []) pOk pg_58 (by decide +kernel) ⟨_, _, _, _, (pS_nil), pV_nil, e_114⟩ pU_nil
theorem ok_115 : sInOk pPT i_115 := sInst3 (M := pm_58) (cus := []) pOk pg_58 (by decide +kernel) ⟨_, _, _, _, (pS_nil), pV_nil, e_115⟩ pU_nil
theorem ok_116 : sInOk pPT i_116 := sInst3 (M := pm_58) (cus := []) pOk pg_58 (by decide +kernel) ⟨_, _, _, _, (pS_nil), pV_nil, e_116⟩ pU_nil
theorem ok_117 : sInOk pPT i_117 := sInst3 (M := pm_58) (cus := []) pOk pg_58 (by decide +kernel) ⟨_, _, _, _, (pS_nil), pV_nil, e_117⟩ pU_nil
theorem ok_118 : sInOk pPT i_118 := sInst3 (M := pm_58) (cus := []) pOk pg_58 (by decide +kernel) ⟨_, _, _, _, (pS_nil), pV_nil, e_118⟩ pU_nil
theorem ok_119 : sInOk pPT i_119 := sInst3 (M := pm_125) (cus := []) pOk pg_125 (by decide +kernel) ⟨_, _, _, _, (pS_cons ok_114 (pS_cons ok_115 (pS_cons ok_116 (pS_cons ok_117 (pS_cons ok_118 (pS_nil)))))), pV_nil, e_119⟩ pU_nil
theorem ok_120 : sInOk pPT i_120 := sInst3 (M := pm_58) (cus := []) pOk pg_58 (by decide +kernel) ⟨_, _, _, _, (pS_nil), pV_nil, e_120⟩ pU_nil
theorem ok_121 : sInOk pPT i_121 := sInst3 (M := pm_58) (cus := []) pOk pg_58 (by decide +kernel) ⟨_, _, _, _, (pS_nil), pV_nil, e_121⟩ pU_nil
theorem ok_122 : sInOk pPT i_122 := sInst3 (M := pm_58) (cus := []) pOk pg_58 (by decide +kernel) ⟨_, _, _, _, (pS_nil), pV_nil, e_122⟩ pU_nil
theorem ok_123 : sInOk pPT i_123 := sInst3 (M := pm_58) (cus := []) pOk pg_58 (by decide +kernel) ⟨_, _, _, _, (pS_nil), pV_nil, e_123⟩ pU_nil
def pQ_124 (u : sCu) : Prop := ∃ (SM : List sIn) (H : gHt) (cu : List sCu) (n : Nat), (∀ I ∈ SM, sInOk pPT I) ∧ (∀ v ∈ cu, v ∈ us_124) ∧ sWhU pPT SM H i_124 (mR pm_30) cu n u = true
theorem q_124_0 : pQ_124 u_124_0 := ⟨_, _, _, _, (pS_cons ok_113 (pS_nil)), (pV_nil), f_124_0⟩
theorem q_124_1 : pQ_124 u_124_1 := ⟨_, _, _, _, (pS_nil), (pV_nil), f_124_1⟩
theorem qb_124_0 : ∀ u ∈ [u_124_0, u_124_1], pQ_124 u := pU_cons q_124_0 (pU_cons q_124_1 (pU_nil))
theorem ok_124 : sInOk pPT i_124 := sInst3 (M := pm_30) (cus := us_124) pOk pg_30 (by decide +kernel) ⟨_, _, _, _, (pS_nil), (pV_cons (List.mem_of_getElem? (i := 0) rfl) (pV_cons (List.mem_of_getElem? (i := 1) rfl) (pV_nil))), e_124⟩ (show ∀ u ∈ us_124, pQ_124 u from qb_124_0)
def pQ_125 (u : sCu) : Prop := ∃ (SM : List sIn) (H : gHt) (cu : List sCu) (n : Nat), (∀ I ∈ SM, sInOk pPT I) ∧ (∀ v ∈ cu, v ∈ us_125) ∧ sWhU pPT SM H i_125 (mR pm_84) cu n u = true
theorem q_125_0 : pQ_125 u_125_0 := ⟨_, _, _, _, (pS_nil), (pV_cons (List.mem_of_getElem? (i := 2) rfl) (pV_nil)), f_125_0⟩
theorem q_125_1 : pQ_125 u_125_1 := ⟨_, _, _, _, (pS_nil), (pV_nil), f_125_1⟩
theorem q_125_2 : pQ_125 u_125_2 := ⟨_, _, _, _, (pS_nil), (pV_nil), f_125_2⟩
theorem qb_125_0 : ∀ u ∈ [u_125_0, u_125_1, u_125_2], pQ_125 u := pU_cons q_125_0 (pU_cons q_125_1 (pU_cons q_125_2 (pU_nil)))
theorem ok_125 : sInOk pPT i_125 := sInst3 (M := pm_84) (cus := us_125) pOk pg_84 (by decide +kernel) ⟨_, _, _, _, (pS_nil), (pV_cons (List.mem_of_getElem? (i := 0) rfl) (pV_cons (List.mem_of_getElem? (i := 1) rfl) (pV_cons (List.mem_of_getElem? (i := 2) rfl) (pV_nil)))), e_125⟩ (show ∀ u ∈ us_125, pQ_125 u from qb_125_0)
def pQ_126 (u : sCu) : Prop := ∃ (SM : List sIn) (H : gHt) (cu : List sCu) (n : Nat), (∀ I ∈ SM, sInOk pPT I) ∧ (∀ v ∈ cu, v ∈ us_126) ∧ sWhU pPT SM H i_126 (mR pm_29) cu n u = true
theorem q_126_0 : pQ_126 u_126_0 := ⟨_, _, _, _, (pS_nil), (pV_nil), f_126_0⟩
theorem q_126_1 : pQ_126 u_126_1 := ⟨_, _, _, _, (pS_nil), (pV_nil), f_126_1⟩
theorem qb_126_0 : ∀ u ∈ [u_126_0, u_126_1], pQ_126 u := pU_cons q_126_0 (pU_cons q_126_1 (pU_nil))
theorem ok_126 : sInOk pPT i_126 := sInst3 (M := pm_29) (cus := us_126) pOk pg_29 (by decide +kernel) ⟨_, _, _, _, (pS_cons ok_125 (pS_nil)), (pV_cons (List.mem_of_getElem? (i := 0) rfl) (pV_cons (List.mem_of_getElem? (i := 1) rfl) (pV_nil))), e_126⟩ (show ∀ u ∈ us_126, pQ_126 u from qb_126_0)
def pQ_127 (u : sCu) : Prop := ∃ (SM : List sIn) (H : gHt) (cu : List sCu) (n : Nat), (∀ I ∈ SM, sInOk pPT I) ∧ (∀ v ∈ cu, v ∈ us_127) ∧ sWhU pPT SM H i_127 (mR pm_90) cu n u = true
theorem q_127_0 : pQ_127 u_127_0 := ⟨_, _, _, _, (pS_nil), (pV_nil), f_127_0⟩
theorem q_127_1 : pQ_127 u_127_1 := ⟨_, _, _, _, (pS_nil), (pV_nil), f_127_1⟩
theorem qb_127_0 : ∀ u ∈ [u_127_0, u_127_1], pQ_127 u := pU_cons q_127_0 (pU_cons q_127_1 (pU_nil))
theorem ok_127 : sInOk pPT i_127 := sInst3 (M := pm_90) (cus := us_127) pOk pg_90 (by decide +kernel) ⟨_, _, _, _, (pS_cons ok_113 (pS_cons ok_126 (pS_nil))), (pV_cons (List.mem_of_getElem? (i := 0) rfl) (pV_cons (List.mem_of_getElem? (i := 1) rfl) (pV_nil))), e_127⟩ (show ∀ u ∈ us_127, pQ_127 u from qb_127_0)
theorem ok_128 : sInOk pPT i_128 := sInst3 (M := pm_84) (cus := []) pOk pg_84 (by decide +kernel) ⟨_, _, _, _, (pS_nil), pV_nil, e_128⟩ pU_nil
def pQ_129 (u : sCu) : Prop := ∃ (SM : List sIn) (H : gHt) (cu : List sCu) (n : Nat), (∀ I ∈ SM, sInOk pPT I) ∧ (∀ v ∈ cu, v ∈ us_129) ∧ sWhU pPT SM H i_129 (mR pm_29) cu n u = true
theorem q_129_0 : pQ_129 u_129_0 := ⟨_, _, _, _, (pS_nil), (pV_nil), f_129_0⟩
theorem qb_129_0 : ∀ u ∈ [u_129_0], pQ_129 u := pU_cons q_129_0 (pU_nil)
theorem ok_129 : sInOk pPT i_129 := sInst3 (M := pm_29) (cus := us_129) pOk pg_29 (by decide +kernel) ⟨_, _, _, _, (pS_cons ok_128 (pS_nil)), (pV_cons (List.mem_of_getElem? (i := 0) rfl) (pV_nil)), e_129⟩ (show ∀ u ∈ us_129, pQ_129 u from qb_129_0)
def pQ_130 (u : sCu) : Prop := ∃ (SM : List sIn) (H : gHt) (cu : List sCu) (n : Nat), (∀ I ∈ SM, sInOk pPT I) ∧ (∀ v ∈ cu, v ∈ us_130) ∧ sWhU pPT SM H i_130 (mR pm_104) cu n u = true
theorem q_130_0 : pQ_130 u_130_0 := ⟨_, _, _, _, (pS_nil), (pV_cons (List.mem_of_getElem? (i := 4) rfl) (pV_cons (List.mem_of_getElem? (i := 0) rfl) (pV_cons (List.mem_of_getElem? (i := 1) rfl) (pV_nil)))), f_130_0⟩
theorem q_130_1 : pQ_130 u_130_1 := ⟨_, _, _, _, (pS_nil), (pV_cons (List.mem_of_getElem? (i := 5) rfl) (pV_cons (List.mem_of_getElem? (i := 1) rfl) (pV_nil))), f_130_1⟩
theorem q_130_2 : pQ_130 u_130_2 := ⟨_, _, _, _, (pS_nil), (pV_cons (List.mem_of_getElem? (i := 5) rfl) (pV_cons (List.mem_of_getElem? (i := 2) rfl) (pV_cons (List.mem_of_getElem? (i := 3) rfl) (pV_nil)))), f_130_2⟩
theorem q_130_3 : pQ_130 u_130_3 := ⟨_, _, _, _, (pS_nil), (pV_cons (List.mem_of_getElem? (i := 5) rfl) (pV_cons (List.mem_of_getElem? (i := 3) rfl) (pV_nil))), f_130_3⟩
theorem q_130_4 : pQ_130 u_130_4 := ⟨_, _, _, _, (pS_cons ok_113 (pS_nil)), (pV_cons (List.mem_of_getElem? (i := 7) rfl) (pV_nil)), f_130_4⟩
theorem q_130_5 : pQ_130 u_130_5 := ⟨_, _, _, _, (pS_nil), (pV_cons (List.mem_of_getElem? (i := 8) rfl) (pV_nil)), f_130_5⟩
theorem q_130_6 : pQ_130 u_130_6 := ⟨_, _, _, _, (pS_nil), (pV_cons (List.mem_of_getElem? (i := 8) rfl) (pV_nil)), f_130_6⟩
theorem q_130_7 : pQ_130 u_130_7 := ⟨_, _, _, _, (pS_nil), (pV_nil), f_130_7⟩
theorem q_130_8 : pQ_130 u_130_8 := ⟨_, _, _, _, (pS_nil), (pV_nil), f_130_8⟩
theorem qb_130_0 : ∀ u ∈ [u_130_0, u_130_1, u_130_2, u_130_3, u_130_4, u_130_5, u_130_6, u_130_7, u_130_8], pQ_130 u := pU_cons q_130_0 (pU_cons q_130_1 (pU_cons q_130_2 (pU_cons q_130_3 (pU_cons q_130_4 (pU_cons q_130_5 (pU_cons q_130_6 (pU_cons q_130_7 (pU_cons q_130_8 (pU_nil)))))))))
theorem ok_130 : sInOk pPT i_130 := sInst3 (M := pm_104) (cus := us_130) pOk pg_104 (by decide +kernel) ⟨_, _, _, _, (pS_cons ok_124 (pS_cons ok_126 (pS_cons ok_127 (pS_cons ok_129 (pS_nil))))), (pV_cons (List.mem_of_getElem? (i := 0) rfl) (pV_cons (List.mem_of_getElem? (i := 1) rfl) (pV_cons (List.mem_of_getElem? (i := 2) rfl) (pV_cons (List.mem_of_getElem? (i := 3) rfl) (pV_nil))))), e_130⟩ (show ∀ u ∈ us_130, pQ_130 u from qb_130_0)
def pQ_131 (u : sCu) : Prop := ∃ (SM : List sIn) (H : gHt) (cu : List sCu) (n : Nat), (∀ I ∈ SM, sInOk pPT I) ∧ (∀ v ∈ cu, v ∈ us_131) ∧ sWhU pPT SM H i_131 (mR pm_30) cu n u = true
theorem q_131_0 : pQ_131 u_131_0 := ⟨_, _, _, _, (pS_cons ok_113 (pS_nil)), (pV_nil), f_131_0⟩
theorem q_131_1 : pQ_131 u_131_1 := ⟨_, _, _, _, (pS_nil), (pV_nil), f_131_1⟩
theorem qb_131_0 : ∀ u ∈ [u_131_0, u_131_1], pQ_131 u := pU_cons q_131_0 (pU_cons q_131_1 (pU_nil))
theorem ok_131 : sInOk pPT i_131 := sInst3 (M := pm_30) (cus := us_131) pOk pg_30 (by decide +kernel) ⟨_, _, _, _, (pS_nil), (pV_cons (List.mem_of_getElem? (i := 0) rfl) (pV_cons (List.mem_of_getElem? (i := 1) rfl) (pV_nil))), e_131⟩ (show ∀ u ∈ us_131, pQ_131 u from qb_131_0)
def pQ_132 (u : sCu) : Prop := ∃ (SM : List sIn) (H : gHt) (cu : List sCu) (n : Nat), (∀ I ∈ SM, sInOk pPT I) ∧ (∀ v ∈ cu, v ∈ us_132) ∧ sWhU pPT SM H i_132 (mR pm_84) cu n u = true
theorem q_132_0 : pQ_132 u_132_0 := ⟨_, _, _, _, (pS_nil), (pV_cons (List.mem_of_getElem? (i := 2) rfl) (pV_nil)), f_132_0⟩
theorem q_132_1 : pQ_132 u_132_1 := ⟨_, _, _, _, (pS_nil), (pV_nil), f_132_1⟩
theorem q_132_2 : pQ_132 u_132_2 := ⟨_, _, _, _, (pS_nil), (pV_nil), f_132_2⟩
theorem qb_132_0 : ∀ u ∈ [u_132_0, u_132_1, u_132_2], pQ_132 u := pU_cons q_132_0 (pU_cons q_132_1 (pU_cons q_132_2 (pU_nil)))
theorem ok_132 : sInOk pPT i_132 := sInst3 (M := pm_84) (cus := us_132) pOk pg_84 (by decide +kernel) ⟨_, _, _, _, (pS_nil), (pV_cons (List.mem_of_getElem? (i := 0) rfl) (pV_cons (List.mem_of_getElem? (i := 1) rfl) (pV_cons (List.mem_of_getElem? (i := 2) rfl) (pV_nil)))), e_132⟩ (show ∀ u ∈ us_132, pQ_132 u from qb_132_0)
def pQ_133 (u : sCu) : Prop := ∃ (SM : List sIn) (H : gHt) (cu : List sCu) (n : Nat), (∀ I ∈ SM, sInOk pPT I) ∧ (∀ v ∈ cu, v ∈ us_133) ∧ sWhU pPT SM H i_133 (mR pm_95) cu n u = true
theorem q_133_0 : pQ_133 u_133_0 := ⟨_, _, _, _, (pS_nil), (pV_nil), f_133_0⟩
theorem q_133_1 : pQ_133 u_133_1 := ⟨_, _, _, _, (pS_nil), (pV_nil), f_133_1⟩
theorem qb_133_0 : ∀ u ∈ [u_133_0, u_133_1], pQ_133 u := pU_cons q_133_0 (pU_cons q_133_1 (pU_nil))
theorem ok_133 : sInOk pPT i_133 := sInst3 (M := pm_95) (cus := us_133) pOk pg_95 (by decide +kernel) ⟨_, _, _, _, (pS_cons ok_113 (pS_cons ok_132 (pS_nil))), (pV_cons (List.mem_of_getElem? (i := 0) rfl) (pV_cons (List.mem_of_getElem? (i := 1) rfl) (pV_nil))), e_133⟩ (show ∀ u ∈ us_133, pQ_133 u from qb_133_0)
def pQ_134 (u : sCu) : Prop := ∃ (SM : List sIn) (H : gHt) (cu : List sCu) (n : Nat), (∀ I ∈ SM, sInOk pPT I) ∧ (∀ v ∈ cu, v ∈ us_134) ∧ sWhU pPT SM H i_134 (mR pm_84) cu n u = true
theorem q_134_0 : pQ_134 u_134_0 := ⟨_, _, _, _, (pS_nil), (pV_cons (List.mem_of_getElem? (i := 2) rfl) (pV_nil)), f_134_0⟩
theorem q_134_1 : pQ_134 u_134_1 := ⟨_, _, _, _, (pS_nil), (pV_nil), f_134_1⟩
theorem q_134_2 : pQ_134 u_134_2 := ⟨_, _, _, _, (pS_nil), (pV_nil), f_134_2⟩
theorem qb_134_0 : ∀ u ∈ [u_134_0, u_134_1, u_134_2], pQ_134 u := pU_cons q_134_0 (pU_cons q_134_1 (pU_cons q_134_2 (pU_nil)))
theorem ok_134 : sInOk pPT i_134 := sInst3 (M := pm_84) (cus := us_134) pOk pg_84 (by decide +kernel) ⟨_, _, _, _, (pS_nil), (pV_cons (List.mem_of_getElem? (i := 0) rfl) (pV_cons (List.mem_of_getElem? (i := 1) rfl) (pV_cons (List.mem_of_getElem? (i := 2) rfl) (pV_nil)))), e_134⟩ (show ∀ u ∈ us_134, pQ_134 u from qb_134_0)
def pQ_135 (u : sCu) : Prop := ∃ (SM : List sIn) (H : gHt) (cu : List sCu) (n : Nat), (∀ I ∈ SM, sInOk pPT I) ∧ (∀ v ∈ cu, v ∈ us_135) ∧ sWhU pPT SM H i_135 (mR pm_95) cu n u = true
theorem q_135_0 : pQ_135 u_135_0 := ⟨_, _, _, _, (pS_nil), (pV_nil), f_135_0⟩
theorem q_135_1 : pQ_135 u_135_1 := ⟨_, _, _, _, (pS_nil), (pV_nil), f_135_1⟩
theorem qb_135_0 : ∀ u ∈ [u_135_0, u_135_1], pQ_135 u := pU_cons q_135_0 (pU_cons q_135_1 (pU_nil))
theorem ok_135 : sInOk pPT i_135 := sInst3 (M := pm_95) (cus := us_135) pOk pg_95 (by decide +kernel) ⟨_, _, _, _, (pS_cons ok_113 (pS_cons ok_134 (pS_nil))), (pV_cons (List.mem_of_getElem? (i := 0) rfl) (pV_cons (List.mem_of_getElem? (i := 1) rfl) (pV_nil))), e_135⟩ (show ∀ u ∈ us_135, pQ_135 u from qb_135_0)
def pQ_136 (u : sCu) : Prop := ∃ (SM : List sIn) (H : gHt) (cu : List sCu) (n : Nat), (∀ I ∈ SM, sInOk pPT I) ∧ (∀ v ∈ cu, v ∈ us_136) ∧ sWhU pPT SM H i_136 (mR pm_90) cu n u = true
theorem q_136_0 : pQ_136 u_136_0 := ⟨_, _, _, _, (pS_nil), (pV_nil), f_136_0⟩
theorem qb_136_0 : ∀ u ∈ [u_136_0], pQ_136 u := pU_cons q_136_0 (pU_nil)
theorem ok_136 : sInOk pPT i_136 := sInst3 (M := pm_90) (cus := us_136) pOk pg_90 (by decide +kernel) ⟨_, _, _, _, (pS_cons ok_129 (pS_nil)), (pV_cons (List.mem_of_getElem? (i := 0) rfl) (pV_nil)), e_136⟩ (show ∀ u ∈ us_136, pQ_136 u from qb_136_0)
theorem ok_137 : sInOk pPT i_137 := sInst3 (M := pm_84) (cus := []) pOk pg_84 (by decide +kernel) ⟨_, _, _, _, (pS_nil), pV_nil, e_137⟩ pU_nil
def pQ_138 (u : sCu) : Prop := ∃ (SM : List sIn) (H : gHt) (cu : List sCu) (n : Nat), (∀ I ∈ SM, sInOk pPT I) ∧ (∀ v ∈ cu, v ∈ us_138) ∧ sWhU pPT SM H i_138 (mR pm_95) cu n u = true
theorem q_138_0 : pQ_138 u_138_0 := ⟨_, _, _, _, (pS_nil), (pV_nil), f_138_0⟩
theorem qb_138_0 : ∀ u ∈ [u_138_0], pQ_138 u := pU_cons q_138_0 (pU_nil)
theorem ok_138 : sInOk pPT i_138 := sInst3 (M := pm_95) (cus := us_138) pOk pg_95 (by decide +kernel) ⟨_, _, _, _, (pS_cons ok_137 (pS_nil)), (pV_cons (List.mem_of_getElem? (i := 0) rfl) (pV_nil)), e_138⟩ (show ∀ u ∈ us_138, pQ_138 u from qb_138_0)
theorem ok_139 : sInOk pPT i_139 := sInst3 (M := pm_106) (cus := []) pOk pg_106 (by decide +kernel) ⟨_, _, _, _, (pS_cons ok_127 (pS_cons ok_131 (pS_cons ok_133 (pS_cons ok_135 (pS_cons ok_136 (pS_cons ok_138 (pS_nil))))))), pV_nil, e_139⟩ pU_nil
def pQ_140 (u : sCu) : Prop := ∃ (SM : List sIn) (H : gHt) (cu : List sCu) (n : Nat), (∀ I ∈ SM, sInOk pPT I) ∧ (∀ v ∈ cu, v ∈ us_140) ∧ sWhU pPT SM H i_140 (mR pm_30) cu n u = true
theorem q_140_0 : pQ_140 u_140_0 := ⟨_, _, _, _, (pS_cons ok_113 (pS_nil)), (pV_nil), f_140_0⟩
theorem q_140_1 : pQ_140 u_140_1 := ⟨_, _, _, _, (pS_nil), (pV_nil), f_140_1⟩
theorem qb_140_0 : ∀ u ∈ [u_140_0, u_140_1], pQ_140 u := pU_cons q_140_0 (pU_cons q_140_1 (pU_nil))
theorem ok_140 : sInOk pPT i_140 := sInst3 (M := pm_30) (cus := us_140) pOk pg_30 (by decide +kernel) ⟨_, _, _, _, (pS_nil), (pV_cons (List.mem_of_getElem? (i := 0) rfl) (pV_cons (List.mem_of_getElem? (i := 1) rfl) (pV_nil))), e_140⟩ (show ∀ u ∈ us_140, pQ_140 u from qb_140_0)
def pQ_141 (u : sCu) : Prop := ∃ (SM : List sIn) (H : gHt) (cu : List sCu) (n : Nat), (∀ I ∈ SM, sInOk pPT I) ∧ (∀ v ∈ cu, v ∈ us_141) ∧ sWhU pPT SM H i_141 (mR pm_84) cu n u = true
theorem q_141_0 : pQ_141 u_141_0 := ⟨_, _, _, _, (pS_nil), (pV_cons (List.mem_of_getElem? (i := 2) rfl) (pV_nil)), f_141_0⟩
theorem q_141_1 : pQ_141 u_141_1 := ⟨_, _, _, _, (pS_nil), (pV_nil), f_141_1⟩
theorem q_141_2 : pQ_141 u_141_2 := ⟨_, _, _, _, (pS_nil), (pV_nil), f_141_2⟩
theorem qb_141_0 : ∀ u ∈ [u_141_0, u_141_1, u_141_2], pQ_141 u := pU_cons q_141_0 (pU_cons q_141_1 (pU_cons q_141_2 (pU_nil)))
theorem ok_141 : sInOk pPT i_141 := sInst3 (M := pm_84) (cus := us_141) pOk pg_84 (by decide +kernel) ⟨_, _, _, _, (pS_nil), (pV_cons (List.mem_of_getElem? (i := 0) rfl) (pV_cons (List.mem_of_getElem? (i := 1) rfl) (pV_cons (List.mem_of_getElem? (i := 2) rfl) (pV_nil)))), e_141⟩ (show ∀ u ∈ us_141, pQ_141 u from qb_141_0)
def pQ_142 (u : sCu) : Prop := ∃ (SM : List sIn) (H : gHt) (cu : List sCu) (n : Nat), (∀ I ∈ SM, sInOk pPT I) ∧ (∀ v ∈ cu, v ∈ us_142) ∧ sWhU pPT SM H i_142 (mR pm_95) cu n u = true
theorem q_142_0 : pQ_142 u_142_0 := ⟨_, _, _, _, (pS_nil), (pV_nil), f_142_0⟩
theorem q_142_1 : pQ_142 u_142_1 := ⟨_, _, _, _, (pS_nil), (pV_nil), f_142_1⟩
theorem qb_142_0 : ∀ u ∈ [u_142_0, u_142_1], pQ_142 u := pU_cons q_142_0 (pU_cons q_142_1 (pU_nil))
theorem ok_142 : sInOk pPT i_142 := sInst3 (M := pm_95) (cus := us_142) pOk pg_95 (by decide +kernel) ⟨_, _, _, _, (pS_cons ok_113 (pS_cons ok_141 (pS_nil))), (pV_cons (List.mem_of_getElem? (i := 0) rfl) (pV_cons (List.mem_of_getElem? (i := 1) rfl) (pV_nil))), e_142⟩ (show ∀ u ∈ us_142, pQ_142 u from qb_142_0)
theorem ok_143 : sInOk pPT i_143 := sInst3 (M := pm_84) (cus := []) pOk pg_84 (by decide +kernel) ⟨_, _, _, _, (pS_nil), pV_nil, e_143⟩ pU_nil
def pQ_144 (u : sCu) : Prop := ∃ (SM : List sIn) (H : gHt) (cu : List sCu) (n : Nat), (∀ I ∈ SM, sInOk pPT I) ∧ (∀ v ∈ cu, v ∈ us_144) ∧ sWhU pPT SM H i_144 (mR pm_95) cu n u = true
theorem q_144_0 : pQ_144 u_144_0 := ⟨_, _, _, _, (pS_nil), (pV_nil), f_144_0⟩
theorem qb_144_0 : ∀ u ∈ [u_144_0], pQ_144 u := pU_cons q_144_0 (pU_nil)
theorem ok_144 : sInOk pPT i_144 := sInst3 (M := pm_95) (cus := us_144) pOk pg_95 (by decide +kernel) ⟨_, _, _, _, (pS_cons ok_143 (pS_nil)), (pV_cons (List.mem_of_getElem? (i := 0) rfl) (pV_nil)), e_144⟩ (show ∀ u ∈ us_144, pQ_144 u from qb_144_0)
def pQ_145 (u : sCu) : Prop := ∃ (SM : List sIn) (H : gHt) (cu : List sCu) (n : Nat), (∀ I ∈ SM, sInOk pPT I) ∧ (∀ v ∈ cu, v ∈ us_145) ∧ sWhU pPT SM H i_145 (mR pm_105) cu n u = true
theorem q_145_0 : pQ_145 u_145_0 := ⟨_, _, _, _, (pS_nil), (pV_cons (List.mem_of_getElem? (i := 4) rfl) (pV_cons (List.mem_of_getElem? (i := 0) rfl) (pV_cons (List.mem_of_getElem? (i := 1) rfl) (pV_nil)))), f_145_0⟩
theorem q_145_1 : pQ_145 u_145_1 := ⟨_, _, _, _, (pS_nil), (pV_cons (List.mem_of_getElem? (i := 5) rfl) (pV_cons (List.mem_of_getElem? (i := 1) rfl) (pV_nil))), f_145_1⟩
theorem q_145_2 : pQ_145 u_145_2 := ⟨_, _, _, _, (pS_nil), (pV_cons (List.mem_of_getElem? (i := 5) rfl) (pV_cons (List.mem_of_getElem? (i := 2) rfl) (pV_cons (List.mem_of_getElem? (i := 3) rfl) (pV_nil)))), f_145_2⟩
theorem q_145_3 : pQ_145 u_145_3 := ⟨_, _, _, _, (pS_nil), (pV_cons (List.mem_of_getElem? (i := 5) rfl) (pV_cons (List.mem_of_getElem? (i := 3) rfl) (pV_nil))), f_145_3⟩
theorem q_145_4 : pQ_145 u_145_4 := ⟨_, _, _, _, (pS_cons ok_113 (pS_nil)), (pV_cons (List.mem_of_getElem? (i := 7) rfl) (pV_nil)), f_145_4⟩
theorem q_145_5 : pQ_145 u_145_5 := ⟨_, _, _, _, (pS_nil), (pV_cons (List.mem_of_getElem? (i := 8) rfl) (pV_nil)), f_145_5⟩
theorem q_145_6 : pQ_145 u_145_6 := ⟨_, _, _, _, (pS_nil), (pV_cons (List.mem_of_getElem? (i := 8) rfl) (pV_nil)), f_145_6⟩
theorem q_145_7 : pQ_145 u_145_7 := ⟨_, _, _, _, (pS_cons ok_142 (pS_nil)), (pV_nil), f_145_7⟩
theorem q_145_8 : pQ_145 u_145_8 := ⟨_, _, _, _, (pS_cons ok_144 (pS_nil)), (pV_nil), f_145_8⟩
theorem qb_145_0 : ∀ u ∈ [u_145_0, u_145_1, u_145_2, u_145_3, u_145_4, u_145_5, u_145_6, u_145_7, u_145_8], pQ_145 u := pU_cons q_145_0 (pU_cons q_145_1 (pU_cons q_145_2 (pU_cons q_145_3 (pU_cons q_145_4 (pU_cons q_145_5 (pU_cons q_145_6 (pU_cons q_145_7 (pU_cons q_145_8 (pU_nil)))))))))
theorem ok_145 : sInOk pPT i_145 := sInst3 (M := pm_105) (cus := us_145) pOk pg_105 (by decide +kernel) ⟨_, _, _, _, (pS_cons ok_126 (pS_cons ok_127 (pS_cons ok_129 (pS_cons ok_140 (pS_nil))))), (pV_cons (List.mem_of_getElem? (i := 0) rfl) (pV_cons (List.mem_of_getElem? (i := 1) rfl) (pV_cons (List.mem_of_getElem? (i := 2) rfl) (pV_cons (List.mem_of_getElem? (i := 3) rfl) (pV_nil))))), e_145⟩ (show ∀ u ∈ us_145, pQ_145 u from qb_145_0)
def pQ_146 (u : sCu) : Prop := ∃ (SM : List sIn) (H : gHt) (cu : List sCu) (n : Nat), (∀ I ∈ SM, sInOk pPT I) ∧ (∀ v ∈ cu, v ∈ us_146) ∧ sWhU pPT SM H i_146 (mR pm_30) cu n u = true
theorem q_146_0 : pQ_146 u_146_0 := ⟨_, _, _, _, (pS_cons ok_113 (pS_nil)), (pV_nil), f_146_0⟩
theorem q_146_1 : pQ_146 u_146_1 := ⟨_, _, _, _, (pS_nil), (pV_nil), f_146_1⟩
theorem qb_146_0 : ∀ u ∈ [u_146_0, u_146_1], pQ_146 u := pU_cons q_146_0 (pU_cons q_146_1 (pU_nil))
theorem ok_146 : sInOk pPT i_146 := sInst3 (M := pm_30) (cus := us_146) pOk pg_30 (by decide +kernel) ⟨_, _, _, _, (pS_nil), (pV_cons (List.mem_of_getElem? (i := 0) rfl) (pV_cons (List.mem_of_getElem? (i := 1) rfl) (pV_nil))), e_146⟩ (show ∀ u ∈ us_146, pQ_146 u from qb_146_0)
def pQ_147 (u : sCu) : Prop := ∃ (SM : List sIn) (H : gHt) (cu : List sCu) (n : Nat), (∀ I ∈ SM, sInOk pPT I) ∧ (∀ v ∈ cu, v ∈ us_147) ∧ sWhU pPT SM H i_147 (mR pm_84) cu n u = true
theorem q_147_0 : pQ_147 u_147_0 := ⟨_, _, _, _, (pS_nil), (pV_cons (List.mem_of_getElem? (i := 2) rfl) (pV_nil)), f_147_0⟩
theorem q_147_1 : pQ_147 u_147_1 := ⟨_, _, _, _, (pS_nil), (pV_nil), f_147_1⟩
theorem q_147_2 : pQ_147 u_147_2 := ⟨_, _, _, _, (pS_nil), (pV_nil), f_147_2⟩
theorem qb_147_0 : ∀ u ∈ [u_147_0, u_147_1, u_147_2], pQ_147 u := pU_cons q_147_0 (pU_cons q_147_1 (pU_cons q_147_2 (pU_nil)))
theorem ok_147 : sInOk pPT i_147 := sInst3 (M := pm_84) (cus := us_147) pOk pg_84 (by decide +kernel) ⟨_, _, _, _, (pS_nil), (pV_cons (List.mem_of_getElem? (i := 0) rfl) (pV_cons (List.mem_of_getElem? (i := 1) rfl) (pV_cons (List.mem_of_getElem? (i := 2) rfl) (pV_nil)))), e_147⟩ (show ∀ u ∈ us_147, pQ_147 u from qb_147_0)
def pQ_148 (u : sCu) : Prop := ∃ (SM : List sIn) (H : gHt) (cu : List sCu) (n : Nat), (∀ I ∈ SM, sInOk pPT I) ∧ (∀ v ∈ cu, v ∈ us_148) ∧ sWhU pPT SM H i_148 (mR pm_95) cu n u = true
theorem q_148_0 : pQ_148 u_148_0 := ⟨_, _, _, _, (pS_nil), (pV_nil), f_148_0⟩
theorem q_148_1 : pQ_148 u_148_1 := ⟨_, _, _, _, (pS_nil), (pV_nil), f_148_1⟩
theorem qb_148_0 : ∀ u ∈ [u_148_0, u_148_1], pQ_148 u := pU_cons q_148_0 (pU_cons q_148_1 (pU_nil))
theorem ok_148 : sInOk pPT i_148 := sInst3 (M := pm_95) (cus := us_148) pOk pg_95 (by decide +kernel) ⟨_, _, _, _, (pS_cons ok_113 (pS_cons ok_147 (pS_nil))), (pV_cons (List.mem_of_getElem? (i := 0) rfl) (pV_cons (List.mem_of_getElem? (i := 1) rfl) (pV_nil))), e_148⟩ (show ∀ u ∈ us_148, pQ_148 u from qb_148_0)
theorem ok_149 : sInOk pPT i_149 := sInst3 (M := pm_84) (cus := []) pOk pg_84 (by decide +kernel) ⟨_, _, _, _, (pS_nil), pV_nil, e_149⟩ pU_nil
def pQ_150 (u : sCu) : Prop := ∃ (SM : List sIn) (H : gHt) (cu : List sCu) (n : Nat), (∀ I ∈ SM, sInOk pPT I) ∧ (∀ v ∈ cu, v ∈ us_150) ∧ sWhU pPT SM H i_150 (mR pm_95) cu n u = true
theorem q_150_0 : pQ_150 u_150_0 := ⟨_, _, _, _, (pS_nil), (pV_nil), f_150_0⟩
theorem qb_150_0 : ∀ u ∈ [u_150_0], pQ_150 u := pU_cons q_150_0 (pU_nil)
theorem ok_150 : sInOk pPT i_150 := sInst3 (M := pm_95) (cus := us_150) pOk pg_95 (by decide +kernel) ⟨_, _, _, _, (pS_cons ok_149 (pS_nil)), (pV_cons (List.mem_of_getElem? (i := 0) rfl) (pV_nil)), e_150⟩ (show ∀ u ∈ us_150, pQ_150 u from qb_150_0)
theorem ok_151 : sInOk pPT i_151 := sInst3 (M := pm_103) (cus := []) pOk pg_103 (by decide +kernel) ⟨_, _, _, _, (pS_cons ok_135 (pS_cons ok_138 (pS_cons ok_146 (pS_cons ok_148 (pS_cons ok_150 (pS_nil)))))), pV_nil, e_151⟩ pU_nil
theorem ok_152 : sInOk pPT i_152 := sInst3 (M := pm_103) (cus := []) pOk pg_103 (by decide +kernel) ⟨_, _, _, _, (pS_cons ok_135 (pS_cons ok_138 (pS_cons ok_146 (pS_cons ok_148 (pS_cons ok_150 (pS_nil)))))), pV_nil, e_152⟩ pU_nil
theorem ok_153 : sInOk pPT i_153 := sInst3 (M := pm_103) (cus := []) pOk pg_103 (by decide +kernel) ⟨_, _, _, _, (pS_cons ok_135 (pS_cons ok_138 (pS_cons ok_146 (pS_cons ok_148 (pS_cons ok_150 (pS_nil)))))), pV_nil, e_153⟩ pU_nil
theorem ok_154 : sInOk pPT i_154 := sInst3 (M := pm_103) (cus := []) pOk pg_103 (by decide +kernel) ⟨_, _, _, _, (pS_cons ok_135 (pS_cons ok_138 (pS_cons ok_146 (pS_cons ok_148 (pS_cons ok_150 (pS_nil)))))), pV_nil, e_154⟩ pU_nil
theorem ok_155 : sInOk pPT i_155 := sInst3 (M := pm_103) (cus := []) pOk pg_103 (by decide +kernel) ⟨_, _, _, _, (pS_cons ok_135 (pS_cons ok_138 (pS_cons ok_146 (pS_cons ok_148 (pS_cons ok_150 (pS_nil)))))), pV_nil, e_155⟩ pU_nil
def pQ_156 (u : sCu) : Prop := ∃ (SM : List sIn) (H : gHt) (cu : List sCu) (n : Nat), (∀ I ∈ SM, sInOk pPT I) ∧ (∀ v ∈ cu, v ∈ us_156) ∧ sWhU pPT SM H i_156 (mR pm_79) cu n u = true
theorem q_156_0 : pQ_156 u_156_0 := ⟨_, _, _, _, (pS_nil), (pV_nil), f_156_0⟩
theorem qb_156_0 : ∀ u ∈ [u_156_0], pQ_156 u := pU_cons q_156_0 (pU_nil)
theorem ok_156 : sInOk pPT i_156 := sInst3 (M := pm_79) (cus := us_156) pOk pg_79 (by decide +kernel) ⟨_, _, _, _, (pS_nil), (pV_cons (List.mem_of_getElem? (i := 0) rfl) (pV_nil)), e_156⟩ (show ∀ u ∈ us_156, pQ_156 u from qb_156_0)
def pQ_157 (u : sCu) : Prop := ∃ (SM : List sIn) (H : gHt) (cu : List sCu) (n : Nat), (∀ I ∈ SM, sInOk pPT I) ∧ (∀ v ∈ cu, v ∈ us_157) ∧ sWhU pPT SM H i_157 (mR pm_67) cu n u = true
theorem q_157_0 : pQ_157 u_157_0 := ⟨_, _, _, _, (pS_nil), (pV_nil), f_157_0⟩
theorem qb_157_0 : ∀ u ∈ [u_157_0], pQ_157 u := pU_cons q_157_0 (pU_nil)
theorem ok_157 : sInOk pPT i_157 := sInst3 (M := pm_67) (cus := us_157) pOk pg_67 (by decide +kernel) ⟨_, _, _, _, (pS_nil), (pV_cons (List.mem_of_getElem? (i := 0) rfl) (pV_nil)), e_157⟩ (show ∀ u ∈ us_157, pQ_157 u from qb_157_0)
def pQ_158 (u : sCu) : Prop := ∃ (SM : List sIn) (H : gHt) (cu : List sCu) (n : Nat), (∀ I ∈ SM, sInOk pPT I) ∧ (∀ v ∈ cu, v ∈ us_158) ∧ sWhU pPT SM H i_158 (mR pm_79) cu n u = true
theorem q_158_0 : pQ_158 u_158_0 := ⟨_, _, _, _, (pS_cons ok_113 (pS_nil)), (pV_nil), f_158_0⟩
theorem q_158_1 : pQ_158 u_158_1 := ⟨_, _, _, _, (pS_nil), (pV_nil), f_158_1⟩
theorem qb_158_0 : ∀ u ∈ [u_158_0, u_158_1], pQ_158 u := pU_cons q_158_0 (pU_cons q_158_1 (pU_nil))
theorem ok_158 : sInOk pPT i_158 := sInst3 (M := pm_79) (cus := us_158) pOk pg_79 (by decide +kernel) ⟨_, _, _, _, (pS_cons ok_157 (pS_nil)), (pV_cons (List.mem_of_getElem? (i := 0) rfl) (pV_cons (List.mem_of_getElem? (i := 1) rfl) (pV_nil))), e_158⟩ (show ∀ u ∈ us_158, pQ_158 u from qb_158_0)
def pQ_159 (u : sCu) : Prop := ∃ (SM : List sIn) (H : gHt) (cu : List sCu) (n : Nat), (∀ I ∈ SM, sInOk pPT I) ∧ (∀ v ∈ cu, v ∈ us_159) ∧ sWhU pPT SM H i_159 (mR pm_67) cu n u = true
theorem q_159_0 : pQ_159 u_159_0 := ⟨_, _, _, _, (pS_nil), (pV_nil), f_159_0⟩
theorem qb_159_0 : ∀ u ∈ [u_159_0], pQ_159 u := pU_cons q_159_0 (pU_nil)
theorem ok_159 : sInOk pPT i_159 := sInst3 (M := pm_67) (cus := us_159) pOk pg_67 (by decide +kernel) ⟨_, _, _, _, (pS_nil), (pV_cons (List.mem_of_getElem? (i := 0) rfl) (pV_nil)), e_159⟩ (show ∀ u ∈ us_159, pQ_159 u from qb_159_0)
theorem ok_160 : sInOk pPT i_160 := sInst3 (M := pm_58) (cus := []) pOk pg_58 (by decide +kernel) ⟨_, _, _, _, (pS_nil), pV_nil, e_160⟩ pU_nil
def pQ_161 (u : sCu) : Prop := ∃ (SM : List sIn) (H : gHt) (cu : List sCu) (n : Nat), (∀ I ∈ SM, sInOk pPT I) ∧ (∀ v ∈ cu, v ∈ us_161) ∧ sWhU pPT SM H i_161 (mR pm_79) cu n u = true
theorem q_161_0 : pQ_161 u_161_0 := ⟨_, _, _, _, (pS_cons ok_113 (pS_nil)), (pV_nil), f_161_0⟩
theorem q_161_1 : pQ_161 u_161_1 := ⟨_, _, _, _, (pS_nil), (pV_nil), f_161_1⟩
theorem qb_161_0 : ∀ u ∈ [u_161_0, u_161_1], pQ_161 u := pU_cons q_161_0 (pU_cons q_161_1 (pU_nil))
theorem ok_161 : sInOk pPT i_161 := sInst3 (M := pm_79) (cus := us_161) pOk pg_79 (by decide +kernel) ⟨_, _, _, _, (pS_cons ok_159 (pS_nil)), (pV_cons (List.mem_of_getElem? (i := 0) rfl) (pV_cons (List.mem_of_getElem? (i := 1) rfl) (pV_nil))), e_161⟩ (show ∀ u ∈ us_161, pQ_161 u from qb_161_0)
theorem ok_162 : sInOk pPT i_162 := sInst3 (M := pm_92) (cus := []) pOk pg_92 (by decide +kernel) ⟨_, _, _, _, (pS_nil), pV_nil, e_162⟩ pU_nil
def pQ_163 (u : sCu) : Prop := ∃ (SM : List sIn) (H : gHt) (cu : List sCu) (n : Nat), (∀ I ∈ SM, sInOk pPT I) ∧ (∀ v ∈ cu, v ∈ us_163) ∧ sWhU pPT SM H i_163 (mR pm_79) cu n u = true
theorem q_163_0 : pQ_163 u_163_0 := ⟨_, _, _, _, (pS_nil), (pV_nil), f_163_0⟩
theorem qb_163_0 : ∀ u ∈ [u_163_0], pQ_163 u := pU_cons q_163_0 (pU_nil)
theorem ok_163 : sInOk pPT i_163 := sInst3 (M := pm_79) (cus := us_163) pOk pg_79 (by decide +kernel) ⟨_, _, _, _, (pS_nil), (pV_cons (List.mem_of_getElem? (i := 0) rfl) (pV_nil)), e_163⟩ (show ∀ u ∈ us_163, pQ_163 u from qb_163_0)
theorem ok_164 : sInOk pPT i_164 := sInst3 (M := pm_58) (cus := []) pOk pg_58 (by decide +kernel) ⟨_, _, _, _, (pS_nil), pV_nil, e_164⟩ pU_nil
theorem ok_165 : sInOk pPT i_165 := sInst3 (M := pm_58) (cus := []) pOk pg_58 (by decide +kernel) ⟨_, _, _, _, (pS_nil), pV_nil, e_165⟩ pU_nil
theorem ok_166 : sInOk pPT i_166 := sInst3 (M := pm_58) (cus := []) pOk pg_58 (by decide +kernel) ⟨_, _, _, _, (pS_nil), pV_nil, e_166⟩ pU_nil
theorem ok_167 : sInOk pPT i_167 := sInst3 (M := pm_58) (cus := []) pOk pg_58 (by decide +kernel) ⟨_, _, _, _, (pS_nil), pV_nil, e_167⟩ pU_nil
theorem ok_168 : sInOk pPT i_168 := sInst3 (M := pm_58) (cus := []) pOk pg_58 (by decide +kernel) ⟨_, _, _, _, (pS_nil), pV_nil, e_168⟩ pU_nil
theorem ok_169 : sInOk pPT i_169 := sInst3 (M := pm_58) (cus := []) pOk pg_58 (by decide +kernel) ⟨_, _, _, _, (pS_nil), pV_nil, e_169⟩ pU_nil
theorem ok_170 : sInOk pPT i_170 := sInst3 (M := pm_58) (cus := []) pOk pg_58 (by decide +kernel) ⟨_, _, _, _, (pS_nil), pV_nil, e_170⟩ pU_nil
theorem ok_171 : sInOk pPT i_171 := sInst3 (M := pm_58) (cus := []) pOk pg_58 (by decide +kernel) ⟨_, _, _, _, (pS_nil), pV_nil, e_171⟩ pU_nil
theorem ok_172 : sInOk pPT i_172 := sInst3 (M := pm_125) (cus := []) pOk pg_125 (by decide +kernel) ⟨_, _, _, _, (pS_cons ok_164 (pS_cons ok_165 (pS_cons ok_166 (pS_cons ok_167 (pS_cons ok_168 (pS_cons ok_169 (pS_cons ok_170 (pS_cons ok_171 (pS_nil))))))))), pV_nil, e_172⟩ pU_nil
theorem ok_173 : sInOk pPT i_173 := sInst3 (M := pm_92) (cus := []) pOk pg_92 (by decide +kernel) ⟨_, _, _, _, (pS_nil), pV_nil, e_173⟩ pU_nil
theorem ok_174 : sInOk pPT i_174 := sInst3 (M := pm_92) (cus := []) pOk pg_92 (by decide +kernel) ⟨_, _, _, _, (pS_nil), pV_nil, e_174⟩ pU_nil
theorem ok_175 : sInOk pPT i_175 := sInst3 (M := pm_92) (cus := []) pOk pg_92 (by decide +kernel) ⟨_, _, _, _, (pS_nil), pV_nil, e_175⟩ pU_nil
theorem ok_176 : sInOk pPT i_176 := sInst3 (M := pm_92) (cus := []) pOk pg_92 (by decide +kernel) ⟨_, _, _, _, (pS_nil), pV_nil, e_176⟩ pU_nil
theorem ok_177 : sInOk pPT i_177 := sInst3 (M := pm_92) (cus := []) pOk pg_92 (by decide +kernel) ⟨_, _, _, _, (pS_nil), pV_nil, e_177⟩ pU_nil
theorem ok_178 : sInOk pPT i_178 := sInst3 (M := pm_58) (cus := []) pOk pg_58 (by decide +kernel) ⟨_, _, _, _, (pS_nil), pV_nil, e_178⟩ pU_nil
theorem ok_179 : sInOk pPT i_179 := sInst3 (M := pm_96) (cus := []) pOk pg_96 (by decide +kernel) ⟨_, _, _, _, (pS_nil), pV_nil, e_179⟩ pU_nil
def pQ_180 (u : sCu) : Prop := ∃ (SM : List sIn) (H : gHt) (cu : List sCu) (n : Nat), (∀ I ∈ SM, sInOk pPT I) ∧ (∀ v ∈ cu, v ∈ us_180) ∧ sWhU pPT SM H i_180 (mR pm_67) cu n u = true
theorem q_180_0 : pQ_180 u_180_0 := ⟨_, _, _, _, (pS_nil), (pV_nil), f_180_0⟩
theorem qb_180_0 : ∀ u ∈ [u_180_0], pQ_180 u := pU_cons q_180_0 (pU_nil)
theorem ok_180 : sInOk pPT i_180 := sInst3 (M := pm_67) (cus := us_180) pOk pg_67 (by decide +kernel) ⟨_, _, _, _, (pS_nil), (pV_cons (List.mem_of_getElem? (i := 0) rfl) (pV_nil)), e_180⟩ (show ∀ u ∈ us_180, pQ_180 u from qb_180_0)
def pQ_181 (u : sCu) : Prop := ∃ (SM : List sIn) (H : gHt) (cu : List sCu) (n : Nat), (∀ I ∈ SM, sInOk pPT I) ∧ (∀ v ∈ cu, v ∈ us_181) ∧ sWhU pPT SM H i_181 (mR pm_67) cu n u = true
theorem q_181_0 : pQ_181 u_181_0 := ⟨_, _, _, _, (pS_nil), (pV_nil), f_181_0⟩
theorem qb_181_0 : ∀ u ∈ [u_181_0], pQ_181 u := pU_cons q_181_0 (pU_nil)
theorem ok_181 : sInOk pPT i_181 := sInst3 (M := pm_67) (cus := us_181) pOk pg_67 (by decide +kernel) ⟨_, _, _, _, (pS_nil), (pV_cons (List.mem_of_getElem? (i := 0) rfl) (pV_nil)), e_181⟩ (show ∀ u ∈ us_181, pQ_181 u from qb_181_0)
def pQ_182 (u : sCu) : Prop := ∃ (SM : List sIn) (H : gHt) (cu : List sCu) (n : Nat), (∀ I ∈ SM, sInOk pPT I) ∧ (∀ v ∈ cu, v ∈ us_182) ∧ sWhU pPT SM H i_182 (mR pm_97) cu n u = true
theorem q_182_0 : pQ_182 u_182_0 := ⟨_, _, _, _, (pS_cons ok_180 (pS_cons ok_181 (pS_nil))), (pV_nil), f_182_0⟩
theorem qb_182_0 : ∀ u ∈ [u_182_0], pQ_182 u := pU_cons q_182_0 (pU_nil)
theorem ok_182 : sInOk pPT i_182 := sInst3 (M := pm_97) (cus := us_182) pOk pg_97 (by decide +kernel) ⟨_, _, _, _, (pS_cons ok_179 (pS_nil)), (pV_cons (List.mem_of_getElem? (i := 0) rfl) (pV_nil)), e_182⟩ (show ∀ u ∈ us_182, pQ_182 u from qb_182_0)
def pQ_183 (u : sCu) : Prop := ∃ (SM : List sIn) (H : gHt) (cu : List sCu) (n : Nat), (∀ I ∈ SM, sInOk pPT I) ∧ (∀ v ∈ cu, v ∈ us_183) ∧ sWhU pPT SM H i_183 (mR pm_67) cu n u = true
theorem q_183_0 : pQ_183 u_183_0 := ⟨_, _, _, _, (pS_nil), (pV_nil), f_183_0⟩
theorem qb_183_0 : ∀ u ∈ [u_183_0], pQ_183 u := pU_cons q_183_0 (pU_nil)
theorem ok_183 : sInOk pPT i_183 := sInst3 (M := pm_67) (cus := us_183) pOk pg_67 (by decide +kernel) ⟨_, _, _, _, (pS_nil), (pV_cons (List.mem_of_getElem? (i := 0) rfl) (pV_nil)), e_183⟩ (show ∀ u ∈ us_183, pQ_183 u from qb_183_0)
def pQ_184 (u : sCu) : Prop := ∃ (SM : List sIn) (H : gHt) (cu : List sCu) (n : Nat), (∀ I ∈ SM, sInOk pPT I) ∧ (∀ v ∈ cu, v ∈ us_184) ∧ sWhU pPT SM H i_184 (mR pm_67) cu n u = true
theorem q_184_0 : pQ_184 u_184_0 := ⟨_, _, _, _, (pS_nil), (pV_nil), f_184_0⟩
theorem qb_184_0 : ∀ u ∈ [u_184_0], pQ_184 u := pU_cons q_184_0 (pU_nil)
theorem ok_184 : sInOk pPT i_184 := sInst3 (M := pm_67) (cus := us_184) pOk pg_67 (by decide +kernel) ⟨_, _, _, _, (pS_nil), (pV_cons (List.mem_of_getElem? (i := 0) rfl) (pV_nil)), e_184⟩ (show ∀ u ∈ us_184, pQ_184 u from qb_184_0)
def pQ_185 (u : sCu) : Prop := ∃ (SM : List sIn) (H : gHt) (cu : List sCu) (n : Nat), (∀ I ∈ SM, sInOk pPT I) ∧ (∀ v ∈ cu, v ∈ us_185) ∧ sWhU pPT SM H i_185 (mR pm_98) cu n u = true
theorem q_185_0 : pQ_185 u_185_0 := ⟨_, _, _, _, (pS_cons ok_183 (pS_cons ok_184 (pS_nil))), (pV_nil), f_185_0⟩
theorem qb_185_0 : ∀ u ∈ [u_185_0], pQ_185 u := pU_cons q_185_0 (pU_nil)
theorem ok_185 : sInOk pPT i_185 := sInst3 (M := pm_98) (cus := us_185) pOk pg_98 (by decide +kernel) ⟨_, _, _, _, (pS_cons ok_182 (pS_nil)), (pV_cons (List.mem_of_getElem? (i := 0) rfl) (pV_nil)), e_185⟩ (show ∀ u ∈ us_185, pQ_185 u from qb_185_0)
def pQ_186 (u : sCu) : Prop := ∃ (SM : List sIn) (H : gHt) (cu : List sCu) (n : Nat), (∀ I ∈ SM, sInOk pPT I) ∧ (∀ v ∈ cu, v ∈ us_186) ∧ sWhU pPT SM H i_186 (mR pm_67) cu n u = true
theorem q_186_0 : pQ_186 u_186_0 := ⟨_, _, _, _, (pS_nil), (pV_nil), f_186_0⟩
theorem qb_186_0 : ∀ u ∈ [u_186_0], pQ_186 u := pU_cons q_186_0 (pU_nil)
theorem ok_186 : sInOk pPT i_186 := sInst3 (M := pm_67) (cus := us_186) pOk pg_67 (by decide +kernel) ⟨_, _, _, _, (pS_nil), (pV_cons (List.mem_of_getElem? (i := 0) rfl) (pV_nil)), e_186⟩ (show ∀ u ∈ us_186, pQ_186 u from qb_186_0)
def pQ_187 (u : sCu) : Prop := ∃ (SM : List sIn) (H : gHt) (cu : List sCu) (n : Nat), (∀ I ∈ SM, sInOk pPT I) ∧ (∀ v ∈ cu, v ∈ us_187) ∧ sWhU pPT SM H i_187 (mR pm_67) cu n u = true
theorem q_187_0 : pQ_187 u_187_0 := ⟨_, _, _, _, (pS_nil), (pV_nil), f_187_0⟩
theorem qb_187_0 : ∀ u ∈ [u_187_0], pQ_187 u := pU_cons q_187_0 (pU_nil)
theorem ok_187 : sInOk pPT i_187 := sInst3 (M := pm_67) (cus := us_187) pOk pg_67 (by decide +kernel) ⟨_, _, _, _, (pS_nil), (pV_cons (List.mem_of_getElem? (i := 0) rfl) (pV_nil)), e_187⟩ (show ∀ u ∈ us_187, pQ_187 u from qb_187_0)
def pQ_188 (u : sCu) : Prop := ∃ (SM : List sIn) (H : gHt) (cu : List sCu) (n : Nat), (∀ I ∈ SM, sInOk pPT I) ∧ (∀ v ∈ cu, v ∈ us_188) ∧ sWhU pPT SM H i_188 (mR pm_94) cu n u = true
theorem q_188_0 : pQ_188 u_188_0 := ⟨_, _, _, _, (pS_cons ok_178 (pS_cons ok_185 (pS_cons ok_186 (pS_cons ok_187 (pS_nil))))), (pV_cons (List.mem_of_getElem? (i := 1) rfl) (pV_nil)), f_188_0⟩
theorem q_188_1 : pQ_188 u_188_1 := ⟨_, _, _, _, (pS_nil), (pV_cons (List.mem_of_getElem? (i := 2) rfl) (pV_nil)), f_188_1⟩
theorem q_188_2 : pQ_188 u_188_2 := ⟨_, _, _, _, (pS_nil), (pV_nil), f_188_2⟩
theorem qb_188_0 : ∀ u ∈ [u_188_0, u_188_1, u_188_2], pQ_188 u := pU_cons q_188_0 (pU_cons q_188_1 (pU_cons q_188_2 (pU_nil)))
theorem ok_188 : sInOk pPT i_188 := sInst3 (M := pm_94) (cus := us_188) pOk pg_94 (by decide +kernel) ⟨_, _, _, _, (pS_nil), (pV_cons (List.mem_of_getElem? (i := 0) rfl) (pV_nil)), e_188⟩ (show ∀ u ∈ us_188, pQ_188 u from qb_188_0)
theorem ok_189 : sInOk pPT i_189 := sInst3 (M := pm_58) (cus := []) pOk pg_58 (by decide +kernel) ⟨_, _, _, _, (pS_nil), pV_nil, e_189⟩ pU_nil
def pQ_190 (u : sCu) : Prop := ∃ (SM : List sIn) (H : gHt) (cu : List sCu) (n : Nat), (∀ I ∈ SM, sInOk pPT I) ∧ (∀ v ∈ cu, v ∈ us_190) ∧ sWhU pPT SM H i_190 (mR pm_91) cu n u = true
theorem q_190_0 : pQ_190 u_190_0 := ⟨_, _, _, _, (pS_cons ok_189 (pS_nil)), (pV_nil), f_190_0⟩
theorem qb_190_0 : ∀ u ∈ [u_190_0], pQ_190 u := pU_cons q_190_0 (pU_nil)
theorem ok_190 : sInOk pPT i_190 := sInst3 (M := pm_91) (cus := us_190) pOk pg_91 (by decide +kernel) ⟨_, _, _, _, (pS_cons ok_188 (pS_nil)), (pV_cons (List.mem_of_getElem? (i := 0) rfl) (pV_nil)), e_190⟩ (show ∀ u ∈ us_190, pQ_190 u from qb_190_0)
theorem ok_191 : sInOk pPT i_191 := sInst3 (M := pm_58) (cus := []) pOk pg_58 (by decide +kernel) ⟨_, _, _, _, (pS_nil), pV_nil, e_191⟩ pU_nil
def pQ_192 (u : sCu) : Prop := ∃ (SM : List sIn) (H : gHt) (cu : List sCu) (n : Nat), (∀ I ∈ SM, sInOk pPT I) ∧ (∀ v ∈ cu, v ∈ us_192) ∧ sWhU pPT SM H i_192 (mR pm_92) cu n u = true
theorem q_192_0 : pQ_192 u_192_0 := ⟨_, _, _, _, (pS_cons ok_190 (pS_nil)), (pV_cons (List.mem_of_getElem? (i := 1) rfl) (pV_nil)), f_192_0⟩
theorem q_192_1 : pQ_192 u_192_1 := ⟨_, _, _, _, (pS_cons ok_191 (pS_nil)), (pV_nil), f_192_1⟩
theorem qb_192_0 : ∀ u ∈ [u_192_0, u_192_1], pQ_192 u := pU_cons q_192_0 (pU_cons q_192_1 (pU_nil))
theorem ok_192 : sInOk pPT i_192 := sInst3 (M := pm_92) (cus := us_192) pOk pg_92 (by decide +kernel) ⟨_, _, _, _, (pS_cons ok_159 (pS_nil)), (pV_cons (List.mem_of_getElem? (i := 0) rfl) (pV_nil)), e_192⟩ (show ∀ u ∈ us_192, pQ_192 u from qb_192_0)
def pQ_193 (u : sCu) : Prop := ∃ (SM : List sIn) (H : gHt) (cu : List sCu) (n : Nat), (∀ I ∈ SM, sInOk pPT I) ∧ (∀ v ∈ cu, v ∈ us_193) ∧ sWhU pPT SM H i_193 (mR pm_95) cu n u = true
theorem q_193_0 : pQ_193 u_193_0 := ⟨_, _, _, _, (pS_nil), (pV_nil), f_193_0⟩
theorem q_193_1 : pQ_193 u_193_1 := ⟨_, _, _, _, (pS_nil), (pV_nil), f_193_1⟩
theorem qb_193_0 : ∀ u ∈ [u_193_0, u_193_1], pQ_193 u := pU_cons q_193_0 (pU_cons q_193_1 (pU_nil))
theorem ok_193 : sInOk pPT i_193 := sInst3 (M := pm_95) (cus := us_193) pOk pg_95 (by decide +kernel) ⟨_, _, _, _, (pS_cons ok_113 (pS_cons ok_125 (pS_nil))), (pV_cons (List.mem_of_getElem? (i := 0) rfl) (pV_cons (List.mem_of_getElem? (i := 1) rfl) (pV_nil))), e_193⟩ (show ∀ u ∈ us_193, pQ_193 u from qb_193_0)
theorem ok_194 : sInOk pPT i_194 := sInst3 (M := pm_96) (cus := []) pOk pg_96 (by decide +kernel) ⟨_, _, _, _, (pS_cons ok_113 (pS_cons ok_161 (pS_cons ok_163 (pS_cons ok_172 (pS_cons ok_177 (pS_cons ok_192 (pS_cons ok_193 (pS_nil)))))))), pV_nil, e_194⟩ pU_nil
def pQ_195 (u : sCu) : Prop := ∃ (SM : List sIn) (H : gHt) (cu : List sCu) (n : Nat), (∀ I ∈ SM, sInOk pPT I) ∧ (∀ v ∈ cu, v ∈ us_195) ∧ sWhU pPT SM H i_195 (mR pm_67) cu n u = true
theorem q_195_0 : pQ_195 u_195_0 := ⟨_, _, _, _, (pS_nil), (pV_nil), f_195_0⟩
theorem qb_195_0 : ∀ u ∈ [u_195_0], pQ_195 u := pU_cons q_195_0 (pU_nil)
theorem ok_195 : sInOk pPT i_195 := sInst3 (M := pm_67) (cus := us_195) pOk pg_67 (by decide +kernel) ⟨_, _, _, _, (pS_nil), (pV_cons (List.mem_of_getElem? (i := 0) rfl) (pV_nil)), e_195⟩ (show ∀ u ∈ us_195, pQ_195 u from qb_195_0)
def pQ_196 (u : sCu) : Prop := ∃ (SM : List sIn) (H : gHt) (cu : List sCu) (n : Nat), (∀ I ∈ SM, sInOk pPT I) ∧ (∀ v ∈ cu, v ∈ us_196) ∧ sWhU pPT SM H i_196 (mR pm_67) cu n u = true
theorem q_196_0 : pQ_196 u_196_0 := ⟨_, _, _, _, (pS_nil), (pV_nil), f_196_0⟩
theorem qb_196_0 : ∀ u ∈ [u_196_0], pQ_196 u := pU_cons q_196_0 (pU_nil)
theorem ok_196 : sInOk pPT i_196 := sInst3 (M := pm_67) (cus := us_196) pOk pg_67 (by decide +kernel) ⟨_, _, _, _, (pS_nil), (pV_cons (List.mem_of_getElem? (i := 0) rfl) (pV_nil)), e_196⟩ (show ∀ u ∈ us_196, pQ_196 u from qb_196_0)
def pQ_197 (u : sCu) : Prop := ∃ (SM : List sIn) (H : gHt) (cu : List sCu) (n : Nat), (∀ I ∈ SM, sInOk pPT I) ∧ (∀ v ∈ cu, v ∈ us_197) ∧ sWhU pPT SM H i_197 (mR pm_97) cu n u = true
theorem q_197_0 : pQ_197 u_197_0 := ⟨_, _, _, _, (pS_cons ok_180 (pS_cons ok_181 (pS_nil))), (pV_nil), f_197_0⟩
theorem q_197_1 : pQ_197 u_197_1 := ⟨_, _, _, _, (pS_cons ok_195 (pS_cons ok_196 (pS_nil))), (pV_cons (List.mem_of_getElem? (i := 2) rfl) (pV_cons (List.mem_of_getElem? (i := 3) rfl) (pV_nil))), f_197_1⟩
theorem q_197_2 : pQ_197 u_197_2 := ⟨_, _, _, _, (pS_cons ok_195 (pS_nil)), (pV_cons (List.mem_of_getElem? (i := 4) rfl) (pV_cons (List.mem_of_getElem? (i := 5) rfl) (pV_nil))), f_197_2⟩
theorem q_197_3 : pQ_197 u_197_3 := ⟨_, _, _, _, (pS_cons ok_195 (pS_nil)), (pV_cons (List.mem_of_getElem? (i := 6) rfl) (pV_cons (List.mem_of_getElem? (i := 7) rfl) (pV_nil))), f_197_3⟩
theorem q_197_4 : pQ_197 u_197_4 := ⟨_, _, _, _, (pS_cons ok_113 (pS_cons ok_194 (pS_nil))), (pV_cons (List.mem_of_getElem? (i := 0) rfl) (pV_cons (List.mem_of_getElem? (i := 1) rfl) (pV_nil))), f_197_4⟩
theorem q_197_5 : pQ_197 u_197_5 := ⟨_, _, _, _, (pS_cons ok_113 (pS_cons ok_194 (pS_nil))), (pV_cons (List.mem_of_getElem? (i := 0) rfl) (pV_cons (List.mem_of_getElem? (i := 1) rfl) (pV_nil))), f_197_5⟩
theorem q_197_6 : pQ_197 u_197_6 := ⟨_, _, _, _, (pS_cons ok_113 (pS_cons ok_194 (pS_nil))), (pV_cons (List.mem_of_getElem? (i := 0) rfl) (pV_cons (List.mem_of_getElem? (i := 1) rfl) (pV_nil))), f_197_6⟩
theorem q_197_7 : pQ_197 u_197_7 := ⟨_, _, _, _, (pS_cons ok_113 (pS_cons ok_194 (pS_nil))), (pV_cons (List.mem_of_getElem? (i := 0) rfl) (pV_cons (List.mem_of_getElem? (i := 1) rfl) (pV_nil))), f_197_7⟩
theorem qb_197_0 : ∀ u ∈ [u_197_0, u_197_1, u_197_2, u_197_3, u_197_4, u_197_5, u_197_6, u_197_7], pQ_197 u := pU_cons q_197_0 (pU_cons q_197_1 (pU_cons q_197_2 (pU_cons q_197_3 (pU_cons q_197_4 (pU_cons q_197_5 (pU_cons q_197_6 (pU_cons q_197_7 (pU_nil))))))))
theorem ok_197 : sInOk pPT i_197 := sInst3 (M := pm_97) (cus := us_197) pOk pg_97 (by decide +kernel) ⟨_, _, _, _, (pS_cons ok_194 (pS_nil)), (pV_cons (List.mem_of_getElem? (i := 0) rfl) (pV_cons (List.mem_of_getElem? (i := 1) rfl) (pV_nil))), e_197⟩ (show ∀ u ∈ us_197, pQ_197 u from qb_197_0)
def pQ_198 (u : sCu) : Prop := ∃ (SM : List sIn) (H : gHt) (cu : List sCu) (n : Nat), (∀ I ∈ SM, sInOk pPT I) ∧ (∀ v ∈ cu, v ∈ us_198) ∧ sWhU pPT SM H i_198 (mR pm_67) cu n u = true
theorem q_198_0 : pQ_198 u_198_0 := ⟨_, _, _, _, (pS_nil), (pV_nil), f_198_0⟩
theorem qb_198_0 : ∀ u ∈ [u_198_0], pQ_198 u := pU_cons q_198_0 (pU_nil)
theorem ok_198 : sInOk pPT i_198 := sInst3 (M := pm_67) (cus := us_198) pOk pg_67 (by decide +kernel) ⟨_, _, _, _, (pS_nil), (pV_cons (List.mem_of_getElem? (i := 0) rfl) (pV_nil)), e_198⟩ (show ∀ u ∈ us_198, pQ_198 u from qb_198_0)
def pQ_199 (u : sCu) : Prop := ∃ (SM : List sIn) (H : gHt) (cu : List sCu) (n : Nat), (∀ I ∈ SM, sInOk pPT I) ∧ (∀ v ∈ cu, v ∈ us_199) ∧ sWhU pPT SM H i_199 (mR pm_67) cu n u = true
theorem q_199_0 : pQ_199 u_199_0 := ⟨_, _, _, _, (pS_nil), (pV_nil), f_199_0⟩
theorem qb_199_0 : ∀ u ∈ [u_199_0], pQ_199 u := pU_cons q_199_0 (pU_nil)
theorem ok_199 : sInOk pPT i_199 := sInst3 (M := pm_67) (cus := us_199) pOk pg_67 (by decide +kernel) ⟨_, _, _, _, (pS_nil), (pV_cons (List.mem_of_getElem? (i := 0) rfl) (pV_nil)), e_199⟩ (show ∀ u ∈ us_199, pQ_199 u from qb_199_0)
def pQ_200 (u : sCu) : Prop := ∃ (SM : List sIn) (H : gHt) (cu : List sCu) (n : Nat), (∀ I ∈ SM, sInOk pPT I) ∧ (∀ v ∈ cu, v ∈ us_200) ∧ sWhU pPT SM H i_200 (mR pm_98) cu n u = true
theorem q_200_0 : pQ_200 u_200_0 := ⟨_, _, _, _, (pS_cons ok_183 (pS_cons ok_184 (pS_nil))), (pV_nil), f_200_0⟩
theorem q_200_1 : pQ_200 u_200_1 := ⟨_, _, _, _, (pS_cons ok_198 (pS_cons ok_199 (pS_nil))), (pV_cons (List.mem_of_getElem? (i := 2) rfl) (pV_cons (List.mem_of_getElem? (i := 3) rfl) (pV_nil))), f_200_1⟩
theorem q_200_2 : pQ_200 u_200_2 := ⟨_, _, _, _, (pS_cons ok_198 (pS_nil)), (pV_cons (List.mem_of_getElem? (i := 4) rfl) (pV_cons (List.mem_of_getElem? (i := 5) rfl) (pV_nil))), f_200_2⟩
theorem q_200_3 : pQ_200 u_200_3 := ⟨_, _, _, _, (pS_cons ok_198 (pS_nil)), (pV_cons (List.mem_of_getElem? (i := 6) rfl) (pV_cons (List.mem_of_getElem? (i := 7) rfl) (pV_nil))), f_200_3⟩
theorem q_200_4 : pQ_200 u_200_4 := ⟨_, _, _, _, (pS_cons ok_113 (pS_cons ok_197 (pS_nil))), (pV_cons (List.mem_of_getElem? (i := 0) rfl) (pV_cons (List.mem_of_getElem? (i := 1) rfl) (pV_nil))), f_200_4⟩
theorem q_200_5 : pQ_200 u_200_5 := ⟨_, _, _, _, (pS_cons ok_113 (pS_cons ok_197 (pS_nil))), (pV_cons (List.mem_of_getElem? (i := 0) rfl) (pV_cons (List.mem_of_getElem? (i := 1) rfl) (pV_nil))), f_200_5⟩
theorem q_200_6 : pQ_200 u_200_6 := ⟨_, _, _, _, (pS_cons ok_113 (pS_cons ok_197 (pS_nil))), (pV_cons (List.mem_of_getElem? (i := 0) rfl) (pV_cons (List.mem_of_getElem? (i := 1) rfl) (pV_nil))), f_200_6⟩
theorem q_200_7 : pQ_200 u_200_7 := ⟨_, _, _, _, (pS_cons ok_113 (pS_cons ok_197 (pS_nil))), (pV_cons (List.mem_of_getElem? (i := 0) rfl) (pV_cons (List.mem_of_getElem? (i := 1) rfl) (pV_nil))), f_200_7⟩
theorem qb_200_0 : ∀ u ∈ [u_200_0, u_200_1, u_200_2, u_200_3, u_200_4, u_200_5, u_200_6, u_200_7], pQ_200 u := pU_cons q_200_0 (pU_cons q_200_1 (pU_cons q_200_2 (pU_cons q_200_3 (pU_cons q_200_4 (pU_cons q_200_5 (pU_cons q_200_6 (pU_cons q_200_7 (pU_nil))))))))
theorem ok_200 : sInOk pPT i_200 := sInst3 (M := pm_98) (cus := us_200) pOk pg_98 (by decide +kernel) ⟨_, _, _, _, (pS_cons ok_197 (pS_nil)), (pV_cons (List.mem_of_getElem? (i := 0) rfl) (pV_cons (List.mem_of_getElem? (i := 1) rfl) (pV_nil))), e_200⟩ (show ∀ u ∈ us_200, pQ_200 u from qb_200_0)
def pQ_201 (u : sCu) : Prop := ∃ (SM : List sIn) (H : gHt) (cu : List sCu) (n : Nat), (∀ I ∈ SM, sInOk pPT I) ∧ (∀ v ∈ cu, v ∈ us_201) ∧ sWhU pPT SM H i_201 (mR pm_67) cu n u = true
theorem q_201_0 : pQ_201 u_201_0 := ⟨_, _, _, _, (pS_nil), (pV_nil), f_201_0⟩
theorem qb_201_0 : ∀ u ∈ [u_201_0], pQ_201 u := pU_cons q_201_0 (pU_nil)
theorem ok_201 : sInOk pPT i_201 := sInst3 (M := pm_67) (cus := us_201) pOk pg_67 (by decide +kernel) ⟨_, _, _, _, (pS_nil), (pV_cons (List.mem_of_getElem? (i := 0) rfl) (pV_nil)), e_201⟩ (show ∀ u ∈ us_201, pQ_201 u from qb_201_0)
def pQ_202 (u : sCu) : Prop := ∃ (SM : List sIn) (H : gHt) (cu : List sCu) (n : Nat), (∀ I ∈ SM, sInOk pPT I) ∧ (∀ v ∈ cu, v ∈ us_202) ∧ sWhU pPT SM H i_202 (mR pm_67) cu n u = true
theorem q_202_0 : pQ_202 u_202_0 := ⟨_, _, _, _, (pS_nil), (pV_nil), f_202_0⟩
theorem qb_202_0 : ∀ u ∈ [u_202_0], pQ_202 u := pU_cons q_202_0 (pU_nil)
theorem ok_202 : sInOk pPT i_202 := sInst3 (M := pm_67) (cus := us_202) pOk pg_67 (by decide +kernel) ⟨_, _, _, _, (pS_nil), (pV_cons (List.mem_of_getElem? (i := 0) rfl) (pV_nil)), e_202⟩ (show ∀ u ∈ us_202, pQ_202 u from qb_202_0)
theorem ok_203 : sInOk pPT i_203 := sInst3 (M := pm_96) (cus := []) pOk pg_96 (by decide +kernel) ⟨_, _, _, _, (pS_nil), pV_nil, e_203⟩ pU_nil
def pQ_204 (u : sCu) : Prop := ∃ (SM : List sIn) (H : gHt) (cu : List sCu) (n : Nat), (∀ I ∈ SM, sInOk pPT I) ∧ (∀ v ∈ cu, v ∈ us_204) ∧ sWhU pPT SM H i_204 (mR pm_97) cu n u = true
theorem q_204_0 : pQ_204 u_204_0 := ⟨_, _, _, _, (pS_cons ok_180 (pS_cons ok_181 (pS_nil))), (pV_nil), f_204_0⟩
theorem qb_204_0 : ∀ u ∈ [u_204_0], pQ_204 u := pU_cons q_204_0 (pU_nil)
theorem ok_204 : sInOk pPT i_204 := sInst3 (M := pm_97) (cus := us_204) pOk pg_97 (by decide +kernel) ⟨_, _, _, _, (pS_cons ok_203 (pS_nil)), (pV_cons (List.mem_of_getElem? (i := 0) rfl) (pV_nil)), e_204⟩ (show ∀ u ∈ us_204, pQ_204 u from qb_204_0)
def pQ_205 (u : sCu) : Prop := ∃ (SM : List sIn) (H : gHt) (cu : List sCu) (n : Nat), (∀ I ∈ SM, sInOk pPT I) ∧ (∀ v ∈ cu, v ∈ us_205) ∧ sWhU pPT SM H i_205 (mR pm_98) cu n u = true
theorem q_205_0 : pQ_205 u_205_0 := ⟨_, _, _, _, (pS_cons ok_183 (pS_cons ok_184 (pS_nil))), (pV_nil), f_205_0⟩
theorem qb_205_0 : ∀ u ∈ [u_205_0], pQ_205 u := pU_cons q_205_0 (pU_nil)
theorem ok_205 : sInOk pPT i_205 := sInst3 (M := pm_98) (cus := us_205) pOk pg_98 (by decide +kernel) ⟨_, _, _, _, (pS_cons ok_204 (pS_nil)), (pV_cons (List.mem_of_getElem? (i := 0) rfl) (pV_nil)), e_205⟩ (show ∀ u ∈ us_205, pQ_205 u from qb_205_0)
def pQ_206 (u : sCu) : Prop := ∃ (SM : List sIn) (H : gHt) (cu : List sCu) (n : Nat), (∀ I ∈ SM, sInOk pPT I) ∧ (∀ v ∈ cu, v ∈ us_206) ∧ sWhU pPT SM H i_206 (mR pm_94) cu n u = true
theorem q_206_0 : pQ_206 u_206_0 := ⟨_, _, _, _, (pS_cons ok_160 (pS_cons ok_186 (pS_cons ok_187 (pS_cons ok_200 (pS_cons ok_201 (pS_cons ok_202 (pS_nil))))))), (pV_cons (List.mem_of_getElem? (i := 1) rfl) (pV_cons (List.mem_of_getElem? (i := 2) rfl) (pV_cons (List.mem_of_getElem? (i := 3) rfl) (pV_cons (List.mem_of_getElem? (i := 4) rfl) (pV_cons (List.mem_of_getElem? (i := 5) rfl) (pV_nil)))))), f_206_0⟩
theorem q_206_1 : pQ_206 u_206_1 := ⟨_, _, _, _, (pS_nil), (pV_cons (List.mem_of_getElem? (i := 6) rfl) (pV_nil)), f_206_1⟩
theorem q_206_2 : pQ_206 u_206_2 := ⟨_, _, _, _, (pS_cons ok_201 (pS_nil)), (pV_cons (List.mem_of_getElem? (i := 7) rfl) (pV_cons (List.mem_of_getElem? (i := 8) rfl) (pV_nil))), f_206_2⟩
theorem q_206_3 : pQ_206 u_206_3 := ⟨_, _, _, _, (pS_cons ok_201 (pS_nil)), (pV_cons (List.mem_of_getElem? (i := 7) rfl) (pV_cons (List.mem_of_getElem? (i := 10) rfl) (pV_nil))), f_206_3⟩
theorem q_206_4 : pQ_206 u_206_4 := ⟨_, _, _, _, (pS_nil), (pV_cons (List.mem_of_getElem? (i := 11) rfl) (pV_nil)), f_206_4⟩
theorem q_206_5 : pQ_206 u_206_5 := ⟨_, _, _, _, (pS_cons ok_113 (pS_nil)), (pV_cons (List.mem_of_getElem? (i := 12) rfl) (pV_nil)), f_206_5⟩
theorem q_206_6 : pQ_206 u_206_6 := ⟨_, _, _, _, (pS_nil), (pV_nil), f_206_6⟩
theorem q_206_7 : pQ_206 u_206_7 := ⟨_, _, _, _, (pS_cons ok_113 (pS_cons ok_200 (pS_nil))), (pV_cons (List.mem_of_getElem? (i := 1) rfl) (pV_cons (List.mem_of_getElem? (i := 14) rfl) (pV_nil))), f_206_7⟩
theorem q_206_8 : pQ_206 u_206_8 := ⟨_, _, _, _, (pS_cons ok_113 (pS_cons ok_200 (pS_nil))), (pV_cons (List.mem_of_getElem? (i := 1) rfl) (pV_cons (List.mem_of_getElem? (i := 14) rfl) (pV_nil))), f_206_8⟩
theorem q_206_9 : pQ_206 u_206_9 := ⟨_, _, _, _, (pS_cons ok_113 (pS_cons ok_200 (pS_nil))), (pV_cons (List.mem_of_getElem? (i := 1) rfl) (pV_cons (List.mem_of_getElem? (i := 14) rfl) (pV_nil))), f_206_9⟩
theorem q_206_10 : pQ_206 u_206_10 := ⟨_, _, _, _, (pS_cons ok_113 (pS_cons ok_200 (pS_nil))), (pV_cons (List.mem_of_getElem? (i := 1) rfl) (pV_cons (List.mem_of_getElem? (i := 14) rfl) (pV_nil))), f_206_10⟩
theorem q_206_11 : pQ_206 u_206_11 := ⟨_, _, _, _, (pS_nil), (pV_nil), f_206_11⟩
theorem q_206_12 : pQ_206 u_206_12 := ⟨_, _, _, _, (pS_cons ok_160 (pS_cons ok_186 (pS_cons ok_187 (pS_cons ok_200 (pS_cons ok_201 (pS_cons ok_202 (pS_nil))))))), (pV_cons (List.mem_of_getElem? (i := 17) rfl) (pV_cons (List.mem_of_getElem? (i := 18) rfl) (pV_cons (List.mem_of_getElem? (i := 19) rfl) (pV_cons (List.mem_of_getElem? (i := 20) rfl) (pV_cons (List.mem_of_getElem? (i := 21) rfl) (pV_nil)))))), f_206_12⟩
theorem q_206_13 : pQ_206 u_206_13 := ⟨_, _, _, _, (pS_nil), (pV_cons (List.mem_of_getElem? (i := 6) rfl) (pV_nil)), f_206_13⟩
theorem q_206_14 : pQ_206 u_206_14 := ⟨_, _, _, _, (pS_nil), (pV_cons (List.mem_of_getElem? (i := 11) rfl) (pV_nil)), f_206_14⟩
theorem q_206_15 : pQ_206 u_206_15 := ⟨_, _, _, _, (pS_nil), (pV_cons (List.mem_of_getElem? (i := 6) rfl) (pV_nil)), f_206_15⟩
theorem q_206_16 : pQ_206 u_206_16 := ⟨_, _, _, _, (pS_nil), (pV_cons (List.mem_of_getElem? (i := 11) rfl) (pV_nil)), f_206_16⟩
theorem q_206_17 : pQ_206 u_206_17 := ⟨_, _, _, _, (pS_nil), (pV_cons (List.mem_of_getElem? (i := 22) rfl) (pV_nil)), f_206_17⟩
theorem q_206_18 : pQ_206 u_206_18 := ⟨_, _, _, _, (pS_cons ok_201 (pS_nil)), (pV_cons (List.mem_of_getElem? (i := 23) rfl) (pV_cons (List.mem_of_getElem? (i := 24) rfl) (pV_nil))), f_206_18⟩
theorem q_206_19 : pQ_206 u_206_19 := ⟨_, _, _, _, (pS_cons ok_201 (pS_nil)), (pV_cons (List.mem_of_getElem? (i := 23) rfl) (pV_cons (List.mem_of_getElem? (i := 26) rfl) (pV_nil))), f_206_19⟩
theorem q_206_20 : pQ_206 u_206_20 := ⟨_, _, _, _, (pS_nil), (pV_cons (List.mem_of_getElem? (i := 27) rfl) (pV_nil)), f_206_20⟩
theorem q_206_21 : pQ_206 u_206_21 := ⟨_, _, _, _, (pS_cons ok_113 (pS_nil)), (pV_cons (List.mem_of_getElem? (i := 28) rfl) (pV_nil)), f_206_21⟩
theorem q_206_22 : pQ_206 u_206_22 := ⟨_, _, _, _, (pS_nil), (pV_cons (List.mem_of_getElem? (i := 29) rfl) (pV_nil)), f_206_22⟩
theorem q_206_23 : pQ_206 u_206_23 := ⟨_, _, _, _, (pS_cons ok_113 (pS_cons ok_200 (pS_nil))), (pV_cons (List.mem_of_getElem? (i := 17) rfl) (pV_cons (List.mem_of_getElem? (i := 31) rfl) (pV_nil))), f_206_23⟩
theorem q_206_24 : pQ_206 u_206_24 := ⟨_, _, _, _, (pS_cons ok_113 (pS_cons ok_200 (pS_nil))), (pV_cons (List.mem_of_getElem? (i := 17) rfl) (pV_cons (List.mem_of_getElem? (i := 31) rfl) (pV_nil))), f_206_24⟩
theorem q_206_25 : pQ_206 u_206_25 := ⟨_, _, _, _, (pS_cons ok_113 (pS_cons ok_200 (pS_nil))), (pV_cons (List.mem_of_getElem? (i := 17) rfl) (pV_cons (List.mem_of_getElem? (i := 31) rfl) (pV_nil))), f_206_25⟩
theorem q_206_26 : pQ_206 u_206_26 := ⟨_, _, _, _, (pS_cons ok_113 (pS_cons ok_200 (pS_nil))), (pV_cons (List.mem_of_getElem? (i := 17) rfl) (pV_cons (List.mem_of_getElem? (i := 31) rfl) (pV_nil))), f_206_26⟩
theorem q_206_27 : pQ_206 u_206_27 := ⟨_, _, _, _, (pS_nil), (pV_cons (List.mem_of_getElem? (i := 34) rfl) (pV_nil)), f_206_27⟩
theorem q_206_28 : pQ_206 u_206_28 := ⟨_, _, _, _, (pS_cons ok_160 (pS_cons ok_186 (pS_cons ok_187 (pS_cons ok_200 (pS_cons ok_201 (pS_cons ok_202 (pS_nil))))))), (pV_cons (List.mem_of_getElem? (i := 35) rfl) (pV_cons (List.mem_of_getElem? (i := 36) rfl) (pV_cons (List.mem_of_getElem? (i := 37) rfl) (pV_cons (List.mem_of_getElem? (i := 38) rfl) (pV_cons (List.mem_of_getElem? (i := 39) rfl) (pV_nil)))))), f_206_28⟩
theorem q_206_29 : pQ_206 u_206_29 := ⟨_, _, _, _, (pS_nil), (pV_nil), f_206_29⟩
theorem q_206_30 : pQ_206 u_206_30 := ⟨_, _, _, _, (pS_nil), (pV_cons (List.mem_of_getElem? (i := 22) rfl) (pV_nil)), f_206_30⟩
theorem q_206_31 : pQ_206 u_206_31 := ⟨_, _, _, _, (pS_nil), (pV_cons (List.mem_of_getElem? (i := 27) rfl) (pV_nil)), f_206_31⟩
theorem q_206_32 : pQ_206 u_206_32 := ⟨_, _, _, _, (pS_nil), (pV_cons (List.mem_of_getElem? (i := 22) rfl) (pV_nil)), f_206_32⟩
theorem q_206_33 : pQ_206 u_206_33 := ⟨_, _, _, _, (pS_nil), (pV_cons (List.mem_of_getElem? (i := 27) rfl) (pV_nil)), f_206_33⟩
theorem q_206_34 : pQ_206 u_206_34 := ⟨_, _, _, _, (pS_nil), (pV_nil), f_206_34⟩
theorem q_206_35 : pQ_206 u_206_35 := ⟨_, _, _, _, (pS_nil), (pV_cons (List.mem_of_getElem? (i := 40) rfl) (pV_nil)), f_206_35⟩
theorem q_206_36 : pQ_206 u_206_36 := ⟨_, _, _, _, (pS_cons ok_201 (pS_nil)), (pV_cons (List.mem_of_getElem? (i := 41) rfl) (pV_cons (List.mem_of_getElem? (i := 42) rfl) (pV_nil))), f_206_36⟩
theorem q_206_37 : pQ_206 u_206_37 := ⟨_, _, _, _, (pS_cons ok_201 (pS_nil)), (pV_cons (List.mem_of_getElem? (i := 41) rfl) (pV_cons (List.mem_of_getElem? (i := 44) rfl) (pV_nil))), f_206_37⟩
theorem q_206_38 : pQ_206 u_206_38 := ⟨_, _, _, _, (pS_nil), (pV_cons (List.mem_of_getElem? (i := 45) rfl) (pV_nil)), f_206_38⟩
theorem q_206_39 : pQ_206 u_206_39 := ⟨_, _, _, _, (pS_cons ok_113 (pS_nil)), (pV_cons (List.mem_of_getElem? (i := 46) rfl) (pV_nil)), f_206_39⟩
theorem q_206_40 : pQ_206 u_206_40 := ⟨_, _, _, _, (pS_nil), (pV_cons (List.mem_of_getElem? (i := 47) rfl) (pV_nil)), f_206_40⟩
theorem q_206_41 : pQ_206 u_206_41 := ⟨_, _, _, _, (pS_cons ok_113 (pS_cons ok_200 (pS_nil))), (pV_cons (List.mem_of_getElem? (i := 35) rfl) (pV_cons (List.mem_of_getElem? (i := 49) rfl) (pV_nil))), f_206_41⟩
theorem q_206_42 : pQ_206 u_206_42 := ⟨_, _, _, _, (pS_cons ok_113 (pS_cons ok_200 (pS_nil))), (pV_cons (List.mem_of_getElem? (i := 35) rfl) (pV_cons (List.mem_of_getElem? (i := 49) rfl) (pV_nil))), f_206_42⟩
theorem q_206_43 : pQ_206 u_206_43 := ⟨_, _, _, _, (pS_cons ok_113 (pS_cons ok_200 (pS_nil))), (pV_cons (List.mem_of_getElem? (i := 35) rfl) (pV_cons (List.mem_of_getElem? (i := 49) rfl) (pV_nil))), f_206_43⟩
theorem q_206_44 : pQ_206 u_206_44 := ⟨_, _, _, _, (pS_cons ok_113 (pS_cons ok_200 (pS_nil))), (pV_cons (List.mem_of_getElem? (i := 35) rfl) (pV_cons (List.mem_of_getElem? (i := 49) rfl) (pV_nil))), f_206_44⟩
theorem q_206_45 : pQ_206 u_206_45 := ⟨_, _, _, _, (pS_nil), (pV_cons (List.mem_of_getElem? (i := 52) rfl) (pV_nil)), f_206_45⟩
theorem q_206_46 : pQ_206 u_206_46 := ⟨_, _, _, _, (pS_cons ok_160 (pS_cons ok_186 (pS_cons ok_187 (pS_cons ok_200 (pS_cons ok_201 (pS_cons ok_202 (pS_nil))))))), (pV_cons (List.mem_of_getElem? (i := 53) rfl) (pV_cons (List.mem_of_getElem? (i := 54) rfl) (pV_cons (List.mem_of_getElem? (i := 55) rfl) (pV_cons (List.mem_of_getElem? (i := 56) rfl) (pV_cons (List.mem_of_getElem? (i := 57) rfl) (pV_nil)))))), f_206_46⟩
theorem q_206_47 : pQ_206 u_206_47 := ⟨_, _, _, _, (pS_nil), (pV_cons (List.mem_of_getElem? (i := 58) rfl) (pV_nil)), f_206_47⟩
theorem q_206_48 : pQ_206 u_206_48 := ⟨_, _, _, _, (pS_nil), (pV_cons (List.mem_of_getElem? (i := 40) rfl) (pV_nil)), f_206_48⟩
theorem q_206_49 : pQ_206 u_206_49 := ⟨_, _, _, _, (pS_nil), (pV_cons (List.mem_of_getElem? (i := 45) rfl) (pV_nil)), f_206_49⟩
theorem q_206_50 : pQ_206 u_206_50 := ⟨_, _, _, _, (pS_nil), (pV_cons (List.mem_of_getElem? (i := 40) rfl) (pV_nil)), f_206_50⟩
theorem q_206_51 : pQ_206 u_206_51 := ⟨_, _, _, _, (pS_nil), (pV_cons (List.mem_of_getElem? (i := 45) rfl) (pV_nil)), f_206_51⟩
theorem q_206_52 : pQ_206 u_206_52 := ⟨_, _, _, _, (pS_nil), (pV_cons (List.mem_of_getElem? (i := 59) rfl) (pV_nil)), f_206_52⟩
theorem q_206_53 : pQ_206 u_206_53 := ⟨_, _, _, _, (pS_nil), (pV_cons (List.mem_of_getElem? (i := 60) rfl) (pV_nil)), f_206_53⟩
theorem q_206_54 : pQ_206 u_206_54 := ⟨_, _, _, _, (pS_cons ok_201 (pS_nil)), (pV_cons (List.mem_of_getElem? (i := 61) rfl) (pV_cons (List.mem_of_getElem? (i := 62) rfl) (pV_nil))), f_206_54⟩
theorem q_206_55 : pQ_206 u_206_55 := ⟨_, _, _, _, (pS_cons ok_201 (pS_nil)), (pV_cons (List.mem_of_getElem? (i := 61) rfl) (pV_cons (List.mem_of_getElem? (i := 64) rfl) (pV_nil))), f_206_55⟩
theorem q_206_56 : pQ_206 u_206_56 := ⟨_, _, _, _, (pS_nil), (pV_cons (List.mem_of_getElem? (i := 65) rfl) (pV_nil)), f_206_56⟩
theorem q_206_57 : pQ_206 u_206_57 := ⟨_, _, _, _, (pS_cons ok_113 (pS_nil)), (pV_cons (List.mem_of_getElem? (i := 66) rfl) (pV_nil)), f_206_57⟩
theorem q_206_58 : pQ_206 u_206_58 := ⟨_, _, _, _, (pS_nil), (pV_nil), f_206_58⟩
theorem q_206_59 : pQ_206 u_206_59 := ⟨_, _, _, _, (pS_nil), (pV_nil), f_206_59⟩
theorem q_206_60 : pQ_206 u_206_60 := ⟨_, _, _, _, (pS_nil), (pV_cons (List.mem_of_getElem? (i := 67) rfl) (pV_nil)), f_206_60⟩
theorem q_206_61 : pQ_206 u_206_61 := ⟨_, _, _, _, (pS_cons ok_113 (pS_cons ok_200 (pS_nil))), (pV_cons (List.mem_of_getElem? (i := 53) rfl) (pV_cons (List.mem_of_getElem? (i := 69) rfl) (pV_nil))), f_206_61⟩
theorem q_206_62 : pQ_206 u_206_62 := ⟨_, _, _, _, (pS_cons ok_113 (pS_cons ok_200 (pS_nil))), (pV_cons (List.mem_of_getElem? (i := 53) rfl) (pV_cons (List.mem_of_getElem? (i := 69) rfl) (pV_nil))), f_206_62⟩
theorem q_206_63 : pQ_206 u_206_63 := ⟨_, _, _, _, (pS_cons ok_113 (pS_cons ok_200 (pS_nil))), (pV_cons (List.mem_of_getElem? (i := 53) rfl) (pV_cons (List.mem_of_getElem? (i := 69) rfl) (pV_nil))), f_206_63⟩
theorem q_206_64 : pQ_206 u_206_64 := ⟨_, _, _, _, (pS_cons ok_113 (pS_cons ok_200 (pS_nil))), (pV_cons (List.mem_of_getElem? (i := 53) rfl) (pV_cons (List.mem_of_getElem? (i := 69) rfl) (pV_nil))), f_206_64⟩
theorem q_206_65 : pQ_206 u_206_65 := ⟨_, _, _, _, (pS_nil), (pV_cons (List.mem_of_getElem? (i := 72) rfl) (pV_nil)), f_206_65⟩
theorem q_206_66 : pQ_206 u_206_66 := ⟨_, _, _, _, (pS_cons ok_160 (pS_cons ok_186 (pS_cons ok_187 (pS_cons ok_200 (pS_cons ok_201 (pS_cons ok_202 (pS_nil))))))), (pV_cons (List.mem_of_getElem? (i := 73) rfl) (pV_cons (List.mem_of_getElem? (i := 74) rfl) (pV_cons (List.mem_of_getElem? (i := 75) rfl) (pV_cons (List.mem_of_getElem? (i := 76) rfl) (pV_cons (List.mem_of_getElem? (i := 77) rfl) (pV_nil)))))), f_206_66⟩
theorem q_206_67 : pQ_206 u_206_67 := ⟨_, _, _, _, (pS_nil), (pV_cons (List.mem_of_getElem? (i := 78) rfl) (pV_nil)), f_206_67⟩
theorem q_206_68 : pQ_206 u_206_68 := ⟨_, _, _, _, (pS_nil), (pV_cons (List.mem_of_getElem? (i := 60) rfl) (pV_nil)), f_206_68⟩
theorem q_206_69 : pQ_206 u_206_69 := ⟨_, _, _, _, (pS_nil), (pV_cons (List.mem_of_getElem? (i := 65) rfl) (pV_nil)), f_206_69⟩
theorem q_206_70 : pQ_206 u_206_70 := ⟨_, _, _, _, (pS_nil), (pV_cons (List.mem_of_getElem? (i := 60) rfl) (pV_nil)), f_206_70⟩
theorem q_206_71 : pQ_206 u_206_71 := ⟨_, _, _, _, (pS_nil), (pV_cons (List.mem_of_getElem? (i := 65) rfl) (pV_nil)), f_206_71⟩
theorem q_206_72 : pQ_206 u_206_72 := ⟨_, _, _, _, (pS_nil), (pV_cons (List.mem_of_getElem? (i := 79) rfl) (pV_nil)), f_206_72⟩
theorem q_206_73 : pQ_206 u_206_73 := ⟨_, _, _, _, (pS_nil), (pV_cons (List.mem_of_getElem? (i := 80) rfl) (pV_nil)), f_206_73⟩
theorem q_206_74 : pQ_206 u_206_74 := ⟨_, _, _, _, (pS_cons ok_201 (pS_nil)), (pV_cons (List.mem_of_getElem? (i := 81) rfl) (pV_cons (List.mem_of_getElem? (i := 82) rfl) (pV_nil))), f_206_74⟩
theorem q_206_75 : pQ_206 u_206_75 := ⟨_, _, _, _, (pS_cons ok_201 (pS_nil)), (pV_cons (List.mem_of_getElem? (i := 81) rfl) (pV_cons (List.mem_of_getElem? (i := 84) rfl) (pV_nil))), f_206_75⟩
theorem q_206_76 : pQ_206 u_206_76 := ⟨_, _, _, _, (pS_nil), (pV_cons (List.mem_of_getElem? (i := 85) rfl) (pV_nil)), f_206_76⟩
theorem q_206_77 : pQ_206 u_206_77 := ⟨_, _, _, _, (pS_cons ok_113 (pS_nil)), (pV_cons (List.mem_of_getElem? (i := 86) rfl) (pV_nil)), f_206_77⟩
theorem q_206_78 : pQ_206 u_206_78 := ⟨_, _, _, _, (pS_nil), (pV_cons (List.mem_of_getElem? (i := 87) rfl) (pV_nil)), f_206_78⟩
theorem q_206_79 : pQ_206 u_206_79 := ⟨_, _, _, _, (pS_nil), (pV_cons (List.mem_of_getElem? (i := 88) rfl) (pV_nil)), f_206_79⟩
theorem q_206_80 : pQ_206 u_206_80 := ⟨_, _, _, _, (pS_nil), (pV_cons (List.mem_of_getElem? (i := 89) rfl) (pV_nil)), f_206_80⟩
theorem q_206_81 : pQ_206 u_206_81 := ⟨_, _, _, _, (pS_cons ok_113 (pS_cons ok_200 (pS_nil))), (pV_cons (List.mem_of_getElem? (i := 73) rfl) (pV_cons (List.mem_of_getElem? (i := 91) rfl) (pV_nil))), f_206_81⟩
theorem q_206_82 : pQ_206 u_206_82 := ⟨_, _, _, _, (pS_cons ok_113 (pS_cons ok_200 (pS_nil))), (pV_cons (List.mem_of_getElem? (i := 73) rfl) (pV_cons (List.mem_of_getElem? (i := 91) rfl) (pV_nil))), f_206_82⟩
theorem q_206_83 : pQ_206 u_206_83 := ⟨_, _, _, _, (pS_cons ok_113 (pS_cons ok_200 (pS_nil))), (pV_cons (List.mem_of_getElem? (i := 73) rfl) (pV_cons (List.mem_of_getElem? (i := 91) rfl) (pV_nil))), f_206_83⟩
theorem q_206_84 : pQ_206 u_206_84 := ⟨_, _, _, _, (pS_cons ok_113 (pS_cons ok_200 (pS_nil))), (pV_cons (List.mem_of_getElem? (i := 73) rfl) (pV_cons (List.mem_of_getElem? (i := 91) rfl) (pV_nil))), f_206_84⟩
theorem q_206_85 : pQ_206 u_206_85 := ⟨_, _, _, _, (pS_nil), (pV_cons (List.mem_of_getElem? (i := 94) rfl) (pV_nil)), f_206_85⟩
theorem q_206_86 : pQ_206 u_206_86 := ⟨_, _, _, _, (pS_cons ok_160 (pS_cons ok_186 (pS_cons ok_187 (pS_cons ok_200 (pS_cons ok_201 (pS_cons ok_202 (pS_nil))))))), (pV_cons (List.mem_of_getElem? (i := 95) rfl) (pV_cons (List.mem_of_getElem? (i := 96) rfl) (pV_cons (List.mem_of_getElem? (i := 97) rfl) (pV_cons (List.mem_of_getElem? (i := 98) rfl) (pV_cons (List.mem_of_getElem? (i := 99) rfl) (pV_nil)))))), f_206_86⟩
theorem q_206_87 : pQ_206 u_206_87 := ⟨_, _, _, _, (pS_nil), (pV_nil), f_206_87⟩
theorem q_206_88 : pQ_206 u_206_88 := ⟨_, _, _, _, (pS_nil), (pV_nil), f_206_88⟩
theorem q_206_89 : pQ_206 u_206_89 := ⟨_, _, _, _, (pS_nil), (pV_cons (List.mem_of_getElem? (i := 100) rfl) (pV_nil)), f_206_89⟩
theorem q_206_90 : pQ_206 u_206_90 := ⟨_, _, _, _, (pS_nil), (pV_cons (List.mem_of_getElem? (i := 80) rfl) (pV_nil)), f_206_90⟩
theorem q_206_91 : pQ_206 u_206_91 := ⟨_, _, _, _, (pS_nil), (pV_cons (List.mem_of_getElem? (i := 85) rfl) (pV_nil)), f_206_91⟩
theorem q_206_92 : pQ_206 u_206_92 := ⟨_, _, _, _, (pS_nil), (pV_cons (List.mem_of_getElem? (i := 80) rfl) (pV_nil)), f_206_92⟩
theorem q_206_93 : pQ_206 u_206_93 := ⟨_, _, _, _, (pS_nil), (pV_cons (List.mem_of_getElem? (i := 85) rfl) (pV_nil)), f_206_93⟩
theorem q_206_94 : pQ_206 u_206_94 := ⟨_, _, _, _, (pS_nil), (pV_cons (List.mem_of_getElem? (i := 101) rfl) (pV_nil)), f_206_94⟩
theorem q_206_95 : pQ_206 u_206_95 := ⟨_, _, _, _, (pS_nil), (pV_cons (List.mem_of_getElem? (i := 102) rfl) (pV_nil)), f_206_95⟩
theorem q_206_96 : pQ_206 u_206_96 := ⟨_, _, _, _, (pS_cons ok_201 (pS_nil)), (pV_cons (List.mem_of_getElem? (i := 103) rfl) (pV_cons (List.mem_of_getElem? (i := 104) rfl) (pV_nil))), f_206_96⟩
theorem q_206_97 : pQ_206 u_206_97 := ⟨_, _, _, _, (pS_cons ok_201 (pS_nil)), (pV_cons (List.mem_of_getElem? (i := 103) rfl) (pV_cons (List.mem_of_getElem? (i := 106) rfl) (pV_nil))), f_206_97⟩
theorem q_206_98 : pQ_206 u_206_98 := ⟨_, _, _, _, (pS_nil), (pV_cons (List.mem_of_getElem? (i := 107) rfl) (pV_nil)), f_206_98⟩
theorem q_206_99 : pQ_206 u_206_99 := ⟨_, _, _, _, (pS_cons ok_113 (pS_nil)), (pV_cons (List.mem_of_getElem? (i := 108) rfl) (pV_nil)), f_206_99⟩
theorem q_206_100 : pQ_206 u_206_100 := ⟨_, _, _, _, (pS_nil), (pV_cons (List.mem_of_getElem? (i := 109) rfl) (pV_nil)), f_206_100⟩
theorem q_206_101 : pQ_206 u_206_101 := ⟨_, _, _, _, (pS_nil), (pV_cons (List.mem_of_getElem? (i := 110) rfl) (pV_nil)), f_206_101⟩
theorem q_206_102 : pQ_206 u_206_102 := ⟨_, _, _, _, (pS_nil), (pV_cons (List.mem_of_getElem? (i := 111) rfl) (pV_nil)), f_206_102⟩
theorem q_206_103 : pQ_206 u_206_103 := ⟨_, _, _, _, (pS_cons ok_113 (pS_cons ok_200 (pS_nil))), (pV_cons (List.mem_of_getElem? (i := 95) rfl) (pV_cons (List.mem_of_getElem? (i := 113) rfl) (pV_nil))), f_206_103⟩
theorem q_206_104 : pQ_206 u_206_104 := ⟨_, _, _, _, (pS_cons ok_113 (pS_cons ok_200 (pS_nil))), (pV_cons (List.mem_of_getElem? (i := 95) rfl) (pV_cons (List.mem_of_getElem? (i := 113) rfl) (pV_nil))), f_206_104⟩
theorem q_206_105 : pQ_206 u_206_105 := ⟨_, _, _, _, (pS_cons ok_113 (pS_cons ok_200 (pS_nil))), (pV_cons (List.mem_of_getElem? (i := 95) rfl) (pV_cons (List.mem_of_getElem? (i := 113) rfl) (pV_nil))), f_206_105⟩
theorem q_206_106 : pQ_206 u_206_106 := ⟨_, _, _, _, (pS_cons ok_113 (pS_cons ok_200 (pS_nil))), (pV_cons (List.mem_of_getElem? (i := 95) rfl) (pV_cons (List.mem_of_getElem? (i := 113) rfl) (pV_nil))), f_206_106⟩
theorem q_206_107 : pQ_206 u_206_107 := ⟨_, _, _, _, (pS_nil), (pV_cons (List.mem_of_getElem? (i := 116) rfl) (pV_nil)), f_206_107⟩
theorem q_206_108 : pQ_206 u_206_108 := ⟨_, _, _, _, (pS_cons ok_160 (pS_cons ok_186 (pS_cons ok_187 (pS_cons ok_200 (pS_cons ok_201 (pS_cons ok_202 (pS_nil))))))), (pV_cons (List.mem_of_getElem? (i := 117) rfl) (pV_cons (List.mem_of_getElem? (i := 118) rfl) (pV_cons (List.mem_of_getElem? (i := 119) rfl) (pV_cons (List.mem_of_getElem? (i := 120) rfl) (pV_cons (List.mem_of_getElem? (i := 121) rfl) (pV_nil)))))), f_206_108⟩
theorem q_206_109 : pQ_206 u_206_109 := ⟨_, _, _, _, (pS_nil), (pV_cons (List.mem_of_getElem? (i := 122) rfl) (pV_nil)), f_206_109⟩
theorem q_206_110 : pQ_206 u_206_110 := ⟨_, _, _, _, (pS_nil), (pV_cons (List.mem_of_getElem? (i := 123) rfl) (pV_nil)), f_206_110⟩
theorem q_206_111 : pQ_206 u_206_111 := ⟨_, _, _, _, (pS_nil), (pV_cons (List.mem_of_getElem? (i := 124) rfl) (pV_nil)), f_206_111⟩
theorem q_206_112 : pQ_206 u_206_112 := ⟨_, _, _, _, (pS_nil), (pV_cons (List.mem_of_getElem? (i := 102) rfl) (pV_nil)), f_206_112⟩
theorem q_206_113 : pQ_206 u_206_113 := ⟨_, _, _, _, (pS_nil), (pV_cons (List.mem_of_getElem? (i := 107) rfl) (pV_nil)), f_206_113⟩
theorem q_206_114 : pQ_206 u_206_114 := ⟨_, _, _, _, (pS_nil), (pV_cons (List.mem_of_getElem? (i := 102) rfl) (pV_nil)), f_206_114⟩
theorem q_206_115 : pQ_206 u_206_115 := ⟨_, _, _, _, (pS_nil), (pV_cons (List.mem_of_getElem? (i := 107) rfl) (pV_nil)), f_206_115⟩
theorem q_206_116 : pQ_206 u_206_116 := ⟨_, _, _, _, (pS_nil), (pV_cons (List.mem_of_getElem? (i := 125) rfl) (pV_nil)), f_206_116⟩
theorem q_206_117 : pQ_206 u_206_117 := ⟨_, _, _, _, (pS_nil), (pV_cons (List.mem_of_getElem? (i := 126) rfl) (pV_nil)), f_206_117⟩
theorem q_206_118 : pQ_206 u_206_118 := ⟨_, _, _, _, (pS_cons ok_201 (pS_nil)), (pV_cons (List.mem_of_getElem? (i := 127) rfl) (pV_cons (List.mem_of_getElem? (i := 128) rfl) (pV_nil))), f_206_118⟩
theorem q_206_119 : pQ_206 u_206_119 := ⟨_, _, _, _, (pS_cons ok_201 (pS_nil)), (pV_cons (List.mem_of_getElem? (i := 127) rfl) (pV_cons (List.mem_of_getElem? (i := 130) rfl) (pV_nil))), f_206_119⟩
theorem q_206_120 : pQ_206 u_206_120 := ⟨_, _, _, _, (pS_nil), (pV_cons (List.mem_of_getElem? (i := 131) rfl) (pV_nil)), f_206_120⟩
theorem q_206_121 : pQ_206 u_206_121 := ⟨_, _, _, _, (pS_nil), (pV_cons (List.mem_of_getElem? (i := 132) rfl) (pV_nil)), f_206_121⟩
theorem q_206_122 : pQ_206 u_206_122 := ⟨_, _, _, _, (pS_nil), (pV_nil), f_206_122⟩
theorem q_206_123 : pQ_206 u_206_123 := ⟨_, _, _, _, (pS_nil), (pV_nil), f_206_123⟩
theorem q_206_124 : pQ_206 u_206_124 := ⟨_, _, _, _, (pS_nil), (pV_cons (List.mem_of_getElem? (i := 133) rfl) (pV_nil)), f_206_124⟩
theorem q_206_125 : pQ_206 u_206_125 := ⟨_, _, _, _, (pS_nil), (pV_cons (List.mem_of_getElem? (i := 134) rfl) (pV_nil)), f_206_125⟩
theorem q_206_126 : pQ_206 u_206_126 := ⟨_, _, _, _, (pS_nil), (pV_cons (List.mem_of_getElem? (i := 135) rfl) (pV_nil)), f_206_126⟩
theorem q_206_127 : pQ_206 u_206_127 := ⟨_, _, _, _, (pS_cons ok_113 (pS_cons ok_200 (pS_nil))), (pV_cons (List.mem_of_getElem? (i := 117) rfl) (pV_cons (List.mem_of_getElem? (i := 137) rfl) (pV_nil))), f_206_127⟩
theorem q_206_128 : pQ_206 u_206_128 := ⟨_, _, _, _, (pS_cons ok_113 (pS_cons ok_200 (pS_nil))), (pV_cons (List.mem_of_getElem? (i := 117) rfl) (pV_cons (List.mem_of_getElem? (i := 137) rfl) (pV_nil))), f_206_128⟩
theorem q_206_129 : pQ_206 u_206_129 := ⟨_, _, _, _, (pS_cons ok_113 (pS_cons ok_200 (pS_nil))), (pV_cons (List.mem_of_getElem? (i := 117) rfl) (pV_cons (List.mem_of_getElem? (i := 137) rfl) (pV_nil))), f_206_129⟩
theorem q_206_130 : pQ_206 u_206_130 := ⟨_, _, _, _, (pS_cons ok_113 (pS_cons ok_200 (pS_nil))), (pV_cons (List.mem_of_getElem? (i := 117) rfl) (pV_cons (List.mem_of_getElem? (i := 137) rfl) (pV_nil))), f_206_130⟩
theorem q_206_131 : pQ_206 u_206_131 := ⟨_, _, _, _, (pS_nil), (pV_cons (List.mem_of_getElem? (i := 140) rfl) (pV_nil)), f_206_131⟩
theorem q_206_132 : pQ_206 u_206_132 := ⟨_, _, _, _, (pS_cons ok_178 (pS_cons ok_186 (pS_cons ok_187 (pS_cons ok_205 (pS_nil))))), (pV_cons (List.mem_of_getElem? (i := 141) rfl) (pV_nil)), f_206_132⟩
theorem q_206_133 : pQ_206 u_206_133 := ⟨_, _, _, _, (pS_nil), (pV_cons (List.mem_of_getElem? (i := 142) rfl) (pV_nil)), f_206_133⟩
theorem q_206_134 : pQ_206 u_206_134 := ⟨_, _, _, _, (pS_nil), (pV_cons (List.mem_of_getElem? (i := 143) rfl) (pV_nil)), f_206_134⟩
theorem q_206_135 : pQ_206 u_206_135 := ⟨_, _, _, _, (pS_nil), (pV_cons (List.mem_of_getElem? (i := 144) rfl) (pV_nil)), f_206_135⟩
theorem q_206_136 : pQ_206 u_206_136 := ⟨_, _, _, _, (pS_nil), (pV_cons (List.mem_of_getElem? (i := 126) rfl) (pV_nil)), f_206_136⟩
theorem q_206_137 : pQ_206 u_206_137 := ⟨_, _, _, _, (pS_nil), (pV_cons (List.mem_of_getElem? (i := 131) rfl) (pV_nil)), f_206_137⟩
theorem q_206_138 : pQ_206 u_206_138 := ⟨_, _, _, _, (pS_nil), (pV_cons (List.mem_of_getElem? (i := 126) rfl) (pV_nil)), f_206_138⟩
theorem q_206_139 : pQ_206 u_206_139 := ⟨_, _, _, _, (pS_nil), (pV_cons (List.mem_of_getElem? (i := 131) rfl) (pV_nil)), f_206_139⟩
theorem q_206_140 : pQ_206 u_206_140 := ⟨_, _, _, _, (pS_nil), (pV_cons (List.mem_of_getElem? (i := 145) rfl) (pV_nil)), f_206_140⟩
theorem q_206_141 : pQ_206 u_206_141 := ⟨_, _, _, _, (pS_nil), (pV_cons (List.mem_of_getElem? (i := 146) rfl) (pV_nil)), f_206_141⟩
theorem q_206_142 : pQ_206 u_206_142 := ⟨_, _, _, _, (pS_nil), (pV_cons (List.mem_of_getElem? (i := 147) rfl) (pV_nil)), f_206_142⟩
theorem q_206_143 : pQ_206 u_206_143 := ⟨_, _, _, _, (pS_nil), (pV_cons (List.mem_of_getElem? (i := 148) rfl) (pV_nil)), f_206_143⟩
theorem q_206_144 : pQ_206 u_206_144 := ⟨_, _, _, _, (pS_nil), (pV_cons (List.mem_of_getElem? (i := 149) rfl) (pV_nil)), f_206_144⟩
theorem q_206_145 : pQ_206 u_206_145 := ⟨_, _, _, _, (pS_nil), (pV_cons (List.mem_of_getElem? (i := 150) rfl) (pV_nil)), f_206_145⟩
theorem q_206_146 : pQ_206 u_206_146 := ⟨_, _, _, _, (pS_nil), (pV_cons (List.mem_of_getElem? (i := 151) rfl) (pV_nil)), f_206_146⟩
theorem q_206_147 : pQ_206 u_206_147 := ⟨_, _, _, _, (pS_nil), (pV_nil), f_206_147⟩
theorem q_206_148 : pQ_206 u_206_148 := ⟨_, _, _, _, (pS_nil), (pV_nil), f_206_148⟩
theorem q_206_149 : pQ_206 u_206_149 := ⟨_, _, _, _, (pS_nil), (pV_cons (List.mem_of_getElem? (i := 152) rfl) (pV_nil)), f_206_149⟩
theorem q_206_150 : pQ_206 u_206_150 := ⟨_, _, _, _, (pS_nil), (pV_cons (List.mem_of_getElem? (i := 153) rfl) (pV_nil)), f_206_150⟩
theorem q_206_151 : pQ_206 u_206_151 := ⟨_, _, _, _, (pS_nil), (pV_cons (List.mem_of_getElem? (i := 154) rfl) (pV_nil)), f_206_151⟩
theorem q_206_152 : pQ_206 u_206_152 := ⟨_, _, _, _, (pS_nil), (pV_cons (List.mem_of_getElem? (i := 155) rfl) (pV_nil)), f_206_152⟩
theorem q_206_153 : pQ_206 u_206_153 := ⟨_, _, _, _, (pS_nil), (pV_cons (List.mem_of_getElem? (i := 156) rfl) (pV_nil)), f_206_153⟩
theorem q_206_154 : pQ_206 u_206_154 := ⟨_, _, _, _, (pS_nil), (pV_cons (List.mem_of_getElem? (i := 157) rfl) (pV_nil)), f_206_154⟩
theorem q_206_155 : pQ_206 u_206_155 := ⟨_, _, _, _, (pS_nil), (pV_cons (List.mem_of_getElem? (i := 158) rfl) (pV_nil)), f_206_155⟩
theorem q_206_156 : pQ_206 u_206_156 := ⟨_, _, _, _, (pS_nil), (pV_cons (List.mem_of_getElem? (i := 159) rfl) (pV_nil)), f_206_156⟩
theorem q_206_157 : pQ_206 u_206_157 := ⟨_, _, _, _, (pS_nil), (pV_cons (List.mem_of_getElem? (i := 160) rfl) (pV_nil)), f_206_157⟩
theorem q_206_158 : pQ_206 u_206_158 := ⟨_, _, _, _, (pS_nil), (pV_nil), f_206_158⟩
theorem q_206_159 : pQ_206 u_206_159 := ⟨_, _, _, _, (pS_nil), (pV_nil), f_206_159⟩
theorem q_206_160 : pQ_206 u_206_160 := ⟨_, _, _, _, (pS_nil), (pV_cons (List.mem_of_getElem? (i := 161) rfl) (pV_nil)), f_206_160⟩
theorem q_206_161 : pQ_206 u_206_161 := ⟨_, _, _, _, (pS_nil), (pV_cons (List.mem_of_getElem? (i := 162) rfl) (pV_nil)), f_206_161⟩
theorem q_206_162 : pQ_206 u_206_162 := ⟨_, _, _, _, (pS_nil), (pV_cons (List.mem_of_getElem? (i := 163) rfl) (pV_nil)), f_206_162⟩
theorem q_206_163 : pQ_206 u_206_163 := ⟨_, _, _, _, (pS_nil), (pV_nil), f_206_163⟩
theorem qb_206_0 : ∀ u ∈ [u_206_0, u_206_1, u_206_2, u_206_3, u_206_4, u_206_5, u_206_6, u_206_7, u_206_8, u_206_9], pQ_206 u := pU_cons q_206_0 (pU_cons q_206_1 (pU_cons q_206_2 (pU_cons q_206_3 (pU_cons q_206_4 (pU_cons q_206_5 (pU_cons q_206_6 (pU_cons q_206_7 (pU_cons q_206_8 (pU_cons q_206_9 (pU_nil))))))))))
theorem qb_206_1 : ∀ u ∈ [u_206_10, u_206_11, u_206_12, u_206_13, u_206_14, u_206_15, u_206_16, u_206_17, u_206_18, u_206_19], pQ_206 u := pU_cons q_206_10 (pU_cons q_206_11 (pU_cons q_206_12 (pU_cons q_206_13 (pU_cons q_206_14 (pU_cons q_206_15 (pU_cons q_206_16 (pU_cons q_206_17 (pU_cons q_206_18 (pU_cons q_206_19 (pU_nil))))))))))
theorem qb_206_2 : ∀ u ∈ [u_206_20, u_206_21, u_206_22, u_206_23, u_206_24, u_206_25, u_206_26, u_206_27, u_206_28, u_206_29], pQ_206 u := pU_cons q_206_20 (pU_cons q_206_21 (pU_cons q_206_22 (pU_cons q_206_23 (pU_cons q_206_24 (pU_cons q_206_25 (pU_cons q_206_26 (pU_cons q_206_27 (pU_cons q_206_28 (pU_cons q_206_29 (pU_nil))))))))))
theorem qb_206_3 : ∀ u ∈ [u_206_30, u_206_31, u_206_32, u_206_33, u_206_34, u_206_35, u_206_36, u_206_37, u_206_38, u_206_39], pQ_206 u := pU_cons q_206_30 (pU_cons q_206_31 (pU_cons q_206_32 (pU_cons q_206_33 (pU_cons q_206_34 (pU_cons q_206_35 (pU_cons q_206_36 (pU_cons q_206_37 (pU_cons q_206_38 (pU_cons q_206_39 (pU_nil))))))))))
theorem qb_206_4 : ∀ u ∈ [u_206_40, u_206_41, u_206_42, u_206_43, u_206_44, u_206_45, u_206_46, u_206_47, u_206_48, u_206_49], pQ_206 u := pU_cons q_206_40 (pU_cons q_206_41 (pU_cons q_206_42 (pU_cons q_206_43 (pU_cons q_206_44 (pU_cons q_206_45 (pU_cons q_206_46 (pU_cons q_206_47 (pU_cons q_206_48 (pU_cons q_206_49 (pU_nil))))))))))
theorem qb_206_5 : ∀ u ∈ [u_206_50, u_206_51, u_206_52, u_206_53, u_206_54, u_206_55, u_206_56, u_206_57, u_206_58, u_206_59], pQ_206 u := pU_cons q_206_50 (pU_cons q_206_51 (pU_cons q_206_52 (pU_cons q_206_53 (pU_cons q_206_54 (pU_cons q_206_55 (pU_cons q_206_56 (pU_cons q_206_57 (pU_cons q_206_58 (pU_cons q_206_59 (pU_nil))))))))))
theorem qb_206_6 : ∀ u ∈ [u_206_60, u_206_61, u_206_62, u_206_63, u_206_64, u_206_65, u_206_66, u_206_67, u_206_68, u_206_69], pQ_206 u := pU_cons q_206_60 (pU_cons q_206_61 (pU_cons q_206_62 (pU_cons q_206_63 (pU_cons q_206_64 (pU_cons q_206_65 (pU_cons q_206_66 (pU_cons q_206_67 (pU_cons q_206_68 (pU_cons q_206_69 (pU_nil))))))))))
theorem qb_206_7 : ∀ u ∈ [u_206_70, u_206_71, u_206_72, u_206_73, u_206_74, u_206_75, u_206_76, u_206_77, u_206_78, u_206_79], pQ_206 u := pU_cons q_206_70 (pU_cons q_206_71 (pU_cons q_206_72 (pU_cons q_206_73 (pU_cons q_206_74 (pU_cons q_206_75 (pU_cons q_206_76 (pU_cons q_206_77 (pU_cons q_206_78 (pU_cons q_206_79 (pU_nil))))))))))
theorem qb_206_8 : ∀ u ∈ [u_206_80, u_206_81, u_206_82, u_206_83, u_206_84, u_206_85, u_206_86, u_206_87, u_206_88, u_206_89], pQ_206 u := pU_cons q_206_80 (pU_cons q_206_81 (pU_cons q_206_82 (pU_cons q_206_83 (pU_cons q_206_84 (pU_cons q_206_85 (pU_cons q_206_86 (pU_cons q_206_87 (pU_cons q_206_88 (pU_cons q_206_89 (pU_nil))))))))))
theorem qb_206_9 : ∀ u ∈ [u_206_90, u_206_91, u_206_92, u_206_93, u_206_94, u_206_95, u_206_96, u_206_97, u_206_98, u_206_99], pQ_206 u := pU_cons q_206_90 (pU_cons q_206_91 (pU_cons q_206_92 (pU_cons q_206_93 (pU_cons q_206_94 (pU_cons q_206_95 (pU_cons q_206_96 (pU_cons q_206_97 (pU_cons q_206_98 (pU_cons q_206_99 (pU_nil))))))))))
theorem qb_206_10 : ∀ u ∈ [u_206_100, u_206_101, u_206_102, u_206_103, u_206_104, u_206_105, u_206_106, u_206_107, u_206_108, u_206_109], pQ_206 u := pU_cons q_206_100 (pU_cons q_206_101 (pU_cons q_206_102 (pU_cons q_206_103 (pU_cons q_206_104 (pU_cons q_206_105 (pU_cons q_206_106 (pU_cons q_206_107 (pU_cons q_206_108 (pU_cons q_206_109 (pU_nil))))))))))
theorem qb_206_11 : ∀ u ∈ [u_206_110, u_206_111, u_206_112, u_206_113, u_206_114, u_206_115, u_206_116, u_206_117, u_206_118, u_206_119], pQ_206 u := pU_cons q_206_110 (pU_cons q_206_111 (pU_cons q_206_112 (pU_cons q_206_113 (pU_cons q_206_114 (pU_cons q_206_115 (pU_cons q_206_116 (pU_cons q_206_117 (pU_cons q_206_118 (pU_cons q_206_119 (pU_nil))))))))))
theorem qb_206_12 : ∀ u ∈ [u_206_120, u_206_121, u_206_122, u_206_123, u_206_124, u_206_125, u_206_126, u_206_127, u_206_128, u_206_129], pQ_206 u := pU_cons q_206_120 (pU_cons q_206_121 (pU_cons q_206_122 (pU_cons q_206_123 (pU_cons q_206_124 (pU_cons q_206_125 (pU_cons q_206_126 (pU_cons q_206_127 (pU_cons q_206_128 (pU_cons q_206_129 (pU_nil))))))))))
theorem qb_206_13 : ∀ u ∈ [u_206_130, u_206_131, u_206_132, u_206_133, u_206_134, u_206_135, u_206_136, u_206_137, u_206_138, u_206_139], pQ_206 u := pU_cons q_206_130 (pU_cons q_206_131 (pU_cons q_206_132 (pU_cons q_206_133 (pU_cons q_206_134 (pU_cons q_206_135 (pU_cons q_206_136 (pU_cons q_206_137 (pU_cons q_206_138 (pU_cons q_206_139 (pU_nil))))))))))
theorem qb_206_14 : ∀ u ∈ [u_206_140, u_206_141, u_206_142, u_206_143, u_206_144, u_206_145, u_206_146, u_206_147, u_206_148, u_206_149], pQ_206 u := pU_cons q_206_140 (pU_cons q_206_141 (pU_cons q_206_142 (pU_cons q_206_143 (pU_cons q_206_144 (pU_cons q_206_145 (pU_cons q_206_146 (pU_cons q_206_147 (pU_cons q_206_148 (pU_cons q_206_149 (pU_nil))))))))))
theorem qb_206_15 : ∀ u ∈ [u_206_150, u_206_151, u_206_152, u_206_153, u_206_154, u_206_155, u_206_156, u_206_157, u_206_158, u_206_159], pQ_206 u := pU_cons q_206_150 (pU_cons q_206_151 (pU_cons q_206_152 (pU_cons q_206_153 (pU_cons q_206_154 (pU_cons q_206_155 (pU_cons q_206_156 (pU_cons q_206_157 (pU_cons q_206_158 (pU_cons q_206_159 (pU_nil))))))))))
theorem qb_206_16 : ∀ u ∈ [u_206_160, u_206_161, u_206_162, u_206_163], pQ_206 u := pU_cons q_206_160 (pU_cons q_206_161 (pU_cons q_206_162 (pU_cons q_206_163 (pU_nil))))
theorem ok_206 : sInOk pPT i_206 := sInst3 (M := pm_94) (cus := us_206) pOk pg_94 (by decide +kernel) ⟨_, _, _, _, (pS_nil), (pV_cons (List.mem_of_getElem? (i := 0) rfl) (pV_nil)), e_206⟩ (show ∀ u ∈ us_206, pQ_206 u from (pU_app qb_206_0 (pU_app qb_206_1 (pU_app qb_206_2 (pU_app qb_206_3 (pU_app qb_206_4 (pU_app qb_206_5 (pU_app qb_206_6 (pU_app qb_206_7 (pU_app qb_206_8 (pU_app qb_206_9 (pU_app qb_206_10 (pU_app qb_206_11 (pU_app qb_206_12 (pU_app qb_206_13 (pU_app qb_206_14 (pU_app qb_206_15 qb_206_16)))))))))))))))))
theorem ok_207 : sInOk pPT i_207 := sInst3 (M := pm_58) (cus := []) pOk pg_58 (by decide +kernel) ⟨_, _, _, _, (pS_nil), pV_nil, e_207⟩ pU_nil
def pQ_208 (u : sCu) : Prop := ∃ (SM : List sIn) (H : gHt) (cu : List sCu) (n : Nat), (∀ I ∈ SM, sInOk pPT I) ∧ (∀ v ∈ cu, v ∈ us_208) ∧ sWhU pPT SM H i_208 (mR pm_91) cu n u = true
theorem q_208_0 : pQ_208 u_208_0 := ⟨_, _, _, _, (pS_cons ok_189 (pS_nil)), (pV_nil), f_208_0⟩
theorem q_208_1 : pQ_208 u_208_1 := ⟨_, _, _, _, (pS_cons ok_113 (pS_cons ok_206 (pS_cons ok_207 (pS_nil)))), (pV_cons (List.mem_of_getElem? (i := 0) rfl) (pV_cons (List.mem_of_getElem? (i := 1) rfl) (pV_nil))), f_208_1⟩
theorem qb_208_0 : ∀ u ∈ [u_208_0, u_208_1], pQ_208 u := pU_cons q_208_0 (pU_cons q_208_1 (pU_nil))
theorem ok_208 : sInOk pPT i_208 := sInst3 (M := pm_91) (cus := us_208) pOk pg_91 (by decide +kernel) ⟨_, _, _, _, (pS_cons ok_206 (pS_nil)), (pV_cons (List.mem_of_getElem? (i := 0) rfl) (pV_cons (List.mem_of_getElem? (i := 1) rfl) (pV_nil))), e_208⟩ (show ∀ u ∈ us_208, pQ_208 u from qb_208_0)
def pQ_209 (u : sCu) : Prop := ∃ (SM : List sIn) (H : gHt) (cu : List sCu) (n : Nat), (∀ I ∈ SM, sInOk pPT I) ∧ (∀ v ∈ cu, v ∈ us_209) ∧ sWhU pPT SM H i_209 (mR pm_94) cu n u = true
theorem q_209_0 : pQ_209 u_209_0 := ⟨_, _, _, _, (pS_cons ok_178 (pS_cons ok_186 (pS_cons ok_187 (pS_cons ok_205 (pS_nil))))), (pV_cons (List.mem_of_getElem? (i := 1) rfl) (pV_nil)), f_209_0⟩
theorem q_209_1 : pQ_209 u_209_1 := ⟨_, _, _, _, (pS_nil), (pV_cons (List.mem_of_getElem? (i := 2) rfl) (pV_nil)), f_209_1⟩
theorem q_209_2 : pQ_209 u_209_2 := ⟨_, _, _, _, (pS_nil), (pV_nil), f_209_2⟩
theorem qb_209_0 : ∀ u ∈ [u_209_0, u_209_1, u_209_2], pQ_209 u := pU_cons q_209_0 (pU_cons q_209_1 (pU_cons q_209_2 (pU_nil)))
theorem ok_209 : sInOk pPT i_209 := sInst3 (M := pm_94) (cus := us_209) pOk pg_94 (by decide +kernel) ⟨_, _, _, _, (pS_nil), (pV_cons (List.mem_of_getElem? (i := 0) rfl) (pV_nil)), e_209⟩ (show ∀ u ∈ us_209, pQ_209 u from qb_209_0)
def pQ_210 (u : sCu) : Prop := ∃ (SM : List sIn) (H : gHt) (cu : List sCu) (n : Nat), (∀ I ∈ SM, sInOk pPT I) ∧ (∀ v ∈ cu, v ∈ us_210) ∧ sWhU pPT SM H i_210 (mR pm_91) cu n u = true
theorem q_210_0 : pQ_210 u_210_0 := ⟨_, _, _, _, (pS_cons ok_189 (pS_nil)), (pV_nil), f_210_0⟩
theorem qb_210_0 : ∀ u ∈ [u_210_0], pQ_210 u := pU_cons q_210_0 (pU_nil)
theorem ok_210 : sInOk pPT i_210 := sInst3 (M := pm_91) (cus := us_210) pOk pg_91 (by decide +kernel) ⟨_, _, _, _, (pS_cons ok_209 (pS_nil)), (pV_cons (List.mem_of_getElem? (i := 0) rfl) (pV_nil)), e_210⟩ (show ∀ u ∈ us_210, pQ_210 u from qb_210_0)
theorem ok_211 : sInOk pPT i_211 := sInst3 (M := pm_58) (cus := []) pOk pg_58 (by decide +kernel) ⟨_, _, _, _, (pS_nil), pV_nil, e_211⟩ pU_nil
def pQ_212 (u : sCu) : Prop := ∃ (SM : List sIn) (H : gHt) (cu : List sCu) (n : Nat), (∀ I ∈ SM, sInOk pPT I) ∧ (∀ v ∈ cu, v ∈ us_212) ∧ sWhU pPT SM H i_212 (mR pm_92) cu n u = true
theorem q_212_0 : pQ_212 u_212_0 := ⟨_, _, _, _, (pS_cons ok_208 (pS_nil)), (pV_cons (List.mem_of_getElem? (i := 2) rfl) (pV_cons (List.mem_of_getElem? (i := 3) rfl) (pV_nil))), f_212_0⟩
theorem q_212_1 : pQ_212 u_212_1 := ⟨_, _, _, _, (pS_cons ok_210 (pS_nil)), (pV_cons (List.mem_of_getElem? (i := 2) rfl) (pV_nil)), f_212_1⟩
theorem q_212_2 : pQ_212 u_212_2 := ⟨_, _, _, _, (pS_cons ok_191 (pS_nil)), (pV_nil), f_212_2⟩
theorem q_212_3 : pQ_212 u_212_3 := ⟨_, _, _, _, (pS_cons ok_113 (pS_cons ok_208 (pS_cons ok_211 (pS_nil)))), (pV_cons (List.mem_of_getElem? (i := 2) rfl) (pV_cons (List.mem_of_getElem? (i := 3) rfl) (pV_nil))), f_212_3⟩
theorem qb_212_0 : ∀ u ∈ [u_212_0, u_212_1, u_212_2, u_212_3], pQ_212 u := pU_cons q_212_0 (pU_cons q_212_1 (pU_cons q_212_2 (pU_cons q_212_3 (pU_nil))))
theorem ok_212 : sInOk pPT i_212 := sInst3 (M := pm_92) (cus := us_212) pOk pg_92 (by decide +kernel) ⟨_, _, _, _, (pS_cons ok_159 (pS_nil)), (pV_cons (List.mem_of_getElem? (i := 0) rfl) (pV_cons (List.mem_of_getElem? (i := 1) rfl) (pV_nil))), e_212⟩ (show ∀ u ∈ us_212, pQ_212 u from qb_212_0)
def pQ_213 (u : sCu) : Prop := ∃ (SM : List sIn) (H : gHt) (cu : List sCu) (n : Nat), (∀ I ∈ SM, sInOk pPT I) ∧ (∀ v ∈ cu, v ∈ us_213) ∧ sWhU pPT SM H i_213 (mR pm_67) cu n u = true
theorem q_213_0 : pQ_213 u_213_0 := ⟨_, _, _, _, (pS_nil), (pV_nil), f_213_0⟩
theorem qb_213_0 : ∀ u ∈ [u_213_0], pQ_213 u := pU_cons q_213_0 (pU_nil)
theorem ok_213 : sInOk pPT i_213 := sInst3 (M := pm_67) (cus := us_213) pOk pg_67 (by decide +kernel) ⟨_, _, _, _, (pS_nil), (pV_cons (List.mem_of_getElem? (i := 0) rfl) (pV_nil)), e_213⟩ (show ∀ u ∈ us_213, pQ_213 u from qb_213_0)
def pQ_214 (u : sCu) : Prop := ∃ (SM : List sIn) (H : gHt) (cu : List sCu) (n : Nat), (∀ I ∈ SM, sInOk pPT I) ∧ (∀ v ∈ cu, v ∈ us_214) ∧ sWhU pPT SM H i_214 (mR pm_79) cu n u = true
theorem q_214_0 : pQ_214 u_214_0 := ⟨_, _, _, _, (pS_cons ok_113 (pS_nil)), (pV_nil), f_214_0⟩
theorem q_214_1 : pQ_214 u_214_1 := ⟨_, _, _, _, (pS_nil), (pV_nil), f_214_1⟩
theorem qb_214_0 : ∀ u ∈ [u_214_0, u_214_1], pQ_214 u := pU_cons q_214_0 (pU_cons q_214_1 (pU_nil))
theorem ok_214 : sInOk pPT i_214 := sInst3 (M := pm_79) (cus := us_214) pOk pg_79 (by decide +kernel) ⟨_, _, _, _, (pS_cons ok_213 (pS_nil)), (pV_cons (List.mem_of_getElem? (i := 0) rfl) (pV_cons (List.mem_of_getElem? (i := 1) rfl) (pV_nil))), e_214⟩ (show ∀ u ∈ us_214, pQ_214 u from qb_214_0)
theorem ok_215 : sInOk pPT i_215 := sInst3 (M := pm_96) (cus := []) pOk pg_96 (by decide +kernel) ⟨_, _, _, _, (pS_cons ok_113 (pS_cons ok_161 (pS_cons ok_163 (pS_cons ok_172 (pS_cons ok_176 (pS_cons ok_193 (pS_cons ok_212 (pS_cons ok_214 (pS_nil))))))))), pV_nil, e_215⟩ pU_nil
def pQ_216 (u : sCu) : Prop := ∃ (SM : List sIn) (H : gHt) (cu : List sCu) (n : Nat), (∀ I ∈ SM, sInOk pPT I) ∧ (∀ v ∈ cu, v ∈ us_216) ∧ sWhU pPT SM H i_216 (mR pm_97) cu n u = true
theorem q_216_0 : pQ_216 u_216_0 := ⟨_, _, _, _, (pS_cons ok_180 (pS_cons ok_181 (pS_nil))), (pV_nil), f_216_0⟩
theorem q_216_1 : pQ_216 u_216_1 := ⟨_, _, _, _, (pS_cons ok_195 (pS_cons ok_196 (pS_nil))), (pV_cons (List.mem_of_getElem? (i := 2) rfl) (pV_cons (List.mem_of_getElem? (i := 3) rfl) (pV_nil))), f_216_1⟩
theorem q_216_2 : pQ_216 u_216_2 := ⟨_, _, _, _, (pS_cons ok_195 (pS_nil)), (pV_cons (List.mem_of_getElem? (i := 4) rfl) (pV_cons (List.mem_of_getElem? (i := 5) rfl) (pV_nil))), f_216_2⟩
theorem q_216_3 : pQ_216 u_216_3 := ⟨_, _, _, _, (pS_cons ok_195 (pS_nil)), (pV_cons (List.mem_of_getElem? (i := 6) rfl) (pV_cons (List.mem_of_getElem? (i := 7) rfl) (pV_nil))), f_216_3⟩
theorem q_216_4 : pQ_216 u_216_4 := ⟨_, _, _, _, (pS_cons ok_113 (pS_cons ok_215 (pS_nil))), (pV_cons (List.mem_of_getElem? (i := 0) rfl) (pV_cons (List.mem_of_getElem? (i := 1) rfl) (pV_nil))), f_216_4⟩
theorem q_216_5 : pQ_216 u_216_5 := ⟨_, _, _, _, (pS_cons ok_113 (pS_cons ok_215 (pS_nil))), (pV_cons (List.mem_of_getElem? (i := 0) rfl) (pV_cons (List.mem_of_getElem? (i := 1) rfl) (pV_nil))), f_216_5⟩
theorem q_216_6 : pQ_216 u_216_6 := ⟨_, _, _, _, (pS_cons ok_113 (pS_cons ok_215 (pS_nil))), (pV_cons (List.mem_of_getElem? (i := 0) rfl) (pV_cons (List.mem_of_getElem? (i := 1) rfl) (pV_nil))), f_216_6⟩
theorem q_216_7 : pQ_216 u_216_7 := ⟨_, _, _, _, (pS_cons ok_113 (pS_cons ok_215 (pS_nil))), (pV_cons (List.mem_of_getElem? (i := 0) rfl) (pV_cons (List.mem_of_getElem? (i := 1) rfl) (pV_nil))), f_216_7⟩
theorem qb_216_0 : ∀ u ∈ [u_216_0, u_216_1, u_216_2, u_216_3, u_216_4, u_216_5, u_216_6, u_216_7], pQ_216 u := pU_cons q_216_0 (pU_cons q_216_1 (pU_cons q_216_2 (pU_cons q_216_3 (pU_cons q_216_4 (pU_cons q_216_5 (pU_cons q_216_6 (pU_cons q_216_7 (pU_nil))))))))
theorem ok_216 : sInOk pPT i_216 := sInst3 (M := pm_97) (cus := us_216) pOk pg_97 (by decide +kernel) ⟨_, _, _, _, (pS_cons ok_215 (pS_nil)), (pV_cons (List.mem_of_getElem? (i := 0) rfl) (pV_cons (List.mem_of_getElem? (i := 1) rfl) (pV_nil))), e_216⟩ (show ∀ u ∈ us_216, pQ_216 u from qb_216_0)
def pQ_217 (u : sCu) : Prop := ∃ (SM : List sIn) (H : gHt) (cu : List sCu) (n : Nat), (∀ I ∈ SM, sInOk pPT I) ∧ (∀ v ∈ cu, v ∈ us_217) ∧ sWhU pPT SM H i_217 (mR pm_98) cu n u = true
theorem q_217_0 : pQ_217 u_217_0 := ⟨_, _, _, _, (pS_cons ok_183 (pS_cons ok_184 (pS_nil))), (pV_nil), f_217_0⟩
theorem q_217_1 : pQ_217 u_217_1 := ⟨_, _, _, _, (pS_cons ok_198 (pS_cons ok_199 (pS_nil))), (pV_cons (List.mem_of_getElem? (i := 2) rfl) (pV_cons (List.mem_of_getElem? (i := 3) rfl) (pV_nil))), f_217_1⟩
theorem q_217_2 : pQ_217 u_217_2 := ⟨_, _, _, _, (pS_cons ok_198 (pS_nil)), (pV_cons (List.mem_of_getElem? (i := 4) rfl) (pV_cons (List.mem_of_getElem? (i := 5) rfl) (pV_nil))), f_217_2⟩
theorem q_217_3 : pQ_217 u_217_3 := ⟨_, _, _, _, (pS_cons ok_198 (pS_nil)), (pV_cons (List.mem_of_getElem? (i := 6) rfl) (pV_cons (List.mem_of_getElem? (i := 7) rfl) (pV_nil))), f_217_3⟩
theorem q_217_4 : pQ_217 u_217_4 := ⟨_, _, _, _, (pS_cons ok_113 (pS_cons ok_216 (pS_nil))), (pV_cons (List.mem_of_getElem? (i := 0) rfl) (pV_cons (List.mem_of_getElem? (i := 1) rfl) (pV_nil))), f_217_4⟩
theorem q_217_5 : pQ_217 u_217_5 := ⟨_, _, _, _, (pS_cons ok_113 (pS_cons ok_216 (pS_nil))), (pV_cons (List.mem_of_getElem? (i := 0) rfl) (pV_cons (List.mem_of_getElem? (i := 1) rfl) (pV_nil))), f_217_5⟩
theorem q_217_6 : pQ_217 u_217_6 := ⟨_, _, _, _, (pS_cons ok_113 (pS_cons ok_216 (pS_nil))), (pV_cons (List.mem_of_getElem? (i := 0) rfl) (pV_cons (List.mem_of_getElem? (i := 1) rfl) (pV_nil))), f_217_6⟩
theorem q_217_7 : pQ_217 u_217_7 := ⟨_, _, _, _, (pS_cons ok_113 (pS_cons ok_216 (pS_nil))), (pV_cons (List.mem_of_getElem? (i := 0) rfl) (pV_cons (List.mem_of_getElem? (i := 1) rfl) (pV_nil))), f_217_7⟩
theorem qb_217_0 : ∀ u ∈ [u_217_0, u_217_1, u_217_2, u_217_3, u_217_4, u_217_5, u_217_6, u_217_7], pQ_217 u := pU_cons q_217_0 (pU_cons q_217_1 (pU_cons q_217_2 (pU_cons q_217_3 (pU_cons q_217_4 (pU_cons q_217_5 (pU_cons q_217_6 (pU_cons q_217_7 (pU_nil))))))))
theorem ok_217 : sInOk pPT i_217 := sInst3 (M := pm_98) (cus := us_217) pOk pg_98 (by decide +kernel) ⟨_, _, _, _, (pS_cons ok_216 (pS_nil)), (pV_cons (List.mem_of_getElem? (i := 0) rfl) (pV_cons (List.mem_of_getElem? (i := 1) rfl) (pV_nil))), e_217⟩ (show ∀ u ∈ us_217, pQ_217 u from qb_217_0)
theorem ok_218 : sInOk pPT i_218 := sInst3 (M := pm_96) (cus := []) pOk pg_96 (by decide +kernel) ⟨_, _, _, _, (pS_nil), pV_nil, e_218⟩ pU_nil
def pQ_219 (u : sCu) : Prop := ∃ (SM : List sIn) (H : gHt) (cu : List sCu) (n : Nat), (∀ I ∈ SM, sInOk pPT I) ∧ (∀ v ∈ cu, v ∈ us_219) ∧ sWhU pPT SM H i_219 (mR pm_97) cu n u = true
theorem q_219_0 : pQ_219 u_219_0 := ⟨_, _, _, _, (pS_cons ok_180 (pS_cons ok_181 (pS_nil))), (pV_nil), f_219_0⟩
theorem qb_219_0 : ∀ u ∈ [u_219_0], pQ_219 u := pU_cons q_219_0 (pU_nil)
theorem ok_219 : sInOk pPT i_219 := sInst3 (M := pm_97) (cus := us_219) pOk pg_97 (by decide +kernel) ⟨_, _, _, _, (pS_cons ok_218 (pS_nil)), (pV_cons (List.mem_of_getElem? (i := 0) rfl) (pV_nil)), e_219⟩ (show ∀ u ∈ us_219, pQ_219 u from qb_219_0)
def pQ_220 (u : sCu) : Prop := ∃ (SM : List sIn) (H : gHt) (cu : List sCu) (n : Nat), (∀ I ∈ SM, sInOk pPT I) ∧ (∀ v ∈ cu, v ∈ us_220) ∧ sWhU pPT SM H i_220 (mR pm_98) cu n u = true
theorem q_220_0 : pQ_220 u_220_0 := ⟨_, _, _, _, (pS_cons ok_183 (pS_cons ok_184 (pS_nil))), (pV_nil), f_220_0⟩
theorem qb_220_0 : ∀ u ∈ [u_220_0], pQ_220 u := pU_cons q_220_0 (pU_nil)
theorem ok_220 : sInOk pPT i_220 := sInst3 (M := pm_98) (cus := us_220) pOk pg_98 (by decide +kernel) ⟨_, _, _, _, (pS_cons ok_219 (pS_nil)), (pV_cons (List.mem_of_getElem? (i := 0) rfl) (pV_nil)), e_220⟩ (show ∀ u ∈ us_220, pQ_220 u from qb_220_0)
def pQ_221 (u : sCu) : Prop := ∃ (SM : List sIn) (H : gHt) (cu : List sCu) (n : Nat), (∀ I ∈ SM, sInOk pPT I) ∧ (∀ v ∈ cu, v ∈ us_221) ∧ sWhU pPT SM H i_221 (mR pm_94) cu n u = true
theorem q_221_0 : pQ_221 u_221_0 := ⟨_, _, _, _, (pS_cons ok_160 (pS_cons ok_186 (pS_cons ok_187 (pS_cons ok_201 (pS_cons ok_202 (pS_cons ok_217 (pS_nil))))))), (pV_cons (List.mem_of_getElem? (i := 1) rfl) (pV_cons (List.mem_of_getElem? (i := 2) rfl) (pV_cons (List.mem_of_getElem? (i := 3) rfl) (pV_cons (List.mem_of_getElem? (i := 4) rfl) (pV_cons (List.mem_of_getElem? (i := 5) rfl) (pV_nil)))))), f_221_0⟩
theorem q_221_1 : pQ_221 u_221_1 := ⟨_, _, _, _, (pS_nil), (pV_cons (List.mem_of_getElem? (i := 6) rfl) (pV_nil)), f_221_1⟩
theorem q_221_2 : pQ_221 u_221_2 := ⟨_, _, _, _, (pS_cons ok_201 (pS_nil)), (pV_cons (List.mem_of_getElem? (i := 7) rfl) (pV_cons (List.mem_of_getElem? (i := 8) rfl) (pV_nil))), f_221_2⟩
theorem q_221_3 : pQ_221 u_221_3 := ⟨_, _, _, _, (pS_cons ok_201 (pS_nil)), (pV_cons (List.mem_of_getElem? (i := 7) rfl) (pV_cons (List.mem_of_getElem? (i := 10) rfl) (pV_nil))), f_221_3⟩
theorem q_221_4 : pQ_221 u_221_4 := ⟨_, _, _, _, (pS_nil), (pV_cons (List.mem_of_getElem? (i := 11) rfl) (pV_nil)), f_221_4⟩
theorem q_221_5 : pQ_221 u_221_5 := ⟨_, _, _, _, (pS_cons ok_113 (pS_nil)), (pV_cons (List.mem_of_getElem? (i := 12) rfl) (pV_nil)), f_221_5⟩
theorem q_221_6 : pQ_221 u_221_6 := ⟨_, _, _, _, (pS_nil), (pV_nil), f_221_6⟩
theorem q_221_7 : pQ_221 u_221_7 := ⟨_, _, _, _, (pS_cons ok_113 (pS_cons ok_217 (pS_nil))), (pV_cons (List.mem_of_getElem? (i := 1) rfl) (pV_cons (List.mem_of_getElem? (i := 14) rfl) (pV_nil))), f_221_7⟩
theorem q_221_8 : pQ_221 u_221_8 := ⟨_, _, _, _, (pS_cons ok_113 (pS_cons ok_217 (pS_nil))), (pV_cons (List.mem_of_getElem? (i := 1) rfl) (pV_cons (List.mem_of_getElem? (i := 14) rfl) (pV_nil))), f_221_8⟩
theorem q_221_9 : pQ_221 u_221_9 := ⟨_, _, _, _, (pS_cons ok_113 (pS_cons ok_217 (pS_nil))), (pV_cons (List.mem_of_getElem? (i := 1) rfl) (pV_cons (List.mem_of_getElem? (i := 14) rfl) (pV_nil))), f_221_9⟩
theorem q_221_10 : pQ_221 u_221_10 := ⟨_, _, _, _, (pS_cons ok_113 (pS_cons ok_217 (pS_nil))), (pV_cons (List.mem_of_getElem? (i := 1) rfl) (pV_cons (List.mem_of_getElem? (i := 14) rfl) (pV_nil))), f_221_10⟩
theorem q_221_11 : pQ_221 u_221_11 := ⟨_, _, _, _, (pS_nil), (pV_nil), f_221_11⟩
theorem q_221_12 : pQ_221 u_221_12 := ⟨_, _, _, _, (pS_cons ok_160 (pS_cons ok_186 (pS_cons ok_187 (pS_cons ok_201 (pS_cons ok_202 (pS_cons ok_217 (pS_nil))))))), (pV_cons (List.mem_of_getElem? (i := 17) rfl) (pV_cons (List.mem_of_getElem? (i := 18) rfl) (pV_cons (List.mem_of_getElem? (i := 19) rfl) (pV_cons (List.mem_of_getElem? (i := 20) rfl) (pV_cons (List.mem_of_getElem? (i := 21) rfl) (pV_nil)))))), f_221_12⟩
theorem q_221_13 : pQ_221 u_221_13 := ⟨_, _, _, _, (pS_nil), (pV_cons (List.mem_of_getElem? (i := 6) rfl) (pV_nil)), f_221_13⟩
theorem q_221_14 : pQ_221 u_221_14 := ⟨_, _, _, _, (pS_nil), (pV_cons (List.mem_of_getElem? (i := 11) rfl) (pV_nil)), f_221_14⟩
theorem q_221_15 : pQ_221 u_221_15 := ⟨_, _, _, _, (pS_nil), (pV_cons (List.mem_of_getElem? (i := 6) rfl) (pV_nil)), f_221_15⟩
theorem q_221_16 : pQ_221 u_221_16 := ⟨_, _, _, _, (pS_nil), (pV_cons (List.mem_of_getElem? (i := 11) rfl) (pV_nil)), f_221_16⟩
theorem q_221_17 : pQ_221 u_221_17 := ⟨_, _, _, _, (pS_nil), (pV_cons (List.mem_of_getElem? (i := 22) rfl) (pV_nil)), f_221_17⟩
theorem q_221_18 : pQ_221 u_221_18 := ⟨_, _, _, _, (pS_cons ok_201 (pS_nil)), (pV_cons (List.mem_of_getElem? (i := 23) rfl) (pV_cons (List.mem_of_getElem? (i := 24) rfl) (pV_nil))), f_221_18⟩
theorem q_221_19 : pQ_221 u_221_19 := ⟨_, _, _, _, (pS_cons ok_201 (pS_nil)), (pV_cons (List.mem_of_getElem? (i := 23) rfl) (pV_cons (List.mem_of_getElem? (i := 26) rfl) (pV_nil))), f_221_19⟩
theorem q_221_20 : pQ_221 u_221_20 := ⟨_, _, _, _, (pS_nil), (pV_cons (List.mem_of_getElem? (i := 27) rfl) (pV_nil)), f_221_20⟩
theorem q_221_21 : pQ_221 u_221_21 := ⟨_, _, _, _, (pS_cons ok_113 (pS_nil)), (pV_cons (List.mem_of_getElem? (i := 28) rfl) (pV_nil)), f_221_21⟩
theorem q_221_22 : pQ_221 u_221_22 := ⟨_, _, _, _, (pS_nil), (pV_cons (List.mem_of_getElem? (i := 29) rfl) (pV_nil)), f_221_22⟩
theorem q_221_23 : pQ_221 u_221_23 := ⟨_, _, _, _, (pS_cons ok_113 (pS_cons ok_217 (pS_nil))), (pV_cons (List.mem_of_getElem? (i := 17) rfl) (pV_cons (List.mem_of_getElem? (i := 31) rfl) (pV_nil))), f_221_23⟩
theorem q_221_24 : pQ_221 u_221_24 := ⟨_, _, _, _, (pS_cons ok_113 (pS_cons ok_217 (pS_nil))), (pV_cons (List.mem_of_getElem? (i := 17) rfl) (pV_cons (List.mem_of_getElem? (i := 31) rfl) (pV_nil))), f_221_24⟩
theorem q_221_25 : pQ_221 u_221_25 := ⟨_, _, _, _, (pS_cons ok_113 (pS_cons ok_217 (pS_nil))), (pV_cons (List.mem_of_getElem? (i := 17) rfl) (pV_cons (List.mem_of_getElem? (i := 31) rfl) (pV_nil))), f_221_25⟩
theorem q_221_26 : pQ_221 u_221_26 := ⟨_, _, _, _, (pS_cons ok_113 (pS_cons ok_217 (pS_nil))), (pV_cons (List.mem_of_getElem? (i := 17) rfl) (pV_cons (List.mem_of_getElem? (i := 31) rfl) (pV_nil))), f_221_26⟩
theorem q_221_27 : pQ_221 u_221_27 := ⟨_, _, _, _, (pS_nil), (pV_cons (List.mem_of_getElem? (i := 34) rfl) (pV_nil)), f_221_27⟩
theorem q_221_28 : pQ_221 u_221_28 := ⟨_, _, _, _, (pS_cons ok_160 (pS_cons ok_186 (pS_cons ok_187 (pS_cons ok_201 (pS_cons ok_202 (pS_cons ok_217 (pS_nil))))))), (pV_cons (List.mem_of_getElem? (i := 35) rfl) (pV_cons (List.mem_of_getElem? (i := 36) rfl) (pV_cons (List.mem_of_getElem? (i := 37) rfl) (pV_cons (List.mem_of_getElem? (i := 38) rfl) (pV_cons (List.mem_of_getElem? (i := 39) rfl) (pV_nil)))))), f_221_28⟩
theorem q_221_29 : pQ_221 u_221_29 := ⟨_, _, _, _, (pS_nil), (pV_nil), f_221_29⟩
theorem q_221_30 : pQ_221 u_221_30 := ⟨_, _, _, _, (pS_nil), (pV_cons (List.mem_of_getElem? (i := 22) rfl) (pV_nil)), f_221_30⟩
theorem q_221_31 : pQ_221 u_221_31 := ⟨_, _, _, _, (pS_nil), (pV_cons (List.mem_of_getElem? (i := 27) rfl) (pV_nil)), f_221_31⟩
theorem q_221_32 : pQ_221 u_221_32 := ⟨_, _, _, _, (pS_nil), (pV_cons (List.mem_of_getElem? (i := 22) rfl) (pV_nil)), f_221_32⟩
theorem q_221_33 : pQ_221 u_221_33 := ⟨_, _, _, _, (pS_nil), (pV_cons (List.mem_of_getElem? (i := 27) rfl) (pV_nil)), f_221_33⟩
theorem q_221_34 : pQ_221 u_221_34 := ⟨_, _, _, _, (pS_nil), (pV_nil), f_221_34⟩
theorem q_221_35 : pQ_221 u_221_35 := ⟨_, _, _, _, (pS_nil), (pV_cons (List.mem_of_getElem? (i := 40) rfl) (pV_nil)), f_221_35⟩
theorem q_221_36 : pQ_221 u_221_36 := ⟨_, _, _, _, (pS_cons ok_201 (pS_nil)), (pV_cons (List.mem_of_getElem? (i := 41) rfl) (pV_cons (List.mem_of_getElem? (i := 42) rfl) (pV_nil))), f_221_36⟩
theorem q_221_37 : pQ_221 u_221_37 := ⟨_, _, _, _, (pS_cons ok_201 (pS_nil)), (pV_cons (List.mem_of_getElem? (i := 41) rfl) (pV_cons (List.mem_of_getElem? (i := 44) rfl) (pV_nil))), f_221_37⟩
theorem q_221_38 : pQ_221 u_221_38 := ⟨_, _, _, _, (pS_nil), (pV_cons (List.mem_of_getElem? (i := 45) rfl) (pV_nil)), f_221_38⟩
theorem q_221_39 : pQ_221 u_221_39 := ⟨_, _, _, _, (pS_cons ok_113 (pS_nil)), (pV_cons (List.mem_of_getElem? (i := 46) rfl) (pV_nil)), f_221_39⟩
theorem q_221_40 : pQ_221 u_221_40 := ⟨_, _, _, _, (pS_nil), (pV_cons (List.mem_of_getElem? (i := 47) rfl) (pV_nil)), f_221_40⟩
theorem q_221_41 : pQ_221 u_221_41 := ⟨_, _, _, _, (pS_cons ok_113 (pS_cons ok_217 (pS_nil))), (pV_cons (List.mem_of_getElem? (i := 35) rfl) (pV_cons (List.mem_of_getElem? (i := 49) rfl) (pV_nil))), f_221_41⟩
theorem q_221_42 : pQ_221 u_221_42 := ⟨_, _, _, _, (pS_cons ok_113 (pS_cons ok_217 (pS_nil))), (pV_cons (List.mem_of_getElem? (i := 35) rfl) (pV_cons (List.mem_of_getElem? (i := 49) rfl) (pV_nil))), f_221_42⟩
theorem q_221_43 : pQ_221 u_221_43 := ⟨_, _, _, _, (pS_cons ok_113 (pS_cons ok_217 (pS_nil))), (pV_cons (List.mem_of_getElem? (i := 35) rfl) (pV_cons (List.mem_of_getElem? (i := 49) rfl) (pV_nil))), f_221_43⟩
theorem q_221_44 : pQ_221 u_221_44 := ⟨_, _, _, _, (pS_cons ok_113 (pS_cons ok_217 (pS_nil))), (pV_cons (List.mem_of_getElem? (i := 35) rfl) (pV_cons (List.mem_of_getElem? (i := 49) rfl) (pV_nil))), f_221_44⟩
theorem q_221_45 : pQ_221 u_221_45 := ⟨_, _, _, _, (pS_nil), (pV_cons (List.mem_of_getElem? (i := 52) rfl) (pV_nil)), f_221_45⟩
theorem q_221_46 : pQ_221 u_221_46 := ⟨_, _, _, _, (pS_cons ok_160 (pS_cons ok_186 (pS_cons ok_187 (pS_cons ok_201 (pS_cons ok_202 (pS_cons ok_217 (pS_nil))))))), (pV_cons (List.mem_of_getElem? (i := 53) rfl) (pV_cons (List.mem_of_getElem? (i := 54) rfl) (pV_cons (List.mem_of_getElem? (i := 55) rfl) (pV_cons (List.mem_of_getElem? (i := 56) rfl) (pV_cons (List.mem_of_getElem? (i := 57) rfl) (pV_nil)))))), f_221_46⟩
theorem q_221_47 : pQ_221 u_221_47 := ⟨_, _, _, _, (pS_nil), (pV_cons (List.mem_of_getElem? (i := 58) rfl) (pV_nil)), f_221_47⟩
theorem q_221_48 : pQ_221 u_221_48 := ⟨_, _, _, _, (pS_nil), (pV_cons (List.mem_of_getElem? (i := 40) rfl) (pV_nil)), f_221_48⟩
theorem q_221_49 : pQ_221 u_221_49 := ⟨_, _, _, _, (pS_nil), (pV_cons (List.mem_of_getElem? (i := 45) rfl) (pV_nil)), f_221_49⟩
theorem q_221_50 : pQ_221 u_221_50 := ⟨_, _, _, _, (pS_nil), (pV_cons (List.mem_of_getElem? (i := 40) rfl) (pV_nil)), f_221_50⟩
theorem q_221_51 : pQ_221 u_221_51 := ⟨_, _, _, _, (pS_nil), (pV_cons (List.mem_of_getElem? (i := 45) rfl) (pV_nil)), f_221_51⟩
theorem q_221_52 : pQ_221 u_221_52 := ⟨_, _, _, _, (pS_nil), (pV_cons (List.mem_of_getElem? (i := 59) rfl) (pV_nil)), f_221_52⟩
theorem q_221_53 : pQ_221 u_221_53 := ⟨_, _, _, _, (pS_nil), (pV_cons (List.mem_of_getElem? (i := 60) rfl) (pV_nil)), f_221_53⟩
theorem q_221_54 : pQ_221 u_221_54 := ⟨_, _, _, _, (pS_cons ok_201 (pS_nil)), (pV_cons (List.mem_of_getElem? (i := 61) rfl) (pV_cons (List.mem_of_getElem? (i := 62) rfl) (pV_nil))), f_221_54⟩
theorem q_221_55 : pQ_221 u_221_55 := ⟨_, _, _, _, (pS_cons ok_201 (pS_nil)), (pV_cons (List.mem_of_getElem? (i := 61) rfl) (pV_cons (List.mem_of_getElem? (i := 64) rfl) (pV_nil))), f_221_55⟩
theorem q_221_56 : pQ_221 u_221_56 := ⟨_, _, _, _, (pS_nil), (pV_cons (List.mem_of_getElem? (i := 65) rfl) (pV_nil)), f_221_56⟩
theorem q_221_57 : pQ_221 u_221_57 := ⟨_, _, _, _, (pS_cons ok_113 (pS_nil)), (pV_cons (List.mem_of_getElem? (i := 66) rfl) (pV_nil)), f_221_57⟩
theorem q_221_58 : pQ_221 u_221_58 := ⟨_, _, _, _, (pS_nil), (pV_nil), f_221_58⟩
theorem q_221_59 : pQ_221 u_221_59 := ⟨_, _, _, _, (pS_nil), (pV_nil), f_221_59⟩
theorem q_221_60 : pQ_221 u_221_60 := ⟨_, _, _, _, (pS_nil), (pV_cons (List.mem_of_getElem? (i := 67) rfl) (pV_nil)), f_221_60⟩
theorem q_221_61 : pQ_221 u_221_61 := ⟨_, _, _, _, (pS_cons ok_113 (pS_cons ok_217 (pS_nil))), (pV_cons (List.mem_of_getElem? (i := 53) rfl) (pV_cons (List.mem_of_getElem? (i := 69) rfl) (pV_nil))), f_221_61⟩
theorem q_221_62 : pQ_221 u_221_62 := ⟨_, _, _, _, (pS_cons ok_113 (pS_cons ok_217 (pS_nil))), (pV_cons (List.mem_of_getElem? (i := 53) rfl) (pV_cons (List.mem_of_getElem? (i := 69) rfl) (pV_nil))), f_221_62⟩
theorem q_221_63 : pQ_221 u_221_63 := ⟨_, _, _, _, (pS_cons ok_113 (pS_cons ok_217 (pS_nil))), (pV_cons (List.mem_of_getElem? (i := 53) rfl) (pV_cons (List.mem_of_getElem? (i := 69) rfl) (pV_nil))), f_221_63⟩
theorem q_221_64 : pQ_221 u_221_64 := ⟨_, _, _, _, (pS_cons ok_113 (pS_cons ok_217 (pS_nil))), (pV_cons (List.mem_of_getElem? (i := 53) rfl) (pV_cons (List.mem_of_getElem? (i := 69) rfl) (pV_nil))), f_221_64⟩
theorem q_221_65 : pQ_221 u_221_65 := ⟨_, _, _, _, (pS_nil), (pV_cons (List.mem_of_getElem? (i := 72) rfl) (pV_nil)), f_221_65⟩
theorem q_221_66 : pQ_221 u_221_66 := ⟨_, _, _, _, (pS_cons ok_160 (pS_cons ok_186 (pS_cons ok_187 (pS_cons ok_201 (pS_cons ok_202 (pS_cons ok_217 (pS_nil))))))), (pV_cons (List.mem_of_getElem? (i := 73) rfl) (pV_cons (List.mem_of_getElem? (i := 74) rfl) (pV_cons (List.mem_of_getElem? (i := 75) rfl) (pV_cons (List.mem_of_getElem? (i := 76) rfl) (pV_cons (List.mem_of_getElem? (i := 77) rfl) (pV_nil)))))), f_221_66⟩
theorem q_221_67 : pQ_221 u_221_67 := ⟨_, _, _, _, (pS_nil), (pV_cons (List.mem_of_getElem? (i := 78) rfl) (pV_nil)), f_221_67⟩
theorem q_221_68 : pQ_221 u_221_68 := ⟨_, _, _, _, (pS_nil), (pV_cons (List.mem_of_getElem? (i := 60) rfl) (pV_nil)), f_221_68⟩
theorem q_221_69 : pQ_221 u_221_69 := ⟨_, _, _, _, (pS_nil), (pV_cons (List.mem_of_getElem? (i := 65) rfl) (pV_nil)), f_221_69⟩
theorem q_221_70 : pQ_221 u_221_70 := ⟨_, _, _, _, (pS_nil), (pV_cons (List.mem_of_getElem? (i := 60) rfl) (pV_nil)), f_221_70⟩
theorem q_221_71 : pQ_221 u_221_71 := ⟨_, _, _, _, (pS_nil), (pV_cons (List.mem_of_getElem? (i := 65) rfl) (pV_nil)), f_221_71⟩
theorem q_221_72 : pQ_221 u_221_72 := ⟨_, _, _, _, (pS_nil), (pV_cons (List.mem_of_getElem? (i := 79) rfl) (pV_nil)), f_221_72⟩
theorem q_221_73 : pQ_221 u_221_73 := ⟨_, _, _, _, (pS_nil), (pV_cons (List.mem_of_getElem? (i := 80) rfl) (pV_nil)), f_221_73⟩
theorem q_221_74 : pQ_221 u_221_74 := ⟨_, _, _, _, (pS_cons ok_201 (pS_nil)), (pV_cons (List.mem_of_getElem? (i := 81) rfl) (pV_cons (List.mem_of_getElem? (i := 82) rfl) (pV_nil))), f_221_74⟩
theorem q_221_75 : pQ_221 u_221_75 := ⟨_, _, _, _, (pS_cons ok_201 (pS_nil)), (pV_cons (List.mem_of_getElem? (i := 81) rfl) (pV_cons (List.mem_of_getElem? (i := 84) rfl) (pV_nil))), f_221_75⟩
theorem q_221_76 : pQ_221 u_221_76 := ⟨_, _, _, _, (pS_nil), (pV_cons (List.mem_of_getElem? (i := 85) rfl) (pV_nil)), f_221_76⟩
theorem q_221_77 : pQ_221 u_221_77 := ⟨_, _, _, _, (pS_cons ok_113 (pS_nil)), (pV_cons (List.mem_of_getElem? (i := 86) rfl) (pV_nil)), f_221_77⟩
theorem q_221_78 : pQ_221 u_221_78 := ⟨_, _, _, _, (pS_nil), (pV_cons (List.mem_of_getElem? (i := 87) rfl) (pV_nil)), f_221_78⟩
theorem q_221_79 : pQ_221 u_221_79 := ⟨_, _, _, _, (pS_nil), (pV_cons (List.mem_of_getElem? (i := 88) rfl) (pV_nil)), f_221_79⟩
theorem q_221_80 : pQ_221 u_221_80 := ⟨_, _, _, _, (pS_nil), (pV_cons (List.mem_of_getElem? (i := 89) rfl) (pV_nil)), f_221_80⟩
theorem q_221_81 : pQ_221 u_221_81 := ⟨_, _, _, _, (pS_cons ok_113 (pS_cons ok_217 (pS_nil))), (pV_cons (List.mem_of_getElem? (i := 73) rfl) (pV_cons (List.mem_of_getElem? (i := 91) rfl) (pV_nil))), f_221_81⟩
theorem q_221_82 : pQ_221 u_221_82 := ⟨_, _, _, _, (pS_cons ok_113 (pS_cons ok_217 (pS_nil))), (pV_cons (List.mem_of_getElem? (i := 73) rfl) (pV_cons (List.mem_of_getElem? (i := 91) rfl) (pV_nil))), f_221_82⟩
theorem q_221_83 : pQ_221 u_221_83 := ⟨_, _, _, _, (pS_cons ok_113 (pS_cons ok_217 (pS_nil))), (pV_cons (List.mem_of_getElem? (i := 73) rfl) (pV_cons (List.mem_of_getElem? (i := 91) rfl) (pV_nil))), f_221_83⟩
theorem q_221_84 : pQ_221 u_221_84 := ⟨_, _, _, _, (pS_cons ok_113 (pS_cons ok_217 (pS_nil))), (pV_cons (List.mem_of_getElem? (i := 73) rfl) (pV_cons (List.mem_of_getElem? (i := 91) rfl) (pV_nil))), f_221_84⟩
theorem q_221_85 : pQ_221 u_221_85 := ⟨_, _, _, _, (pS_nil), (pV_cons (List.mem_of_getElem? (i := 94) rfl) (pV_nil)), f_221_85⟩
theorem q_221_86 : pQ_221 u_221_86 := ⟨_, _, _, _, (pS_cons ok_160 (pS_cons ok_186 (pS_cons ok_187 (pS_cons ok_201 (pS_cons ok_202 (pS_cons ok_217 (pS_nil))))))), (pV_cons (List.mem_of_getElem? (i := 95) rfl) (pV_cons (List.mem_of_getElem? (i := 96) rfl) (pV_cons (List.mem_of_getElem? (i := 97) rfl) (pV_cons (List.mem_of_getElem? (i := 98) rfl) (pV_cons (List.mem_of_getElem? (i := 99) rfl) (pV_nil)))))), f_221_86⟩
theorem q_221_87 : pQ_221 u_221_87 := ⟨_, _, _, _, (pS_nil), (pV_nil), f_221_87⟩
theorem q_221_88 : pQ_221 u_221_88 := ⟨_, _, _, _, (pS_nil), (pV_nil), f_221_88⟩
theorem q_221_89 : pQ_221 u_221_89 := ⟨_, _, _, _, (pS_nil), (pV_cons (List.mem_of_getElem? (i := 100) rfl) (pV_nil)), f_221_89⟩
theorem q_221_90 : pQ_221 u_221_90 := ⟨_, _, _, _, (pS_nil), (pV_cons (List.mem_of_getElem? (i := 80) rfl) (pV_nil)), f_221_90⟩
theorem q_221_91 : pQ_221 u_221_91 := ⟨_, _, _, _, (pS_nil), (pV_cons (List.mem_of_getElem? (i := 85) rfl) (pV_nil)), f_221_91⟩
theorem q_221_92 : pQ_221 u_221_92 := ⟨_, _, _, _, (pS_nil), (pV_cons (List.mem_of_getElem? (i := 80) rfl) (pV_nil)), f_221_92⟩
theorem q_221_93 : pQ_221 u_221_93 := ⟨_, _, _, _, (pS_nil), (pV_cons (List.mem_of_getElem? (i := 85) rfl) (pV_nil)), f_221_93⟩
theorem q_221_94 : pQ_221 u_221_94 := ⟨_, _, _, _, (pS_nil), (pV_cons (List.mem_of_getElem? (i := 101) rfl) (pV_nil)), f_221_94⟩
theorem q_221_95 : pQ_221 u_221_95 := ⟨_, _, _, _, (pS_nil), (pV_cons (List.mem_of_getElem? (i := 102) rfl) (pV_nil)), f_221_95⟩
theorem q_221_96 : pQ_221 u_221_96 := ⟨_, _, _, _, (pS_cons ok_201 (pS_nil)), (pV_cons (List.mem_of_getElem? (i := 103) rfl) (pV_cons (List.mem_of_getElem? (i := 104) rfl) (pV_nil))), f_221_96⟩
theorem q_221_97 : pQ_221 u_221_97 := ⟨_, _, _, _, (pS_cons ok_201 (pS_nil)), (pV_cons (List.mem_of_getElem? (i := 103) rfl) (pV_cons (List.mem_of_getElem? (i := 106) rfl) (pV_nil))), f_221_97⟩
theorem q_221_98 : pQ_221 u_221_98 := ⟨_, _, _, _, (pS_nil), (pV_cons (List.mem_of_getElem? (i := 107) rfl) (pV_nil)), f_221_98⟩
theorem q_221_99 : pQ_221 u_221_99 := ⟨_, _, _, _, (pS_cons ok_113 (pS_nil)), (pV_cons (List.mem_of_getElem? (i := 108) rfl) (pV_nil)), f_221_99⟩
theorem q_221_100 : pQ_221 u_221_100 := ⟨_, _, _, _, (pS_nil), (pV_cons (List.mem_of_getElem? (i := 109) rfl) (pV_nil)), f_221_100⟩
theorem q_221_101 : pQ_221 u_221_101 := ⟨_, _, _, _, (pS_nil), (pV_cons (List.mem_of_getElem? (i := 110) rfl) (pV_nil)), f_221_101⟩
theorem q_221_102 : pQ_221 u_221_102 := ⟨_, _, _, _, (pS_nil), (pV_cons (List.mem_of_getElem? (i := 111) rfl) (pV_nil)), f_221_102⟩
theorem q_221_103 : pQ_221 u_221_103 := ⟨_, _, _, _, (pS_cons ok_113 (pS_cons ok_217 (pS_nil))), (pV_cons (List.mem_of_getElem? (i := 95) rfl) (pV_cons (List.mem_of_getElem? (i := 113) rfl) (pV_nil))), f_221_103⟩
theorem q_221_104 : pQ_221 u_221_104 := ⟨_, _, _, _, (pS_cons ok_113 (pS_cons ok_217 (pS_nil))), (pV_cons (List.mem_of_getElem? (i := 95) rfl) (pV_cons (List.mem_of_getElem? (i := 113) rfl) (pV_nil))), f_221_104⟩
theorem q_221_105 : pQ_221 u_221_105 := ⟨_, _, _, _, (pS_cons ok_113 (pS_cons ok_217 (pS_nil))), (pV_cons (List.mem_of_getElem? (i := 95) rfl) (pV_cons (List.mem_of_getElem? (i := 113) rfl) (pV_nil))), f_221_105⟩
theorem q_221_106 : pQ_221 u_221_106 := ⟨_, _, _, _, (pS_cons ok_113 (pS_cons ok_217 (pS_nil))), (pV_cons (List.mem_of_getElem? (i := 95) rfl) (pV_cons (List.mem_of_getElem? (i := 113) rfl) (pV_nil))), f_221_106⟩
theorem q_221_107 : pQ_221 u_221_107 := ⟨_, _, _, _, (pS_nil), (pV_cons (List.mem_of_getElem? (i := 116) rfl) (pV_nil)), f_221_107⟩
theorem q_221_108 : pQ_221 u_221_108 := ⟨_, _, _, _, (pS_cons ok_160 (pS_cons ok_186 (pS_cons ok_187 (pS_cons ok_201 (pS_cons ok_202 (pS_cons ok_217 (pS_nil))))))), (pV_cons (List.mem_of_getElem? (i := 117) rfl) (pV_cons (List.mem_of_getElem? (i := 118) rfl) (pV_cons (List.mem_of_getElem? (i := 119) rfl) (pV_cons (List.mem_of_getElem? (i := 120) rfl) (pV_cons (List.mem_of_getElem? (i := 121) rfl) (pV_nil)))))), f_221_108⟩
theorem q_221_109 : pQ_221 u_221_109 := ⟨_, _, _, _, (pS_nil), (pV_cons (List.mem_of_getElem? (i := 122) rfl) (pV_nil)), f_221_109⟩
theorem q_221_110 : pQ_221 u_221_110 := ⟨_, _, _, _, (pS_nil), (pV_cons (List.mem_of_getElem? (i := 123) rfl) (pV_nil)), f_221_110⟩
theorem q_221_111 : pQ_221 u_221_111 := ⟨_, _, _, _, (pS_nil), (pV_cons (List.mem_of_getElem? (i := 124) rfl) (pV_nil)), f_221_111⟩
theorem q_221_112 : pQ_221 u_221_112 := ⟨_, _, _, _, (pS_nil), (pV_cons (List.mem_of_getElem? (i := 102) rfl) (pV_nil)), f_221_112⟩
theorem q_221_113 : pQ_221 u_221_113 := ⟨_, _, _, _, (pS_nil), (pV_cons (List.mem_of_getElem? (i := 107) rfl) (pV_nil)), f_221_113⟩
theorem q_221_114 : pQ_221 u_221_114 := ⟨_, _, _, _, (pS_nil), (pV_cons (List.mem_of_getElem? (i := 102) rfl) (pV_nil)), f_221_114⟩
theorem q_221_115 : pQ_221 u_221_115 := ⟨_, _, _, _, (pS_nil), (pV_cons (List.mem_of_getElem? (i := 107) rfl) (pV_nil)), f_221_115⟩
theorem q_221_116 : pQ_221 u_221_116 := ⟨_, _, _, _, (pS_nil), (pV_cons (List.mem_of_getElem? (i := 125) rfl) (pV_nil)), f_221_116⟩
theorem q_221_117 : pQ_221 u_221_117 := ⟨_, _, _, _, (pS_nil), (pV_cons (List.mem_of_getElem? (i := 126) rfl) (pV_nil)), f_221_117⟩
theorem q_221_118 : pQ_221 u_221_118 := ⟨_, _, _, _, (pS_cons ok_201 (pS_nil)), (pV_cons (List.mem_of_getElem? (i := 127) rfl) (pV_cons (List.mem_of_getElem? (i := 128) rfl) (pV_nil))), f_221_118⟩
theorem q_221_119 : pQ_221 u_221_119 := ⟨_, _, _, _, (pS_cons ok_201 (pS_nil)), (pV_cons (List.mem_of_getElem? (i := 127) rfl) (pV_cons (List.mem_of_getElem? (i := 130) rfl) (pV_nil))), f_221_119⟩
theorem q_221_120 : pQ_221 u_221_120 := ⟨_, _, _, _, (pS_nil), (pV_cons (List.mem_of_getElem? (i := 131) rfl) (pV_nil)), f_221_120⟩
theorem q_221_121 : pQ_221 u_221_121 := ⟨_, _, _, _, (pS_nil), (pV_cons (List.mem_of_getElem? (i := 132) rfl) (pV_nil)), f_221_121⟩
theorem q_221_122 : pQ_221 u_221_122 := ⟨_, _, _, _, (pS_nil), (pV_nil), f_221_122⟩
theorem q_221_123 : pQ_221 u_221_123 := ⟨_, _, _, _, (pS_nil), (pV_nil), f_221_123⟩
theorem q_221_124 : pQ_221 u_221_124 := ⟨_, _, _, _, (pS_nil), (pV_cons (List.mem_of_getElem? (i := 133) rfl) (pV_nil)), f_221_124⟩
theorem q_221_125 : pQ_221 u_221_125 := ⟨_, _, _, _, (pS_nil), (pV_cons (List.mem_of_getElem? (i := 134) rfl) (pV_nil)), f_221_125⟩
theorem q_221_126 : pQ_221 u_221_126 := ⟨_, _, _, _, (pS_nil), (pV_cons (List.mem_of_getElem? (i := 135) rfl) (pV_nil)), f_221_126⟩
theorem q_221_127 : pQ_221 u_221_127 := ⟨_, _, _, _, (pS_cons ok_113 (pS_cons ok_217 (pS_nil))), (pV_cons (List.mem_of_getElem? (i := 117) rfl) (pV_cons (List.mem_of_getElem? (i := 137) rfl) (pV_nil))), f_221_127⟩
theorem q_221_128 : pQ_221 u_221_128 := ⟨_, _, _, _, (pS_cons ok_113 (pS_cons ok_217 (pS_nil))), (pV_cons (List.mem_of_getElem? (i := 117) rfl) (pV_cons (List.mem_of_getElem? (i := 137) rfl) (pV_nil))), f_221_128⟩
theorem q_221_129 : pQ_221 u_221_129 := ⟨_, _, _, _, (pS_cons ok_113 (pS_cons ok_217 (pS_nil))), (pV_cons (List.mem_of_getElem? (i := 117) rfl) (pV_cons (List.mem_of_getElem? (i := 137) rfl) (pV_nil))), f_221_129⟩
theorem q_221_130 : pQ_221 u_221_130 := ⟨_, _, _, _, (pS_cons ok_113 (pS_cons ok_217 (pS_nil))), (pV_cons (List.mem_of_getElem? (i := 117) rfl) (pV_cons (List.mem_of_getElem? (i := 137) rfl) (pV_nil))), f_221_130⟩
theorem q_221_131 : pQ_221 u_221_131 := ⟨_, _, _, _, (pS_nil), (pV_cons (List.mem_of_getElem? (i := 140) rfl) (pV_nil)), f_221_131⟩
theorem q_221_132 : pQ_221 u_221_132 := ⟨_, _, _, _, (pS_cons ok_178 (pS_cons ok_186 (pS_cons ok_187 (pS_cons ok_220 (pS_nil))))), (pV_cons (List.mem_of_getElem? (i := 141) rfl) (pV_nil)), f_221_132⟩
theorem q_221_133 : pQ_221 u_221_133 := ⟨_, _, _, _, (pS_nil), (pV_cons (List.mem_of_getElem? (i := 142) rfl) (pV_nil)), f_221_133⟩
theorem q_221_134 : pQ_221 u_221_134 := ⟨_, _, _, _, (pS_nil), (pV_cons (List.mem_of_getElem? (i := 143) rfl) (pV_nil)), f_221_134⟩
theorem q_221_135 : pQ_221 u_221_135 := ⟨_, _, _, _, (pS_nil), (pV_cons (List.mem_of_getElem? (i := 144) rfl) (pV_nil)), f_221_135⟩
theorem q_221_136 : pQ_221 u_221_136 := ⟨_, _, _, _, (pS_nil), (pV_cons (List.mem_of_getElem? (i := 126) rfl) (pV_nil)), f_221_136⟩
theorem q_221_137 : pQ_221 u_221_137 := ⟨_, _, _, _, (pS_nil), (pV_cons (List.mem_of_getElem? (i := 131) rfl) (pV_nil)), f_221_137⟩
theorem q_221_138 : pQ_221 u_221_138 := ⟨_, _, _, _, (pS_nil), (pV_cons (List.mem_of_getElem? (i := 126) rfl) (pV_nil)), f_221_138⟩
theorem q_221_139 : pQ_221 u_221_139 := ⟨_, _, _, _, (pS_nil), (pV_cons (List.mem_of_getElem? (i := 131) rfl) (pV_nil)), f_221_139⟩
theorem q_221_140 : pQ_221 u_221_140 := ⟨_, _, _, _, (pS_nil), (pV_cons (List.mem_of_getElem? (i := 145) rfl) (pV_nil)), f_221_140⟩
theorem q_221_141 : pQ_221 u_221_141 := ⟨_, _, _, _, (pS_nil), (pV_cons (List.mem_of_getElem? (i := 146) rfl) (pV_nil)), f_221_141⟩
theorem q_221_142 : pQ_221 u_221_142 := ⟨_, _, _, _, (pS_nil), (pV_cons (List.mem_of_getElem? (i := 147) rfl) (pV_nil)), f_221_142⟩
theorem q_221_143 : pQ_221 u_221_143 := ⟨_, _, _, _, (pS_nil), (pV_cons (List.mem_of_getElem? (i := 148) rfl) (pV_nil)), f_221_143⟩
theorem q_221_144 : pQ_221 u_221_144 := ⟨_, _, _, _, (pS_nil), (pV_cons (List.mem_of_getElem? (i := 149) rfl) (pV_nil)), f_221_144⟩
theorem q_221_145 : pQ_221 u_221_145 := ⟨_, _, _, _, (pS_nil), (pV_cons (List.mem_of_getElem? (i := 150) rfl) (pV_nil)), f_221_145⟩
theorem q_221_146 : pQ_221 u_221_146 := ⟨_, _, _, _, (pS_nil), (pV_cons (List.mem_of_getElem? (i := 151) rfl) (pV_nil)), f_221_146⟩
theorem q_221_147 : pQ_221 u_221_147 := ⟨_, _, _, _, (pS_nil), (pV_nil), f_221_147⟩
theorem q_221_148 : pQ_221 u_221_148 := ⟨_, _, _, _, (pS_nil), (pV_nil), f_221_148⟩
theorem q_221_149 : pQ_221 u_221_149 := ⟨_, _, _, _, (pS_nil), (pV_cons (List.mem_of_getElem? (i := 152) rfl) (pV_nil)), f_221_149⟩
theorem q_221_150 : pQ_221 u_221_150 := ⟨_, _, _, _, (pS_nil), (pV_cons (List.mem_of_getElem? (i := 153) rfl) (pV_nil)), f_221_150⟩
theorem q_221_151 : pQ_221 u_221_151 := ⟨_, _, _, _, (pS_nil), (pV_cons (List.mem_of_getElem? (i := 154) rfl) (pV_nil)), f_221_151⟩
theorem q_221_152 : pQ_221 u_221_152 := ⟨_, _, _, _, (pS_nil), (pV_cons (List.mem_of_getElem? (i := 155) rfl) (pV_nil)), f_221_152⟩
theorem q_221_153 : pQ_221 u_221_153 := ⟨_, _, _, _, (pS_nil), (pV_cons (List.mem_of_getElem? (i := 156) rfl) (pV_nil)), f_221_153⟩
theorem q_221_154 : pQ_221 u_221_154 := ⟨_, _, _, _, (pS_nil), (pV_cons (List.mem_of_getElem? (i := 157) rfl) (pV_nil)), f_221_154⟩
theorem q_221_155 : pQ_221 u_221_155 := ⟨_, _, _, _, (pS_nil), (pV_cons (List.mem_of_getElem? (i := 158) rfl) (pV_nil)), f_221_155⟩
theorem q_221_156 : pQ_221 u_221_156 := ⟨_, _, _, _, (pS_nil), (pV_cons (List.mem_of_getElem? (i := 159) rfl) (pV_nil)), f_221_156⟩
theorem q_221_157 : pQ_221 u_221_157 := ⟨_, _, _, _, (pS_nil), (pV_cons (List.mem_of_getElem? (i := 160) rfl) (pV_nil)), f_221_157⟩
theorem q_221_158 : pQ_221 u_221_158 := ⟨_, _, _, _, (pS_nil), (pV_nil), f_221_158⟩
theorem q_221_159 : pQ_221 u_221_159 := ⟨_, _, _, _, (pS_nil), (pV_nil), f_221_159⟩
theorem q_221_160 : pQ_221 u_221_160 := ⟨_, _, _, _, (pS_nil), (pV_cons (List.mem_of_getElem? (i := 161) rfl) (pV_nil)), f_221_160⟩
theorem q_221_161 : pQ_221 u_221_161 := ⟨_, _, _, _, (pS_nil), (pV_cons (List.mem_of_getElem? (i := 162) rfl) (pV_nil)), f_221_161⟩
theorem q_221_162 : pQ_221 u_221_162 := ⟨_, _, _, _, (pS_nil), (pV_cons (List.mem_of_getElem? (i := 163) rfl) (pV_nil)), f_221_162⟩
theorem q_221_163 : pQ_221 u_221_163 := ⟨_, _, _, _, (pS_nil), (pV_nil), f_221_163⟩
theorem qb_221_0 : ∀ u ∈ [u_221_0, u_221_1, u_221_2, u_221_3, u_221_4, u_221_5, u_221_6, u_221_7, u_221_8, u_221_9], pQ_221 u := pU_cons q_221_0 (pU_cons q_221_1 (pU_cons q_221_2 (pU_cons q_221_3 (pU_cons q_221_4 (pU_cons q_221_5 (pU_cons q_221_6 (pU_cons q_221_7 (pU_cons q_221_8 (pU_cons q_221_9 (pU_nil))))))))))
theorem qb_221_1 : ∀ u ∈ [u_221_10, u_221_11, u_221_12, u_221_13, u_221_14, u_221_15, u_221_16, u_221_17, u_221_18, u_221_19], pQ_221 u := pU_cons q_221_10 (pU_cons q_221_11 (pU_cons q_221_12 (pU_cons q_221_13 (pU_cons q_221_14 (pU_cons q_221_15 (pU_cons q_221_16 (pU_cons q_221_17 (pU_cons q_221_18 (pU_cons q_221_19 (pU_nil))))))))))
theorem qb_221_2 : ∀ u ∈ [u_221_20, u_221_21, u_221_22, u_221_23, u_221_24, u_221_25, u_221_26, u_221_27, u_221_28, u_221_29], pQ_221 u := pU_cons q_221_20 (pU_cons q_221_21 (pU_cons q_221_22 (pU_cons q_221_23 (pU_cons q_221_24 (pU_cons q_221_25 (pU_cons q_221_26 (pU_cons q_221_27 (pU_cons q_221_28 (pU_cons q_221_29 (pU_nil))))))))))
theorem qb_221_3 : ∀ u ∈ [u_221_30, u_221_31, u_221_32, u_221_33, u_221_34, u_221_35, u_221_36, u_221_37, u_221_38, u_221_39], pQ_221 u := pU_cons q_221_30 (pU_cons q_221_31 (pU_cons q_221_32 (pU_cons q_221_33 (pU_cons q_221_34 (pU_cons q_221_35 (pU_cons q_221_36 (pU_cons q_221_37 (pU_cons q_221_38 (pU_cons q_221_39 (pU_nil))))))))))
theorem qb_221_4 : ∀ u ∈ [u_221_40, u_221_41, u_221_42, u_221_43, u_221_44, u_221_45, u_221_46, u_221_47, u_221_48, u_221_49], pQ_221 u := pU_cons q_221_40 (pU_cons q_221_41 (pU_cons q_221_42 (pU_cons q_221_43 (pU_cons q_221_44 (pU_cons q_221_45 (pU_cons q_221_46 (pU_cons q_221_47 (pU_cons q_221_48 (pU_cons q_221_49 (pU_nil))))))))))
theorem qb_221_5 : ∀ u ∈ [u_221_50, u_221_51, u_221_52, u_221_53, u_221_54, u_221_55, u_221_56, u_221_57, u_221_58, u_221_59], pQ_221 u := pU_cons q_221_50 (pU_cons q_221_51 (pU_cons q_221_52 (pU_cons q_221_53 (pU_cons q_221_54 (pU_cons q_221_55 (pU_cons q_221_56 (pU_cons q_221_57 (pU_cons q_221_58 (pU_cons q_221_59 (pU_nil))))))))))
theorem qb_221_6 : ∀ u ∈ [u_221_60, u_221_61, u_221_62, u_221_63, u_221_64, u_221_65, u_221_66, u_221_67, u_221_68, u_221_69], pQ_221 u := pU_cons q_221_60 (pU_cons q_221_61 (pU_cons q_221_62 (pU_cons q_221_63 (pU_cons q_221_64 (pU_cons q_221_65 (pU_cons q_221_66 (pU_cons q_221_67 (pU_cons q_221_68 (pU_cons q_221_69 (pU_nil))))))))))
theorem qb_221_7 : ∀ u ∈ [u_221_70, u_221_71, u_221_72, u_221_73, u_221_74, u_221_75, u_221_76, u_221_77, u_221_78, u_221_79], pQ_221 u := pU_cons q_221_70 (pU_cons q_221_71 (pU_cons q_221_72 (pU_cons q_221_73 (pU_cons q_221_74 (pU_cons q_221_75 (pU_cons q_221_76 (pU_cons q_221_77 (pU_cons q_221_78 (pU_cons q_221_79 (pU_nil))))))))))
theorem qb_221_8 : ∀ u ∈ [u_221_80, u_221_81, u_221_82, u_221_83, u_221_84, u_221_85, u_221_86, u_221_87, u_221_88, u_221_89], pQ_221 u := pU_cons q_221_80 (pU_cons q_221_81 (pU_cons q_221_82 (pU_cons q_221_83 (pU_cons q_221_84 (pU_cons q_221_85 (pU_cons q_221_86 (pU_cons q_221_87 (pU_cons q_221_88 (pU_cons q_221_89 (pU_nil))))))))))
theorem qb_221_9 : ∀ u ∈ [u_221_90, u_221_91, u_221_92, u_221_93, u_221_94, u_221_95, u_221_96, u_221_97, u_221_98, u_221_99], pQ_221 u := pU_cons q_221_90 (pU_cons q_221_91 (pU_cons q_221_92 (pU_cons q_221_93 (pU_cons q_221_94 (pU_cons q_221_95 (pU_cons q_221_96 (pU_cons q_221_97 (pU_cons q_221_98 (pU_cons q_221_99 (pU_nil))))))))))
theorem qb_221_10 : ∀ u ∈ [u_221_100, u_221_101, u_221_102, u_221_103, u_221_104, u_221_105, u_221_106, u_221_107, u_221_108, u_221_109], pQ_221 u := pU_cons q_221_100 (pU_cons q_221_101 (pU_cons q_221_102 (pU_cons q_221_103 (pU_cons q_221_104 (pU_cons q_221_105 (pU_cons q_221_106 (pU_cons q_221_107 (pU_cons q_221_108 (pU_cons q_221_109 (pU_nil))))))))))
theorem qb_221_11 : ∀ u ∈ [u_221_110, u_221_111, u_221_112, u_221_113, u_221_114, u_221_115, u_221_116, u_221_117, u_221_118, u_221_119], pQ_221 u := pU_cons q_221_110 (pU_cons q_221_111 (pU_cons q_221_112 (pU_cons q_221_113 (pU_cons q_221_114 (pU_cons q_221_115 (pU_cons q_221_116 (pU_cons q_221_117 (pU_cons q_221_118 (pU_cons q_221_119 (pU_nil))))))))))
theorem qb_221_12 : ∀ u ∈ [u_221_120, u_221_121, u_221_122, u_221_123, u_221_124, u_221_125, u_221_126, u_221_127, u_221_128, u_221_129], pQ_221 u := pU_cons q_221_120 (pU_cons q_221_121 (pU_cons q_221_122 (pU_cons q_221_123 (pU_cons q_221_124 (pU_cons q_221_125 (pU_cons q_221_126 (pU_cons q_221_127 (pU_cons q_221_128 (pU_cons q_221_129 (pU_nil))))))))))
theorem qb_221_13 : ∀ u ∈ [u_221_130, u_221_131, u_221_132, u_221_133, u_221_134, u_221_135, u_221_136, u_221_137, u_221_138, u_221_139], pQ_221 u := pU_cons q_221_130 (pU_cons q_221_131 (pU_cons q_221_132 (pU_cons q_221_133 (pU_cons q_221_134 (pU_cons q_221_135 (pU_cons q_221_136 (pU_cons q_221_137 (pU_cons q_221_138 (pU_cons q_221_139 (pU_nil))))))))))
theorem qb_221_14 : ∀ u ∈ [u_221_140, u_221_141, u_221_142, u_221_143, u_221_144, u_221_145, u_221_146, u_221_147, u_221_148, u_221_149], pQ_221 u := pU_cons q_221_140 (pU_cons q_221_141 (pU_cons q_221_142 (pU_cons q_221_143 (pU_cons q_221_144 (pU_cons q_221_145 (pU_cons q_221_146 (pU_cons q_221_147 (pU_cons q_221_148 (pU_cons q_221_149 (pU_nil))))))))))
theorem qb_221_15 : ∀ u ∈ [u_221_150, u_221_151, u_221_152, u_221_153, u_221_154, u_221_155, u_221_156, u_221_157, u_221_158, u_221_159], pQ_221 u := pU_cons q_221_150 (pU_cons q_221_151 (pU_cons q_221_152 (pU_cons q_221_153 (pU_cons q_221_154 (pU_cons q_221_155 (pU_cons q_221_156 (pU_cons q_221_157 (pU_cons q_221_158 (pU_cons q_221_159 (pU_nil))))))))))
theorem qb_221_16 : ∀ u ∈ [u_221_160, u_221_161, u_221_162, u_221_163], pQ_221 u := pU_cons q_221_160 (pU_cons q_221_161 (pU_cons q_221_162 (pU_cons q_221_163 (pU_nil))))
theorem ok_221 : sInOk pPT i_221 := sInst3 (M := pm_94) (cus := us_221) pOk pg_94 (by decide +kernel) ⟨_, _, _, _, (pS_nil), (pV_cons (List.mem_of_getElem? (i := 0) rfl) (pV_nil)), e_221⟩ (show ∀ u ∈ us_221, pQ_221 u from (pU_app qb_221_0 (pU_app qb_221_1 (pU_app qb_221_2 (pU_app qb_221_3 (pU_app qb_221_4 (pU_app qb_221_5 (pU_app qb_221_6 (pU_app qb_221_7 (pU_app qb_221_8 (pU_app qb_221_9 (pU_app qb_221_10 (pU_app qb_221_11 (pU_app qb_221_12 (pU_app qb_221_13 (pU_app qb_221_14 (pU_app qb_221_15 qb_221_16)))))))))))))))))
def pQ_222 (u : sCu) : Prop := ∃ (SM : List sIn) (H : gHt) (cu : List sCu) (n : Nat), (∀ I ∈ SM, sInOk pPT I) ∧ (∀ v ∈ cu, v ∈ us_222) ∧ sWhU pPT SM H i_222 (mR pm_91) cu n u = true
theorem q_222_0 : pQ_222 u_222_0 := ⟨_, _, _, _, (pS_cons ok_189 (pS_nil)), (pV_nil), f_222_0⟩
theorem q_222_1 : pQ_222 u_222_1 := ⟨_, _, _, _, (pS_cons ok_113 (pS_cons ok_207 (pS_cons ok_221 (pS_nil)))), (pV_cons (List.mem_of_getElem? (i := 0) rfl) (pV_cons (List.mem_of_getElem? (i := 1) rfl) (pV_nil))), f_222_1⟩
theorem qb_222_0 : ∀ u ∈ [u_222_0, u_222_1], pQ_222 u := pU_cons q_222_0 (pU_cons q_222_1 (pU_nil))
theorem ok_222 : sInOk pPT i_222 := sInst3 (M := pm_91) (cus := us_222) pOk pg_91 (by decide +kernel) ⟨_, _, _, _, (pS_cons ok_221 (pS_nil)), (pV_cons (List.mem_of_getElem? (i := 0) rfl) (pV_cons (List.mem_of_getElem? (i := 1) rfl) (pV_nil))), e_222⟩ (show ∀ u ∈ us_222, pQ_222 u from qb_222_0)
def pQ_223 (u : sCu) : Prop := ∃ (SM : List sIn) (H : gHt) (cu : List sCu) (n : Nat), (∀ I ∈ SM, sInOk pPT I) ∧ (∀ v ∈ cu, v ∈ us_223) ∧ sWhU pPT SM H i_223 (mR pm_94) cu n u = true
theorem q_223_0 : pQ_223 u_223_0 := ⟨_, _, _, _, (pS_cons ok_178 (pS_cons ok_186 (pS_cons ok_187 (pS_cons ok_220 (pS_nil))))), (pV_cons (List.mem_of_getElem? (i := 1) rfl) (pV_nil)), f_223_0⟩
theorem q_223_1 : pQ_223 u_223_1 := ⟨_, _, _, _, (pS_nil), (pV_cons (List.mem_of_getElem? (i := 2) rfl) (pV_nil)), f_223_1⟩
theorem q_223_2 : pQ_223 u_223_2 := ⟨_, _, _, _, (pS_nil), (pV_nil), f_223_2⟩
theorem qb_223_0 : ∀ u ∈ [u_223_0, u_223_1, u_223_2], pQ_223 u := pU_cons q_223_0 (pU_cons q_223_1 (pU_cons q_223_2 (pU_nil)))
theorem ok_223 : sInOk pPT i_223 := sInst3 (M := pm_94) (cus := us_223) pOk pg_94 (by decide +kernel) ⟨_, _, _, _, (pS_nil), (pV_cons (List.mem_of_getElem? (i := 0) rfl) (pV_nil)), e_223⟩ (show ∀ u ∈ us_223, pQ_223 u from qb_223_0)
def pQ_224 (u : sCu) : Prop := ∃ (SM : List sIn) (H : gHt) (cu : List sCu) (n : Nat), (∀ I ∈ SM, sInOk pPT I) ∧ (∀ v ∈ cu, v ∈ us_224) ∧ sWhU pPT SM H i_224 (mR pm_91) cu n u = true
theorem q_224_0 : pQ_224 u_224_0 := ⟨_, _, _, _, (pS_cons ok_189 (pS_nil)), (pV_nil), f_224_0⟩
theorem qb_224_0 : ∀ u ∈ [u_224_0], pQ_224 u := pU_cons q_224_0 (pU_nil)
theorem ok_224 : sInOk pPT i_224 := sInst3 (M := pm_91) (cus := us_224) pOk pg_91 (by decide +kernel) ⟨_, _, _, _, (pS_cons ok_223 (pS_nil)), (pV_cons (List.mem_of_getElem? (i := 0) rfl) (pV_nil)), e_224⟩ (show ∀ u ∈ us_224, pQ_224 u from qb_224_0)
def pQ_225 (u : sCu) : Prop := ∃ (SM : List sIn) (H : gHt) (cu : List sCu) (n : Nat), (∀ I ∈ SM, sInOk pPT I) ∧ (∀ v ∈ cu, v ∈ us_225) ∧ sWhU pPT SM H i_225 (mR pm_92) cu n u = true
theorem q_225_0 : pQ_225 u_225_0 := ⟨_, _, _, _, (pS_cons ok_222 (pS_nil)), (pV_cons (List.mem_of_getElem? (i := 2) rfl) (pV_cons (List.mem_of_getElem? (i := 3) rfl) (pV_nil))), f_225_0⟩
theorem q_225_1 : pQ_225 u_225_1 := ⟨_, _, _, _, (pS_cons ok_224 (pS_nil)), (pV_cons (List.mem_of_getElem? (i := 2) rfl) (pV_nil)), f_225_1⟩
theorem q_225_2 : pQ_225 u_225_2 := ⟨_, _, _, _, (pS_cons ok_191 (pS_nil)), (pV_nil), f_225_2⟩
theorem q_225_3 : pQ_225 u_225_3 := ⟨_, _, _, _, (pS_cons ok_113 (pS_cons ok_211 (pS_cons ok_222 (pS_nil)))), (pV_cons (List.mem_of_getElem? (i := 2) rfl) (pV_cons (List.mem_of_getElem? (i := 3) rfl) (pV_nil))), f_225_3⟩
theorem qb_225_0 : ∀ u ∈ [u_225_0, u_225_1, u_225_2, u_225_3], pQ_225 u := pU_cons q_225_0 (pU_cons q_225_1 (pU_cons q_225_2 (pU_cons q_225_3 (pU_nil))))
theorem ok_225 : sInOk pPT i_225 := sInst3 (M := pm_92) (cus := us_225) pOk pg_92 (by decide +kernel) ⟨_, _, _, _, (pS_cons ok_159 (pS_nil)), (pV_cons (List.mem_of_getElem? (i := 0) rfl) (pV_cons (List.mem_of_getElem? (i := 1) rfl) (pV_nil))), e_225⟩ (show ∀ u ∈ us_225, pQ_225 u from qb_225_0)
theorem ok_226 : sInOk pPT i_226 := sInst3 (M := pm_96) (cus := []) pOk pg_96 (by decide +kernel) ⟨_, _, _, _, (pS_cons ok_113 (pS_cons ok_161 (pS_cons ok_163 (pS_cons ok_172 (pS_cons ok_175 (pS_cons ok_193 (pS_cons ok_214 (pS_cons ok_225 (pS_nil))))))))), pV_nil, e_226⟩ pU_nil
def pQ_227 (u : sCu) : Prop := ∃ (SM : List sIn) (H : gHt) (cu : List sCu) (n : Nat), (∀ I ∈ SM, sInOk pPT I) ∧ (∀ v ∈ cu, v ∈ us_227) ∧ sWhU pPT SM H i_227 (mR pm_97) cu n u = true
theorem q_227_0 : pQ_227 u_227_0 := ⟨_, _, _, _, (pS_cons ok_180 (pS_cons ok_181 (pS_nil))), (pV_nil), f_227_0⟩
theorem q_227_1 : pQ_227 u_227_1 := ⟨_, _, _, _, (pS_cons ok_195 (pS_cons ok_196 (pS_nil))), (pV_cons (List.mem_of_getElem? (i := 2) rfl) (pV_cons (List.mem_of_getElem? (i := 3) rfl) (pV_nil))), f_227_1⟩
theorem q_227_2 : pQ_227 u_227_2 := ⟨_, _, _, _, (pS_cons ok_195 (pS_nil)), (pV_cons (List.mem_of_getElem? (i := 4) rfl) (pV_cons (List.mem_of_getElem? (i := 5) rfl) (pV_nil))), f_227_2⟩
theorem q_227_3 : pQ_227 u_227_3 := ⟨_, _, _, _, (pS_cons ok_195 (pS_nil)), (pV_cons (List.mem_of_getElem? (i := 6) rfl) (pV_cons (List.mem_of_getElem? (i := 7) rfl) (pV_nil))), f_227_3⟩
theorem q_227_4 : pQ_227 u_227_4 := ⟨_, _, _, _, (pS_cons ok_113 (pS_cons ok_226 (pS_nil))), (pV_cons (List.mem_of_getElem? (i := 0) rfl) (pV_cons (List.mem_of_getElem? (i := 1) rfl) (pV_nil))), f_227_4⟩
theorem q_227_5 : pQ_227 u_227_5 := ⟨_, _, _, _, (pS_cons ok_113 (pS_cons ok_226 (pS_nil))), (pV_cons (List.mem_of_getElem? (i := 0) rfl) (pV_cons (List.mem_of_getElem? (i := 1) rfl) (pV_nil))), f_227_5⟩
theorem q_227_6 : pQ_227 u_227_6 := ⟨_, _, _, _, (pS_cons ok_113 (pS_cons ok_226 (pS_nil))), (pV_cons (List.mem_of_getElem? (i := 0) rfl) (pV_cons (List.mem_of_getElem? (i := 1) rfl) (pV_nil))), f_227_6⟩
theorem q_227_7 : pQ_227 u_227_7 := ⟨_, _, _, _, (pS_cons ok_113 (pS_cons ok_226 (pS_nil))), (pV_cons (List.mem_of_getElem? (i := 0) rfl) (pV_cons (List.mem_of_getElem? (i := 1) rfl) (pV_nil))), f_227_7⟩
theorem qb_227_0 : ∀ u ∈ [u_227_0, u_227_1, u_227_2, u_227_3, u_227_4, u_227_5, u_227_6, u_227_7], pQ_227 u := pU_cons q_227_0 (pU_cons q_227_1 (pU_cons q_227_2 (pU_cons q_227_3 (pU_cons q_227_4 (pU_cons q_227_5 (pU_cons q_227_6 (pU_cons q_227_7 (pU_nil))))))))
theorem ok_227 : sInOk pPT i_227 := sInst3 (M := pm_97) (cus := us_227) pOk pg_97 (by decide +kernel) ⟨_, _, _, _, (pS_cons ok_226 (pS_nil)), (pV_cons (List.mem_of_getElem? (i := 0) rfl) (pV_cons (List.mem_of_getElem? (i := 1) rfl) (pV_nil))), e_227⟩ (show ∀ u ∈ us_227, pQ_227 u from qb_227_0)
def pQ_228 (u : sCu) : Prop := ∃ (SM : List sIn) (H : gHt) (cu : List sCu) (n : Nat), (∀ I ∈ SM, sInOk pPT I) ∧ (∀ v ∈ cu, v ∈ us_228) ∧ sWhU pPT SM H i_228 (mR pm_98) cu n u = true
theorem q_228_0 : pQ_228 u_228_0 := ⟨_, _, _, _, (pS_cons ok_183 (pS_cons ok_184 (pS_nil))), (pV_nil), f_228_0⟩
theorem q_228_1 : pQ_228 u_228_1 := ⟨_, _, _, _, (pS_cons ok_198 (pS_cons ok_199 (pS_nil))), (pV_cons (List.mem_of_getElem? (i := 2) rfl) (pV_cons (List.mem_of_getElem? (i := 3) rfl) (pV_nil))), f_228_1⟩
theorem q_228_2 : pQ_228 u_228_2 := ⟨_, _, _, _, (pS_cons ok_198 (pS_nil)), (pV_cons (List.mem_of_getElem? (i := 4) rfl) (pV_cons (List.mem_of_getElem? (i := 5) rfl) (pV_nil))), f_228_2⟩
theorem q_228_3 : pQ_228 u_228_3 := ⟨_, _, _, _, (pS_cons ok_198 (pS_nil)), (pV_cons (List.mem_of_getElem? (i := 6) rfl) (pV_cons (List.mem_of_getElem? (i := 7) rfl) (pV_nil))), f_228_3⟩
theorem q_228_4 : pQ_228 u_228_4 := ⟨_, _, _, _, (pS_cons ok_113 (pS_cons ok_227 (pS_nil))), (pV_cons (List.mem_of_getElem? (i := 0) rfl) (pV_cons (List.mem_of_getElem? (i := 1) rfl) (pV_nil))), f_228_4⟩
theorem q_228_5 : pQ_228 u_228_5 := ⟨_, _, _, _, (pS_cons ok_113 (pS_cons ok_227 (pS_nil))), (pV_cons (List.mem_of_getElem? (i := 0) rfl) (pV_cons (List.mem_of_getElem? (i := 1) rfl) (pV_nil))), f_228_5⟩
theorem q_228_6 : pQ_228 u_228_6 := ⟨_, _, _, _, (pS_cons ok_113 (pS_cons ok_227 (pS_nil))), (pV_cons (List.mem_of_getElem? (i := 0) rfl) (pV_cons (List.mem_of_getElem? (i := 1) rfl) (pV_nil))), f_228_6⟩
theorem q_228_7 : pQ_228 u_228_7 := ⟨_, _, _, _, (pS_cons ok_113 (pS_cons ok_227 (pS_nil))), (pV_cons (List.mem_of_getElem? (i := 0) rfl) (pV_cons (List.mem_of_getElem? (i := 1) rfl) (pV_nil))), f_228_7⟩
theorem qb_228_0 : ∀ u ∈ [u_228_0, u_228_1, u_228_2, u_228_3, u_228_4, u_228_5, u_228_6, u_228_7], pQ_228 u := pU_cons q_228_0 (pU_cons q_228_1 (pU_cons q_228_2 (pU_cons q_228_3 (pU_cons q_228_4 (pU_cons q_228_5 (pU_cons q_228_6 (pU_cons q_228_7 (pU_nil))))))))
theorem ok_228 : sInOk pPT i_228 := sInst3 (M := pm_98) (cus := us_228) pOk pg_98 (by decide +kernel) ⟨_, _, _, _, (pS_cons ok_227 (pS_nil)), (pV_cons (List.mem_of_getElem? (i := 0) rfl) (pV_cons (List.mem_of_getElem? (i := 1) rfl) (pV_nil))), e_228⟩ (show ∀ u ∈ us_228, pQ_228 u from qb_228_0)
theorem ok_229 : sInOk pPT i_229 := sInst3 (M := pm_96) (cus := []) pOk pg_96 (by decide +kernel) ⟨_, _, _, _, (pS_nil), pV_nil, e_229⟩ pU_nil
def pQ_230 (u : sCu) : Prop := ∃ (SM : List sIn) (H : gHt) (cu : List sCu) (n : Nat), (∀ I ∈ SM, sInOk pPT I) ∧ (∀ v ∈ cu, v ∈ us_230) ∧ sWhU pPT SM H i_230 (mR pm_97) cu n u = true
theorem q_230_0 : pQ_230 u_230_0 := ⟨_, _, _, _, (pS_cons ok_180 (pS_cons ok_181 (pS_nil))), (pV_nil), f_230_0⟩
theorem qb_230_0 : ∀ u ∈ [u_230_0], pQ_230 u := pU_cons q_230_0 (pU_nil)
theorem ok_230 : sInOk pPT i_230 := sInst3 (M := pm_97) (cus := us_230) pOk pg_97 (by decide +kernel) ⟨_, _, _, _, (pS_cons ok_229 (pS_nil)), (pV_cons (List.mem_of_getElem? (i := 0) rfl) (pV_nil)), e_230⟩ (show ∀ u ∈ us_230, pQ_230 u from qb_230_0)
def pQ_231 (u : sCu) : Prop := ∃ (SM : List sIn) (H : gHt) (cu : List sCu) (n : Nat), (∀ I ∈ SM, sInOk pPT I) ∧ (∀ v ∈ cu, v ∈ us_231) ∧ sWhU pPT SM H i_231 (mR pm_98) cu n u = true
theorem q_231_0 : pQ_231 u_231_0 := ⟨_, _, _, _, (pS_cons ok_183 (pS_cons ok_184 (pS_nil))), (pV_nil), f_231_0⟩
theorem qb_231_0 : ∀ u ∈ [u_231_0], pQ_231 u := pU_cons q_231_0 (pU_nil)
theorem ok_231 : sInOk pPT i_231 := sInst3 (M := pm_98) (cus := us_231) pOk pg_98 (by decide +kernel) ⟨_, _, _, _, (pS_cons ok_230 (pS_nil)), (pV_cons (List.mem_of_getElem? (i := 0) rfl) (pV_nil)), e_231⟩ (show ∀ u ∈ us_231, pQ_231 u from qb_231_0)
def pQ_232 (u : sCu) : Prop := ∃ (SM : List sIn) (H : gHt) (cu : List sCu) (n : Nat), (∀ I ∈ SM, sInOk pPT I) ∧ (∀ v ∈ cu, v ∈ us_232) ∧ sWhU pPT SM H i_232 (mR pm_94) cu n u = true
theorem q_232_0 : pQ_232 u_232_0 := ⟨_, _, _, _, (pS_cons ok_160 (pS_cons ok_186 (pS_cons ok_187 (pS_cons ok_201 (pS_cons ok_202 (pS_cons ok_228 (pS_nil))))))), (pV_cons (List.mem_of_getElem? (i := 1) rfl) (pV_cons (List.mem_of_getElem? (i := 2) rfl) (pV_cons (List.mem_of_getElem? (i := 3) rfl) (pV_cons (List.mem_of_getElem? (i := 4) rfl) (pV_cons (List.mem_of_getElem? (i := 5) rfl) (pV_nil)))))), f_232_0⟩
theorem q_232_1 : pQ_232 u_232_1 := ⟨_, _, _, _, (pS_nil), (pV_cons (List.mem_of_getElem? (i := 6) rfl) (pV_nil)), f_232_1⟩
theorem q_232_2 : pQ_232 u_232_2 := ⟨_, _, _, _, (pS_cons ok_201 (pS_nil)), (pV_cons (List.mem_of_getElem? (i := 7) rfl) (pV_cons (List.mem_of_getElem? (i := 8) rfl) (pV_nil))), f_232_2⟩
theorem q_232_3 : pQ_232 u_232_3 := ⟨_, _, _, _, (pS_cons ok_201 (pS_nil)), (pV_cons (List.mem_of_getElem? (i := 7) rfl) (pV_cons (List.mem_of_getElem? (i := 10) rfl) (pV_nil))), f_232_3⟩
theorem q_232_4 : pQ_232 u_232_4 := ⟨_, _, _, _, (pS_nil), (pV_cons (List.mem_of_getElem? (i := 11) rfl) (pV_nil)), f_232_4⟩
theorem q_232_5 : pQ_232 u_232_5 := ⟨_, _, _, _, (pS_cons ok_113 (pS_nil)), (pV_cons (List.mem_of_getElem? (i := 12) rfl) (pV_nil)), f_232_5⟩
theorem q_232_6 : pQ_232 u_232_6 := ⟨_, _, _, _, (pS_nil), (pV_nil), f_232_6⟩
theorem q_232_7 : pQ_232 u_232_7 := ⟨_, _, _, _, (pS_cons ok_113 (pS_cons ok_228 (pS_nil))), (pV_cons (List.mem_of_getElem? (i := 1) rfl) (pV_cons (List.mem_of_getElem? (i := 14) rfl) (pV_nil))), f_232_7⟩
theorem q_232_8 : pQ_232 u_232_8 := ⟨_, _, _, _, (pS_cons ok_113 (pS_cons ok_228 (pS_nil))), (pV_cons (List.mem_of_getElem? (i := 1) rfl) (pV_cons (List.mem_of_getElem? (i := 14) rfl) (pV_nil))), f_232_8⟩
theorem q_232_9 : pQ_232 u_232_9 := ⟨_, _, _, _, (pS_cons ok_113 (pS_cons ok_228 (pS_nil))), (pV_cons (List.mem_of_getElem? (i := 1) rfl) (pV_cons (List.mem_of_getElem? (i := 14) rfl) (pV_nil))), f_232_9⟩
theorem q_232_10 : pQ_232 u_232_10 := ⟨_, _, _, _, (pS_cons ok_113 (pS_cons ok_228 (pS_nil))), (pV_cons (List.mem_of_getElem? (i := 1) rfl) (pV_cons (List.mem_of_getElem? (i := 14) rfl) (pV_nil))), f_232_10⟩
theorem q_232_11 : pQ_232 u_232_11 := ⟨_, _, _, _, (pS_nil), (pV_nil), f_232_11⟩
theorem q_232_12 : pQ_232 u_232_12 := ⟨_, _, _, _, (pS_cons ok_160 (pS_cons ok_186 (pS_cons ok_187 (pS_cons ok_201 (pS_cons ok_202 (pS_cons ok_228 (pS_nil))))))), (pV_cons (List.mem_of_getElem? (i := 17) rfl) (pV_cons (List.mem_of_getElem? (i := 18) rfl) (pV_cons (List.mem_of_getElem? (i := 19) rfl) (pV_cons (List.mem_of_getElem? (i := 20) rfl) (pV_cons (List.mem_of_getElem? (i := 21) rfl) (pV_nil)))))), f_232_12⟩
theorem q_232_13 : pQ_232 u_232_13 := ⟨_, _, _, _, (pS_nil), (pV_cons (List.mem_of_getElem? (i := 6) rfl) (pV_nil)), f_232_13⟩
theorem q_232_14 : pQ_232 u_232_14 := ⟨_, _, _, _, (pS_nil), (pV_cons (List.mem_of_getElem? (i := 11) rfl) (pV_nil)), f_232_14⟩
theorem q_232_15 : pQ_232 u_232_15 := ⟨_, _, _, _, (pS_nil), (pV_cons (List.mem_of_getElem? (i := 6) rfl) (pV_nil)), f_232_15⟩
theorem q_232_16 : pQ_232 u_232_16 := ⟨_, _, _, _, (pS_nil), (pV_cons (List.mem_of_getElem? (i := 11) rfl) (pV_nil)), f_232_16⟩
theorem q_232_17 : pQ_232 u_232_17 := ⟨_, _, _, _, (pS_nil), (pV_cons (List.mem_of_getElem? (i := 22) rfl) (pV_nil)), f_232_17⟩
theorem q_232_18 : pQ_232 u_232_18 := ⟨_, _, _, _, (pS_cons ok_201 (pS_nil)), (pV_cons (List.mem_of_getElem? (i := 23) rfl) (pV_cons (List.mem_of_getElem? (i := 24) rfl) (pV_nil))), f_232_18⟩
theorem q_232_19 : pQ_232 u_232_19 := ⟨_, _, _, _, (pS_cons ok_201 (pS_nil)), (pV_cons (List.mem_of_getElem? (i := 23) rfl) (pV_cons (List.mem_of_getElem? (i := 26) rfl) (pV_nil))), f_232_19⟩
theorem q_232_20 : pQ_232 u_232_20 := ⟨_, _, _, _, (pS_nil), (pV_cons (List.mem_of_getElem? (i := 27) rfl) (pV_nil)), f_232_20⟩
theorem q_232_21 : pQ_232 u_232_21 := ⟨_, _, _, _, (pS_cons ok_113 (pS_nil)), (pV_cons (List.mem_of_getElem? (i := 28) rfl) (pV_nil)), f_232_21⟩
theorem q_232_22 : pQ_232 u_232_22 := ⟨_, _, _, _, (pS_nil), (pV_cons (List.mem_of_getElem? (i := 29) rfl) (pV_nil)), f_232_22⟩
theorem q_232_23 : pQ_232 u_232_23 := ⟨_, _, _, _, (pS_cons ok_113 (pS_cons ok_228 (pS_nil))), (pV_cons (List.mem_of_getElem? (i := 17) rfl) (pV_cons (List.mem_of_getElem? (i := 31) rfl) (pV_nil))), f_232_23⟩
theorem q_232_24 : pQ_232 u_232_24 := ⟨_, _, _, _, (pS_cons ok_113 (pS_cons ok_228 (pS_nil))), (pV_cons (List.mem_of_getElem? (i := 17) rfl) (pV_cons (List.mem_of_getElem? (i := 31) rfl) (pV_nil))), f_232_24⟩
theorem q_232_25 : pQ_232 u_232_25 := ⟨_, _, _, _, (pS_cons ok_113 (pS_cons ok_228 (pS_nil))), (pV_cons (List.mem_of_getElem? (i := 17) rfl) (pV_cons (List.mem_of_getElem? (i := 31) rfl) (pV_nil))), f_232_25⟩
theorem q_232_26 : pQ_232 u_232_26 := ⟨_, _, _, _, (pS_cons ok_113 (pS_cons ok_228 (pS_nil))), (pV_cons (List.mem_of_getElem? (i := 17) rfl) (pV_cons (List.mem_of_getElem? (i := 31) rfl) (pV_nil))), f_232_26⟩
theorem q_232_27 : pQ_232 u_232_27 := ⟨_, _, _, _, (pS_nil), (pV_cons (List.mem_of_getElem? (i := 34) rfl) (pV_nil)), f_232_27⟩
theorem q_232_28 : pQ_232 u_232_28 := ⟨_, _, _, _, (pS_cons ok_160 (pS_cons ok_186 (pS_cons ok_187 (pS_cons ok_201 (pS_cons ok_202 (pS_cons ok_228 (pS_nil))))))), (pV_cons (List.mem_of_getElem? (i := 35) rfl) (pV_cons (List.mem_of_getElem? (i := 36) rfl) (pV_cons (List.mem_of_getElem? (i := 37) rfl) (pV_cons (List.mem_of_getElem? (i := 38) rfl) (pV_cons (List.mem_of_getElem? (i := 39) rfl) (pV_nil)))))), f_232_28⟩
theorem q_232_29 : pQ_232 u_232_29 := ⟨_, _, _, _, (pS_nil), (pV_nil), f_232_29⟩
theorem q_232_30 : pQ_232 u_232_30 := ⟨_, _, _, _, (pS_nil), (pV_cons (List.mem_of_getElem? (i := 22) rfl) (pV_nil)), f_232_30⟩
theorem q_232_31 : pQ_232 u_232_31 := ⟨_, _, _, _, (pS_nil), (pV_cons (List.mem_of_getElem? (i := 27) rfl) (pV_nil)), f_232_31⟩
theorem q_232_32 : pQ_232 u_232_32 := ⟨_, _, _, _, (pS_nil), (pV_cons (List.mem_of_getElem? (i := 22) rfl) (pV_nil)), f_232_32⟩
theorem q_232_33 : pQ_232 u_232_33 := ⟨_, _, _, _, (pS_nil), (pV_cons (List.mem_of_getElem? (i := 27) rfl) (pV_nil)), f_232_33⟩
theorem q_232_34 : pQ_232 u_232_34 := ⟨_, _, _, _, (pS_nil), (pV_nil), f_232_34⟩
theorem q_232_35 : pQ_232 u_232_35 := ⟨_, _, _, _, (pS_nil), (pV_cons (List.mem_of_getElem? (i := 40) rfl) (pV_nil)), f_232_35⟩
theorem q_232_36 : pQ_232 u_232_36 := ⟨_, _, _, _, (pS_cons ok_201 (pS_nil)), (pV_cons (List.mem_of_getElem? (i := 41) rfl) (pV_cons (List.mem_of_getElem? (i := 42) rfl) (pV_nil))), f_232_36⟩
theorem q_232_37 : pQ_232 u_232_37 := ⟨_, _, _, _, (pS_cons ok_201 (pS_nil)), (pV_cons (List.mem_of_getElem? (i := 41) rfl) (pV_cons (List.mem_of_getElem? (i := 44) rfl) (pV_nil))), f_232_37⟩
theorem q_232_38 : pQ_232 u_232_38 := ⟨_, _, _, _, (pS_nil), (pV_cons (List.mem_of_getElem? (i := 45) rfl) (pV_nil)), f_232_38⟩
theorem q_232_39 : pQ_232 u_232_39 := ⟨_, _, _, _, (pS_cons ok_113 (pS_nil)), (pV_cons (List.mem_of_getElem? (i := 46) rfl) (pV_nil)), f_232_39⟩
theorem q_232_40 : pQ_232 u_232_40 := ⟨_, _, _, _, (pS_nil), (pV_cons (List.mem_of_getElem? (i := 47) rfl) (pV_nil)), f_232_40⟩
theorem q_232_41 : pQ_232 u_232_41 := ⟨_, _, _, _, (pS_cons ok_113 (pS_cons ok_228 (pS_nil))), (pV_cons (List.mem_of_getElem? (i := 35) rfl) (pV_cons (List.mem_of_getElem? (i := 49) rfl) (pV_nil))), f_232_41⟩
theorem q_232_42 : pQ_232 u_232_42 := ⟨_, _, _, _, (pS_cons ok_113 (pS_cons ok_228 (pS_nil))), (pV_cons (List.mem_of_getElem? (i := 35) rfl) (pV_cons (List.mem_of_getElem? (i := 49) rfl) (pV_nil))), f_232_42⟩
theorem q_232_43 : pQ_232 u_232_43 := ⟨_, _, _, _, (pS_cons ok_113 (pS_cons ok_228 (pS_nil))), (pV_cons (List.mem_of_getElem? (i := 35) rfl) (pV_cons (List.mem_of_getElem? (i := 49) rfl) (pV_nil))), f_232_43⟩
theorem q_232_44 : pQ_232 u_232_44 := ⟨_, _, _, _, (pS_cons ok_113 (pS_cons ok_228 (pS_nil))), (pV_cons (List.mem_of_getElem? (i := 35) rfl) (pV_cons (List.mem_of_getElem? (i := 49) rfl) (pV_nil))), f_232_44⟩
theorem q_232_45 : pQ_232 u_232_45 := ⟨_, _, _, _, (pS_nil), (pV_cons (List.mem_of_getElem? (i := 52) rfl) (pV_nil)), f_232_45⟩
theorem q_232_46 : pQ_232 u_232_46 := ⟨_, _, _, _, (pS_cons ok_160 (pS_cons ok_186 (pS_cons ok_187 (pS_cons ok_201 (pS_cons ok_202 (pS_cons ok_228 (pS_nil))))))), (pV_cons (List.mem_of_getElem? (i := 53) rfl) (pV_cons (List.mem_of_getElem? (i := 54) rfl) (pV_cons (List.mem_of_getElem? (i := 55) rfl) (pV_cons (List.mem_of_getElem? (i := 56) rfl) (pV_cons (List.mem_of_getElem? (i := 57) rfl) (pV_nil)))))), f_232_46⟩
theorem q_232_47 : pQ_232 u_232_47 := ⟨_, _, _, _, (pS_nil), (pV_cons (List.mem_of_getElem? (i := 58) rfl) (pV_nil)), f_232_47⟩
theorem q_232_48 : pQ_232 u_232_48 := ⟨_, _, _, _, (pS_nil), (pV_cons (List.mem_of_getElem? (i := 40) rfl) (pV_nil)), f_232_48⟩
theorem q_232_49 : pQ_232 u_232_49 := ⟨_, _, _, _, (pS_nil), (pV_cons (List.mem_of_getElem? (i := 45) rfl) (pV_nil)), f_232_49⟩
theorem q_232_50 : pQ_232 u_232_50 := ⟨_, _, _, _, (pS_nil), (pV_cons (List.mem_of_getElem? (i := 40) rfl) (pV_nil)), f_232_50⟩
theorem q_232_51 : pQ_232 u_232_51 := ⟨_, _, _, _, (pS_nil), (pV_cons (List.mem_of_getElem? (i := 45) rfl) (pV_nil)), f_232_51⟩
theorem q_232_52 : pQ_232 u_232_52 := ⟨_, _, _, _, (pS_nil), (pV_cons (List.mem_of_getElem? (i := 59) rfl) (pV_nil)), f_232_52⟩
theorem q_232_53 : pQ_232 u_232_53 := ⟨_, _, _, _, (pS_nil), (pV_cons (List.mem_of_getElem? (i := 60) rfl) (pV_nil)), f_232_53⟩
theorem q_232_54 : pQ_232 u_232_54 := ⟨_, _, _, _, (pS_cons ok_201 (pS_nil)), (pV_cons (List.mem_of_getElem? (i := 61) rfl) (pV_cons (List.mem_of_getElem? (i := 62) rfl) (pV_nil))), f_232_54⟩
theorem q_232_55 : pQ_232 u_232_55 := ⟨_, _, _, _, (pS_cons ok_201 (pS_nil)), (pV_cons (List.mem_of_getElem? (i := 61) rfl) (pV_cons (List.mem_of_getElem? (i := 64) rfl) (pV_nil))), f_232_55⟩
theorem q_232_56 : pQ_232 u_232_56 := ⟨_, _, _, _, (pS_nil), (pV_cons (List.mem_of_getElem? (i := 65) rfl) (pV_nil)), f_232_56⟩
theorem q_232_57 : pQ_232 u_232_57 := ⟨_, _, _, _, (pS_cons ok_113 (pS_nil)), (pV_cons (List.mem_of_getElem? (i := 66) rfl) (pV_nil)), f_232_57⟩
theorem q_232_58 : pQ_232 u_232_58 := ⟨_, _, _, _, (pS_nil), (pV_nil), f_232_58⟩
theorem q_232_59 : pQ_232 u_232_59 := ⟨_, _, _, _, (pS_nil), (pV_nil), f_232_59⟩
theorem q_232_60 : pQ_232 u_232_60 := ⟨_, _, _, _, (pS_nil), (pV_cons (List.mem_of_getElem? (i := 67) rfl) (pV_nil)), f_232_60⟩
theorem q_232_61 : pQ_232 u_232_61 := ⟨_, _, _, _, (pS_cons ok_113 (pS_cons ok_228 (pS_nil))), (pV_cons (List.mem_of_getElem? (i := 53) rfl) (pV_cons (List.mem_of_getElem? (i := 69) rfl) (pV_nil))), f_232_61⟩
theorem q_232_62 : pQ_232 u_232_62 := ⟨_, _, _, _, (pS_cons ok_113 (pS_cons ok_228 (pS_nil))), (pV_cons (List.mem_of_getElem? (i := 53) rfl) (pV_cons (List.mem_of_getElem? (i := 69) rfl) (pV_nil))), f_232_62⟩
theorem q_232_63 : pQ_232 u_232_63 := ⟨_, _, _, _, (pS_cons ok_113 (pS_cons ok_228 (pS_nil))), (pV_cons (List.mem_of_getElem? (i := 53) rfl) (pV_cons (List.mem_of_getElem? (i := 69) rfl) (pV_nil))), f_232_63⟩
theorem q_232_64 : pQ_232 u_232_64 := ⟨_, _, _, _, (pS_cons ok_113 (pS_cons ok_228 (pS_nil))), (pV_cons (List.mem_of_getElem? (i := 53) rfl) (pV_cons (List.mem_of_getElem? (i := 69) rfl) (pV_nil))), f_232_64⟩
theorem q_232_65 : pQ_232 u_232_65 := ⟨_, _, _, _, (pS_nil), (pV_cons (List.mem_of_getElem? (i := 72) rfl) (pV_nil)), f_232_65⟩
theorem q_232_66 : pQ_232 u_232_66 := ⟨_, _, _, _, (pS_cons ok_160 (pS_cons ok_186 (pS_cons ok_187 (pS_cons ok_201 (pS_cons ok_202 (pS_cons ok_228 (pS_nil))))))), (pV_cons (List.mem_of_getElem? (i := 73) rfl) (pV_cons (List.mem_of_getElem? (i := 74) rfl) (pV_cons (List.mem_of_getElem? (i := 75) rfl) (pV_cons (List.mem_of_getElem? (i := 76) rfl) (pV_cons (List.mem_of_getElem? (i := 77) rfl) (pV_nil)))))), f_232_66⟩
theorem q_232_67 : pQ_232 u_232_67 := ⟨_, _, _, _, (pS_nil), (pV_cons (List.mem_of_getElem? (i := 78) rfl) (pV_nil)), f_232_67⟩
theorem q_232_68 : pQ_232 u_232_68 := ⟨_, _, _, _, (pS_nil), (pV_cons (List.mem_of_getElem? (i := 60) rfl) (pV_nil)), f_232_68⟩
theorem q_232_69 : pQ_232 u_232_69 := ⟨_, _, _, _, (pS_nil), (pV_cons (List.mem_of_getElem? (i := 65) rfl) (pV_nil)), f_232_69⟩
theorem q_232_70 : pQ_232 u_232_70 := ⟨_, _, _, _, (pS_nil), (pV_cons (List.mem_of_getElem? (i := 60) rfl) (pV_nil)), f_232_70⟩
theorem q_232_71 : pQ_232 u_232_71 := ⟨_, _, _, _, (pS_nil), (pV_cons (List.mem_of_getElem? (i := 65) rfl) (pV_nil)), f_232_71⟩
theorem q_232_72 : pQ_232 u_232_72 := ⟨_, _, _, _, (pS_nil), (pV_cons (List.mem_of_getElem? (i := 79) rfl) (pV_nil)), f_232_72⟩
theorem q_232_73 : pQ_232 u_232_73 := ⟨_, _, _, _, (pS_nil), (pV_cons (List.mem_of_getElem? (i := 80) rfl) (pV_nil)), f_232_73⟩
theorem q_232_74 : pQ_232 u_232_74 := ⟨_, _, _, _, (pS_cons ok_201 (pS_nil)), (pV_cons (List.mem_of_getElem? (i := 81) rfl) (pV_cons (List.mem_of_getElem? (i := 82) rfl) (pV_nil))), f_232_74⟩
theorem q_232_75 : pQ_232 u_232_75 := ⟨_, _, _, _, (pS_cons ok_201 (pS_nil)), (pV_cons (List.mem_of_getElem? (i := 81) rfl) (pV_cons (List.mem_of_getElem? (i := 84) rfl) (pV_nil))), f_232_75⟩
theorem q_232_76 : pQ_232 u_232_76 := ⟨_, _, _, _, (pS_nil), (pV_cons (List.mem_of_getElem? (i := 85) rfl) (pV_nil)), f_232_76⟩
theorem q_232_77 : pQ_232 u_232_77 := ⟨_, _, _, _, (pS_cons ok_113 (pS_nil)), (pV_cons (List.mem_of_getElem? (i := 86) rfl) (pV_nil)), f_232_77⟩
theorem q_232_78 : pQ_232 u_232_78 := ⟨_, _, _, _, (pS_nil), (pV_cons (List.mem_of_getElem? (i := 87) rfl) (pV_nil)), f_232_78⟩
theorem q_232_79 : pQ_232 u_232_79 := ⟨_, _, _, _, (pS_nil), (pV_cons (List.mem_of_getElem? (i := 88) rfl) (pV_nil)), f_232_79⟩
theorem q_232_80 : pQ_232 u_232_80 := ⟨_, _, _, _, (pS_nil), (pV_cons (List.mem_of_getElem? (i := 89) rfl) (pV_nil)), f_232_80⟩
theorem q_232_81 : pQ_232 u_232_81 := ⟨_, _, _, _, (pS_cons ok_113 (pS_cons ok_228 (pS_nil))), (pV_cons (List.mem_of_getElem? (i := 73) rfl) (pV_cons (List.mem_of_getElem? (i := 91) rfl) (pV_nil))), f_232_81⟩
theorem q_232_82 : pQ_232 u_232_82 := ⟨_, _, _, _, (pS_cons ok_113 (pS_cons ok_228 (pS_nil))), (pV_cons (List.mem_of_getElem? (i := 73) rfl) (pV_cons (List.mem_of_getElem? (i := 91) rfl) (pV_nil))), f_232_82⟩
theorem q_232_83 : pQ_232 u_232_83 := ⟨_, _, _, _, (pS_cons ok_113 (pS_cons ok_228 (pS_nil))), (pV_cons (List.mem_of_getElem? (i := 73) rfl) (pV_cons (List.mem_of_getElem? (i := 91) rfl) (pV_nil))), f_232_83⟩
theorem q_232_84 : pQ_232 u_232_84 := ⟨_, _, _, _, (pS_cons ok_113 (pS_cons ok_228 (pS_nil))), (pV_cons (List.mem_of_getElem? (i := 73) rfl) (pV_cons (List.mem_of_getElem? (i := 91) rfl) (pV_nil))), f_232_84⟩
theorem q_232_85 : pQ_232 u_232_85 := ⟨_, _, _, _, (pS_nil), (pV_cons (List.mem_of_getElem? (i := 94) rfl) (pV_nil)), f_232_85⟩
theorem q_232_86 : pQ_232 u_232_86 := ⟨_, _, _, _, (pS_cons ok_160 (pS_cons ok_186 (pS_cons ok_187 (pS_cons ok_201 (pS_cons ok_202 (pS_cons ok_228 (pS_nil))))))), (pV_cons (List.mem_of_getElem? (i := 95) rfl) (pV_cons (List.mem_of_getElem? (i := 96) rfl) (pV_cons (List.mem_of_getElem? (i := 97) rfl) (pV_cons (List.mem_of_getElem? (i := 98) rfl) (pV_cons (List.mem_of_getElem? (i := 99) rfl) (pV_nil)))))), f_232_86⟩
theorem q_232_87 : pQ_232 u_232_87 := ⟨_, _, _, _, (pS_nil), (pV_nil), f_232_87⟩
theorem q_232_88 : pQ_232 u_232_88 := ⟨_, _, _, _, (pS_nil), (pV_nil), f_232_88⟩
theorem q_232_89 : pQ_232 u_232_89 := ⟨_, _, _, _, (pS_nil), (pV_cons (List.mem_of_getElem? (i := 100) rfl) (pV_nil)), f_232_89⟩
theorem q_232_90 : pQ_232 u_232_90 := ⟨_, _, _, _, (pS_nil), (pV_cons (List.mem_of_getElem? (i := 80) rfl) (pV_nil)), f_232_90⟩
theorem q_232_91 : pQ_232 u_232_91 := ⟨_, _, _, _, (pS_nil), (pV_cons (List.mem_of_getElem? (i := 85) rfl) (pV_nil)), f_232_91⟩
theorem q_232_92 : pQ_232 u_232_92 := ⟨_, _, _, _, (pS_nil), (pV_cons (List.mem_of_getElem? (i := 80) rfl) (pV_nil)), f_232_92⟩
theorem q_232_93 : pQ_232 u_232_93 := ⟨_, _, _, _, (pS_nil), (pV_cons (List.mem_of_getElem? (i := 85) rfl) (pV_nil)), f_232_93⟩
theorem q_232_94 : pQ_232 u_232_94 := ⟨_, _, _, _, (pS_nil), (pV_cons (List.mem_of_getElem? (i := 101) rfl) (pV_nil)), f_232_94⟩
theorem q_232_95 : pQ_232 u_232_95 := ⟨_, _, _, _, (pS_nil), (pV_cons (List.mem_of_getElem? (i := 102) rfl) (pV_nil)), f_232_95⟩
theorem q_232_96 : pQ_232 u_232_96 := ⟨_, _, _, _, (pS_cons ok_201 (pS_nil)), (pV_cons (List.mem_of_getElem? (i := 103) rfl) (pV_cons (List.mem_of_getElem? (i := 104) rfl) (pV_nil))), f_232_96⟩
theorem q_232_97 : pQ_232 u_232_97 := ⟨_, _, _, _, (pS_cons ok_201 (pS_nil)), (pV_cons (List.mem_of_getElem? (i := 103) rfl) (pV_cons (List.mem_of_getElem? (i := 106) rfl) (pV_nil))), f_232_97⟩
theorem q_232_98 : pQ_232 u_232_98 := ⟨_, _, _, _, (pS_nil), (pV_cons (List.mem_of_getElem? (i := 107) rfl) (pV_nil)), f_232_98⟩
theorem q_232_99 : pQ_232 u_232_99 := ⟨_, _, _, _, (pS_cons ok_113 (pS_nil)), (pV_cons (List.mem_of_getElem? (i := 108) rfl) (pV_nil)), f_232_99⟩
theorem q_232_100 : pQ_232 u_232_100 := ⟨_, _, _, _, (pS_nil), (pV_cons (List.mem_of_getElem? (i := 109) rfl) (pV_nil)), f_232_100⟩
theorem q_232_101 : pQ_232 u_232_101 := ⟨_, _, _, _, (pS_nil), (pV_cons (List.mem_of_getElem? (i := 110) rfl) (pV_nil)), f_232_101⟩
theorem q_232_102 : pQ_232 u_232_102 := ⟨_, _, _, _, (pS_nil), (pV_cons (List.mem_of_getElem? (i := 111) rfl) (pV_nil)), f_232_102⟩
theorem q_232_103 : pQ_232 u_232_103 := ⟨_, _, _, _, (pS_cons ok_113 (pS_cons ok_228 (pS_nil))), (pV_cons (List.mem_of_getElem? (i := 95) rfl) (pV_cons (List.mem_of_getElem? (i := 113) rfl) (pV_nil))), f_232_103⟩
theorem q_232_104 : pQ_232 u_232_104 := ⟨_, _, _, _, (pS_cons ok_113 (pS_cons ok_228 (pS_nil))), (pV_cons (List.mem_of_getElem? (i := 95) rfl) (pV_cons (List.mem_of_getElem? (i := 113) rfl) (pV_nil))), f_232_104⟩
theorem q_232_105 : pQ_232 u_232_105 := ⟨_, _, _, _, (pS_cons ok_113 (pS_cons ok_228 (pS_nil))), (pV_cons (List.mem_of_getElem? (i := 95) rfl) (pV_cons (List.mem_of_getElem? (i := 113) rfl) (pV_nil))), f_232_105⟩
theorem q_232_106 : pQ_232 u_232_106 := ⟨_, _, _, _, (pS_cons ok_113 (pS_cons ok_228 (pS_nil))), (pV_cons (List.mem_of_getElem? (i := 95) rfl) (pV_cons (List.mem_of_getElem? (i := 113) rfl) (pV_nil))), f_232_106⟩
theorem q_232_107 : pQ_232 u_232_107 := ⟨_, _, _, _, (pS_nil), (pV_cons (List.mem_of_getElem? (i := 116) rfl) (pV_nil)), f_232_107⟩
theorem q_232_108 : pQ_232 u_232_108 := ⟨_, _, _, _, (pS_cons ok_160 (pS_cons ok_186 (pS_cons ok_187 (pS_cons ok_201 (pS_cons ok_202 (pS_cons ok_228 (pS_nil))))))), (pV_cons (List.mem_of_getElem? (i := 117) rfl) (pV_cons (List.mem_of_getElem? (i := 118) rfl) (pV_cons (List.mem_of_getElem? (i := 119) rfl) (pV_cons (List.mem_of_getElem? (i := 120) rfl) (pV_cons (List.mem_of_getElem? (i := 121) rfl) (pV_nil)))))), f_232_108⟩
theorem q_232_109 : pQ_232 u_232_109 := ⟨_, _, _, _, (pS_nil), (pV_cons (List.mem_of_getElem? (i := 122) rfl) (pV_nil)), f_232_109⟩
theorem q_232_110 : pQ_232 u_232_110 := ⟨_, _, _, _, (pS_nil), (pV_cons (List.mem_of_getElem? (i := 123) rfl) (pV_nil)), f_232_110⟩
theorem q_232_111 : pQ_232 u_232_111 := ⟨_, _, _, _, (pS_nil), (pV_cons (List.mem_of_getElem? (i := 124) rfl) (pV_nil)), f_232_111⟩
theorem q_232_112 : pQ_232 u_232_112 := ⟨_, _, _, _, (pS_nil), (pV_cons (List.mem_of_getElem? (i := 102) rfl) (pV_nil)), f_232_112⟩
theorem q_232_113 : pQ_232 u_232_113 := ⟨_, _, _, _, (pS_nil), (pV_cons (List.mem_of_getElem? (i := 107) rfl) (pV_nil)), f_232_113⟩
theorem q_232_114 : pQ_232 u_232_114 := ⟨_, _, _, _, (pS_nil), (pV_cons (List.mem_of_getElem? (i := 102) rfl) (pV_nil)), f_232_114⟩
theorem q_232_115 : pQ_232 u_232_115 := ⟨_, _, _, _, (pS_nil), (pV_cons (List.mem_of_getElem? (i := 107) rfl) (pV_nil)), f_232_115⟩
theorem q_232_116 : pQ_232 u_232_116 := ⟨_, _, _, _, (pS_nil), (pV_cons (List.mem_of_getElem? (i := 125) rfl) (pV_nil)), f_232_116⟩
theorem q_232_117 : pQ_232 u_232_117 := ⟨_, _, _, _, (pS_nil), (pV_cons (List.mem_of_getElem? (i := 126) rfl) (pV_nil)), f_232_117⟩
theorem q_232_118 : pQ_232 u_232_118 := ⟨_, _, _, _, (pS_cons ok_201 (pS_nil)), (pV_cons (List.mem_of_getElem? (i := 127) rfl) (pV_cons (List.mem_of_getElem? (i := 128) rfl) (pV_nil))), f_232_118⟩
theorem q_232_119 : pQ_232 u_232_119 := ⟨_, _, _, _, (pS_cons ok_201 (pS_nil)), (pV_cons (List.mem_of_getElem? (i := 127) rfl) (pV_cons (List.mem_of_getElem? (i := 130) rfl) (pV_nil))), f_232_119⟩
theorem q_232_120 : pQ_232 u_232_120 := ⟨_, _, _, _, (pS_nil), (pV_cons (List.mem_of_getElem? (i := 131) rfl) (pV_nil)), f_232_120⟩
theorem q_232_121 : pQ_232 u_232_121 := ⟨_, _, _, _, (pS_nil), (pV_cons (List.mem_of_getElem? (i := 132) rfl) (pV_nil)), f_232_121⟩
theorem q_232_122 : pQ_232 u_232_122 := ⟨_, _, _, _, (pS_nil), (pV_nil), f_232_122⟩
theorem q_232_123 : pQ_232 u_232_123 := ⟨_, _, _, _, (pS_nil), (pV_nil), f_232_123⟩
theorem q_232_124 : pQ_232 u_232_124 := ⟨_, _, _, _, (pS_nil), (pV_cons (List.mem_of_getElem? (i := 133) rfl) (pV_nil)), f_232_124⟩
theorem q_232_125 : pQ_232 u_232_125 := ⟨_, _, _, _, (pS_nil), (pV_cons (List.mem_of_getElem? (i := 134) rfl) (pV_nil)), f_232_125⟩
theorem q_232_126 : pQ_232 u_232_126 := ⟨_, _, _, _, (pS_nil), (pV_cons (List.mem_of_getElem? (i := 135) rfl) (pV_nil)), f_232_126⟩
theorem q_232_127 : pQ_232 u_232_127 := ⟨_, _, _, _, (pS_cons ok_113 (pS_cons ok_228 (pS_nil))), (pV_cons (List.mem_of_getElem? (i := 117) rfl) (pV_cons (List.mem_of_getElem? (i := 137) rfl) (pV_nil))), f_232_127⟩
theorem q_232_128 : pQ_232 u_232_128 := ⟨_, _, _, _, (pS_cons ok_113 (pS_cons ok_228 (pS_nil))), (pV_cons (List.mem_of_getElem? (i := 117) rfl) (pV_cons (List.mem_of_getElem? (i := 137) rfl) (pV_nil))), f_232_128⟩
theorem q_232_129 : pQ_232 u_232_129 := ⟨_, _, _, _, (pS_cons ok_113 (pS_cons ok_228 (pS_nil))), (pV_cons (List.mem_of_getElem? (i := 117) rfl) (pV_cons (List.mem_of_getElem? (i := 137) rfl) (pV_nil))), f_232_129⟩
theorem q_232_130 : pQ_232 u_232_130 := ⟨_, _, _, _, (pS_cons ok_113 (pS_cons ok_228 (pS_nil))), (pV_cons (List.mem_of_getElem? (i := 117) rfl) (pV_cons (List.mem_of_getElem? (i := 137) rfl) (pV_nil))), f_232_130⟩
theorem q_232_131 : pQ_232 u_232_131 := ⟨_, _, _, _, (pS_nil), (pV_cons (List.mem_of_getElem? (i := 140) rfl) (pV_nil)), f_232_131⟩
theorem q_232_132 : pQ_232 u_232_132 := ⟨_, _, _, _, (pS_cons ok_178 (pS_cons ok_186 (pS_cons ok_187 (pS_cons ok_231 (pS_nil))))), (pV_cons (List.mem_of_getElem? (i := 141) rfl) (pV_nil)), f_232_132⟩
theorem q_232_133 : pQ_232 u_232_133 := ⟨_, _, _, _, (pS_nil), (pV_cons (List.mem_of_getElem? (i := 142) rfl) (pV_nil)), f_232_133⟩
theorem q_232_134 : pQ_232 u_232_134 := ⟨_, _, _, _, (pS_nil), (pV_cons (List.mem_of_getElem? (i := 143) rfl) (pV_nil)), f_232_134⟩
theorem q_232_135 : pQ_232 u_232_135 := ⟨_, _, _, _, (pS_nil), (pV_cons (List.mem_of_getElem? (i := 144) rfl) (pV_nil)), f_232_135⟩
theorem q_232_136 : pQ_232 u_232_136 := ⟨_, _, _, _, (pS_nil), (pV_cons (List.mem_of_getElem? (i := 126) rfl) (pV_nil)), f_232_136⟩
theorem q_232_137 : pQ_232 u_232_137 := ⟨_, _, _, _, (pS_nil), (pV_cons (List.mem_of_getElem? (i := 131) rfl) (pV_nil)), f_232_137⟩
theorem q_232_138 : pQ_232 u_232_138 := ⟨_, _, _, _, (pS_nil), (pV_cons (List.mem_of_getElem? (i := 126) rfl) (pV_nil)), f_232_138⟩
theorem q_232_139 : pQ_232 u_232_139 := ⟨_, _, _, _, (pS_nil), (pV_cons (List.mem_of_getElem? (i := 131) rfl) (pV_nil)), f_232_139⟩
theorem q_232_140 : pQ_232 u_232_140 := ⟨_, _, _, _, (pS_nil), (pV_cons (List.mem_of_getElem? (i := 145) rfl) (pV_nil)), f_232_140⟩
theorem q_232_141 : pQ_232 u_232_141 := ⟨_, _, _, _, (pS_nil), (pV_cons (List.mem_of_getElem? (i := 146) rfl) (pV_nil)), f_232_141⟩
theorem q_232_142 : pQ_232 u_232_142 := ⟨_, _, _, _, (pS_nil), (pV_cons (List.mem_of_getElem? (i := 147) rfl) (pV_nil)), f_232_142⟩
theorem q_232_143 : pQ_232 u_232_143 := ⟨_, _, _, _, (pS_nil), (pV_cons (List.mem_of_getElem? (i := 148) rfl) (pV_nil)), f_232_143⟩
theorem q_232_144 : pQ_232 u_232_144 := ⟨_, _, _, _, (pS_nil), (pV_cons (List.mem_of_getElem? (i := 149) rfl) (pV_nil)), f_232_144⟩
theorem q_232_145 : pQ_232 u_232_145 := ⟨_, _, _, _, (pS_nil), (pV_cons (List.mem_of_getElem? (i := 150) rfl) (pV_nil)), f_232_145⟩
theorem q_232_146 : pQ_232 u_232_146 := ⟨_, _, _, _, (pS_nil), (pV_cons (List.mem_of_getElem? (i := 151) rfl) (pV_nil)), f_232_146⟩
theorem q_232_147 : pQ_232 u_232_147 := ⟨_, _, _, _, (pS_nil), (pV_nil), f_232_147⟩
theorem q_232_148 : pQ_232 u_232_148 := ⟨_, _, _, _, (pS_nil), (pV_nil), f_232_148⟩
theorem q_232_149 : pQ_232 u_232_149 := ⟨_, _, _, _, (pS_nil), (pV_cons (List.mem_of_getElem? (i := 152) rfl) (pV_nil)), f_232_149⟩
theorem q_232_150 : pQ_232 u_232_150 := ⟨_, _, _, _, (pS_nil), (pV_cons (List.mem_of_getElem? (i := 153) rfl) (pV_nil)), f_232_150⟩
theorem q_232_151 : pQ_232 u_232_151 := ⟨_, _, _, _, (pS_nil), (pV_cons (List.mem_of_getElem? (i := 154) rfl) (pV_nil)), f_232_151⟩
theorem q_232_152 : pQ_232 u_232_152 := ⟨_, _, _, _, (pS_nil), (pV_cons (List.mem_of_getElem? (i := 155) rfl) (pV_nil)), f_232_152⟩
theorem q_232_153 : pQ_232 u_232_153 := ⟨_, _, _, _, (pS_nil), (pV_cons (List.mem_of_getElem? (i := 156) rfl) (pV_nil)), f_232_153⟩
theorem q_232_154 : pQ_232 u_232_154 := ⟨_, _, _, _, (pS_nil), (pV_cons (List.mem_of_getElem? (i := 157) rfl) (pV_nil)), f_232_154⟩
theorem q_232_155 : pQ_232 u_232_155 := ⟨_, _, _, _, (pS_nil), (pV_cons (List.mem_of_getElem? (i := 158) rfl) (pV_nil)), f_232_155⟩
theorem q_232_156 : pQ_232 u_232_156 := ⟨_, _, _, _, (pS_nil), (pV_cons (List.mem_of_getElem? (i := 159) rfl) (pV_nil)), f_232_156⟩
theorem q_232_157 : pQ_232 u_232_157 := ⟨_, _, _, _, (pS_nil), (pV_cons (List.mem_of_getElem? (i := 160) rfl) (pV_nil)), f_232_157⟩
theorem q_232_158 : pQ_232 u_232_158 := ⟨_, _, _, _, (pS_nil), (pV_nil), f_232_158⟩
theorem q_232_159 : pQ_232 u_232_159 := ⟨_, _, _, _, (pS_nil), (pV_nil), f_232_159⟩
theorem q_232_160 : pQ_232 u_232_160 := ⟨_, _, _, _, (pS_nil), (pV_cons (List.mem_of_getElem? (i := 161) rfl) (pV_nil)), f_232_160⟩
theorem q_232_161 : pQ_232 u_232_161 := ⟨_, _, _, _, (pS_nil), (pV_cons (List.mem_of_getElem? (i := 162) rfl) (pV_nil)), f_232_161⟩
theorem q_232_162 : pQ_232 u_232_162 := ⟨_, _, _, _, (pS_nil), (pV_cons (List.mem_of_getElem? (i := 163) rfl) (pV_nil)), f_232_162⟩
theorem q_232_163 : pQ_232 u_232_163 := ⟨_, _, _, _, (pS_nil), (pV_nil), f_232_163⟩
theorem qb_232_0 : ∀ u ∈ [u_232_0, u_232_1, u_232_2, u_232_3, u_232_4, u_232_5, u_232_6, u_232_7, u_232_8, u_232_9], pQ_232 u := pU_cons q_232_0 (pU_cons q_232_1 (pU_cons q_232_2 (pU_cons q_232_3 (pU_cons q_232_4 (pU_cons q_232_5 (pU_cons q_232_6 (pU_cons q_232_7 (pU_cons q_232_8 (pU_cons q_232_9 (pU_nil))))))))))
theorem qb_232_1 : ∀ u ∈ [u_232_10, u_232_11, u_232_12, u_232_13, u_232_14, u_232_15, u_232_16, u_232_17, u_232_18, u_232_19], pQ_232 u := pU_cons q_232_10 (pU_cons q_232_11 (pU_cons q_232_12 (pU_cons q_232_13 (pU_cons q_232_14 (pU_cons q_232_15 (pU_cons q_232_16 (pU_cons q_232_17 (pU_cons q_232_18 (pU_cons q_232_19 (pU_nil))))))))))
theorem qb_232_2 : ∀ u ∈ [u_232_20, u_232_21, u_232_22, u_232_23, u_232_24, u_232_25, u_232_26, u_232_27, u_232_28, u_232_29], pQ_232 u := pU_cons q_232_20 (pU_cons q_232_21 (pU_cons q_232_22 (pU_cons q_232_23 (pU_cons q_232_24 (pU_cons q_232_25 (pU_cons q_232_26 (pU_cons q_232_27 (pU_cons q_232_28 (pU_cons q_232_29 (pU_nil))))))))))
theorem qb_232_3 : ∀ u ∈ [u_232_30, u_232_31, u_232_32, u_232_33, u_232_34, u_232_35, u_232_36, u_232_37, u_232_38, u_232_39], pQ_232 u := pU_cons q_232_30 (pU_cons q_232_31 (pU_cons q_232_32 (pU_cons q_232_33 (pU_cons q_232_34 (pU_cons q_232_35 (pU_cons q_232_36 (pU_cons q_232_37 (pU_cons q_232_38 (pU_cons q_232_39 (pU_nil))))))))))
theorem qb_232_4 : ∀ u ∈ [u_232_40, u_232_41, u_232_42, u_232_43, u_232_44, u_232_45, u_232_46, u_232_47, u_232_48, u_232_49], pQ_232 u := pU_cons q_232_40 (pU_cons q_232_41 (pU_cons q_232_42 (pU_cons q_232_43 (pU_cons q_232_44 (pU_cons q_232_45 (pU_cons q_232_46 (pU_cons q_232_47 (pU_cons q_232_48 (pU_cons q_232_49 (pU_nil))))))))))
theorem qb_232_5 : ∀ u ∈ [u_232_50, u_232_51, u_232_52, u_232_53, u_232_54, u_232_55, u_232_56, u_232_57, u_232_58, u_232_59], pQ_232 u := pU_cons q_232_50 (pU_cons q_232_51 (pU_cons q_232_52 (pU_cons q_232_53 (pU_cons q_232_54 (pU_cons q_232_55 (pU_cons q_232_56 (pU_cons q_232_57 (pU_cons q_232_58 (pU_cons q_232_59 (pU_nil))))))))))
theorem qb_232_6 : ∀ u ∈ [u_232_60, u_232_61, u_232_62, u_232_63, u_232_64, u_232_65, u_232_66, u_232_67, u_232_68, u_232_69], pQ_232 u := pU_cons q_232_60 (pU_cons q_232_61 (pU_cons q_232_62 (pU_cons q_232_63 (pU_cons q_232_64 (pU_cons q_232_65 (pU_cons q_232_66 (pU_cons q_232_67 (pU_cons q_232_68 (pU_cons q_232_69 (pU_nil))))))))))
theorem qb_232_7 : ∀ u ∈ [u_232_70, u_232_71, u_232_72, u_232_73, u_232_74, u_232_75, u_232_76, u_232_77, u_232_78, u_232_79], pQ_232 u := pU_cons q_232_70 (pU_cons q_232_71 (pU_cons q_232_72 (pU_cons q_232_73 (pU_cons q_232_74 (pU_cons q_232_75 (pU_cons q_232_76 (pU_cons q_232_77 (pU_cons q_232_78 (pU_cons q_232_79 (pU_nil))))))))))
theorem qb_232_8 : ∀ u ∈ [u_232_80, u_232_81, u_232_82, u_232_83, u_232_84, u_232_85, u_232_86, u_232_87, u_232_88, u_232_89], pQ_232 u := pU_cons q_232_80 (pU_cons q_232_81 (pU_cons q_232_82 (pU_cons q_232_83 (pU_cons q_232_84 (pU_cons q_232_85 (pU_cons q_232_86 (pU_cons q_232_87 (pU_cons q_232_88 (pU_cons q_232_89 (pU_nil))))))))))
theorem qb_232_9 : ∀ u ∈ [u_232_90, u_232_91, u_232_92, u_232_93, u_232_94, u_232_95, u_232_96, u_232_97, u_232_98, u_232_99], pQ_232 u := pU_cons q_232_90 (pU_cons q_232_91 (pU_cons q_232_92 (pU_cons q_232_93 (pU_cons q_232_94 (pU_cons q_232_95 (pU_cons q_232_96 (pU_cons q_232_97 (pU_cons q_232_98 (pU_cons q_232_99 (pU_nil))))))))))
theorem qb_232_10 : ∀ u ∈ [u_232_100, u_232_101, u_232_102, u_232_103, u_232_104, u_232_105, u_232_106, u_232_107, u_232_108, u_232_109], pQ_232 u := pU_cons q_232_100 (pU_cons q_232_101 (pU_cons q_232_102 (pU_cons q_232_103 (pU_cons q_232_104 (pU_cons q_232_105 (pU_cons q_232_106 (pU_cons q_232_107 (pU_cons q_232_108 (pU_cons q_232_109 (pU_nil))))))))))
theorem qb_232_11 : ∀ u ∈ [u_232_110, u_232_111, u_232_112, u_232_113, u_232_114, u_232_115, u_232_116, u_232_117, u_232_118, u_232_119], pQ_232 u := pU_cons q_232_110 (pU_cons q_232_111 (pU_cons q_232_112 (pU_cons q_232_113 (pU_cons q_232_114 (pU_cons q_232_115 (pU_cons q_232_116 (pU_cons q_232_117 (pU_cons q_232_118 (pU_cons q_232_119 (pU_nil))))))))))
theorem qb_232_12 : ∀ u ∈ [u_232_120, u_232_121, u_232_122, u_232_123, u_232_124, u_232_125, u_232_126, u_232_127, u_232_128, u_232_129], pQ_232 u := pU_cons q_232_120 (pU_cons q_232_121 (pU_cons q_232_122 (pU_cons q_232_123 (pU_cons q_232_124 (pU_cons q_232_125 (pU_cons q_232_126 (pU_cons q_232_127 (pU_cons q_232_128 (pU_cons q_232_129 (pU_nil))))))))))
theorem qb_232_13 : ∀ u ∈ [u_232_130, u_232_131, u_232_132, u_232_133, u_232_134, u_232_135, u_232_136, u_232_137, u_232_138, u_232_139], pQ_232 u := pU_cons q_232_130 (pU_cons q_232_131 (pU_cons q_232_132 (pU_cons q_232_133 (pU_cons q_232_134 (pU_cons q_232_135 (pU_cons q_232_136 (pU_cons q_232_137 (pU_cons q_232_138 (pU_cons q_232_139 (pU_nil))))))))))
theorem qb_232_14 : ∀ u ∈ [u_232_140, u_232_141, u_232_142, u_232_143, u_232_144, u_232_145, u_232_146, u_232_147, u_232_148, u_232_149], pQ_232 u := pU_cons q_232_140 (pU_cons q_232_141 (pU_cons q_232_142 (pU_cons q_232_143 (pU_cons q_232_144 (pU_cons q_232_145 (pU_cons q_232_146 (pU_cons q_232_147 (pU_cons q_232_148 (pU_cons q_232_149 (pU_nil))))))))))
theorem qb_232_15 : ∀ u ∈ [u_232_150, u_232_151, u_232_152, u_232_153, u_232_154, u_232_155, u_232_156, u_232_157, u_232_158, u_232_159], pQ_232 u := pU_cons q_232_150 (pU_cons q_232_151 (pU_cons q_232_152 (pU_cons q_232_153 (pU_cons q_232_154 (pU_cons q_232_155 (pU_cons q_232_156 (pU_cons q_232_157 (pU_cons q_232_158 (pU_cons q_232_159 (pU_nil))))))))))
theorem qb_232_16 : ∀ u ∈ [u_232_160, u_232_161, u_232_162, u_232_163], pQ_232 u := pU_cons q_232_160 (pU_cons q_232_161 (pU_cons q_232_162 (pU_cons q_232_163 (pU_nil))))
theorem ok_232 : sInOk pPT i_232 := sInst3 (M := pm_94) (cus := us_232) pOk pg_94 (by decide +kernel) ⟨_, _, _, _, (pS_nil), (pV_cons (List.mem_of_getElem? (i := 0) rfl) (pV_nil)), e_232⟩ (show ∀ u ∈ us_232, pQ_232 u from (pU_app qb_232_0 (pU_app qb_232_1 (pU_app qb_232_2 (pU_app qb_232_3 (pU_app qb_232_4 (pU_app qb_232_5 (pU_app qb_232_6 (pU_app qb_232_7 (pU_app qb_232_8 (pU_app qb_232_9 (pU_app qb_232_10 (pU_app qb_232_11 (pU_app qb_232_12 (pU_app qb_232_13 (pU_app qb_232_14 (pU_app qb_232_15 qb_232_16)))))))))))))))))
def pQ_233 (u : sCu) : Prop := ∃ (SM : List sIn) (H : gHt) (cu : List sCu) (n : Nat), (∀ I ∈ SM, sInOk pPT I) ∧ (∀ v ∈ cu, v ∈ us_233) ∧ sWhU pPT SM H i_233 (mR pm_91) cu n u = true
theorem q_233_0 : pQ_233 u_233_0 := ⟨_, _, _, _, (pS_cons ok_189 (pS_nil)), (pV_nil), f_233_0⟩
theorem q_233_1 : pQ_233 u_233_1 := ⟨_, _, _, _, (pS_cons ok_113 (pS_cons ok_207 (pS_cons ok_232 (pS_nil)))), (pV_cons (List.mem_of_getElem? (i := 0) rfl) (pV_cons (List.mem_of_getElem? (i := 1) rfl) (pV_nil))), f_233_1⟩
theorem qb_233_0 : ∀ u ∈ [u_233_0, u_233_1], pQ_233 u := pU_cons q_233_0 (pU_cons q_233_1 (pU_nil))
theorem ok_233 : sInOk pPT i_233 := sInst3 (M := pm_91) (cus := us_233) pOk pg_91 (by decide +kernel) ⟨_, _, _, _, (pS_cons ok_232 (pS_nil)), (pV_cons (List.mem_of_getElem? (i := 0) rfl) (pV_cons (List.mem_of_getElem? (i := 1) rfl) (pV_nil))), e_233⟩ (show ∀ u ∈ us_233, pQ_233 u from qb_233_0)
def pQ_234 (u : sCu) : Prop := ∃ (SM : List sIn) (H : gHt) (cu : List sCu) (n : Nat), (∀ I ∈ SM, sInOk pPT I) ∧ (∀ v ∈ cu, v ∈ us_234) ∧ sWhU pPT SM H i_234 (mR pm_94) cu n u = true
theorem q_234_0 : pQ_234 u_234_0 := ⟨_, _, _, _, (pS_cons ok_178 (pS_cons ok_186 (pS_cons ok_187 (pS_cons ok_231 (pS_nil))))), (pV_cons (List.mem_of_getElem? (i := 1) rfl) (pV_nil)), f_234_0⟩
theorem q_234_1 : pQ_234 u_234_1 := ⟨_, _, _, _, (pS_nil), (pV_cons (List.mem_of_getElem? (i := 2) rfl) (pV_nil)), f_234_1⟩
theorem q_234_2 : pQ_234 u_234_2 := ⟨_, _, _, _, (pS_nil), (pV_nil), f_234_2⟩
theorem qb_234_0 : ∀ u ∈ [u_234_0, u_234_1, u_234_2], pQ_234 u := pU_cons q_234_0 (pU_cons q_234_1 (pU_cons q_234_2 (pU_nil)))
theorem ok_234 : sInOk pPT i_234 := sInst3 (M := pm_94) (cus := us_234) pOk pg_94 (by decide +kernel) ⟨_, _, _, _, (pS_nil), (pV_cons (List.mem_of_getElem? (i := 0) rfl) (pV_nil)), e_234⟩ (show ∀ u ∈ us_234, pQ_234 u from qb_234_0)
def pQ_235 (u : sCu) : Prop := ∃ (SM : List sIn) (H : gHt) (cu : List sCu) (n : Nat), (∀ I ∈ SM, sInOk pPT I) ∧ (∀ v ∈ cu, v ∈ us_235) ∧ sWhU pPT SM H i_235 (mR pm_91) cu n u = true
theorem q_235_0 : pQ_235 u_235_0 := ⟨_, _, _, _, (pS_cons ok_189 (pS_nil)), (pV_nil), f_235_0⟩
theorem qb_235_0 : ∀ u ∈ [u_235_0], pQ_235 u := pU_cons q_235_0 (pU_nil)
theorem ok_235 : sInOk pPT i_235 := sInst3 (M := pm_91) (cus := us_235) pOk pg_91 (by decide +kernel) ⟨_, _, _, _, (pS_cons ok_234 (pS_nil)), (pV_cons (List.mem_of_getElem? (i := 0) rfl) (pV_nil)), e_235⟩ (show ∀ u ∈ us_235, pQ_235 u from qb_235_0)
def pQ_236 (u : sCu) : Prop := ∃ (SM : List sIn) (H : gHt) (cu : List sCu) (n : Nat), (∀ I ∈ SM, sInOk pPT I) ∧ (∀ v ∈ cu, v ∈ us_236) ∧ sWhU pPT SM H i_236 (mR pm_92) cu n u = true
theorem q_236_0 : pQ_236 u_236_0 := ⟨_, _, _, _, (pS_cons ok_233 (pS_nil)), (pV_cons (List.mem_of_getElem? (i := 2) rfl) (pV_cons (List.mem_of_getElem? (i := 3) rfl) (pV_nil))), f_236_0⟩
theorem q_236_1 : pQ_236 u_236_1 := ⟨_, _, _, _, (pS_cons ok_235 (pS_nil)), (pV_cons (List.mem_of_getElem? (i := 2) rfl) (pV_nil)), f_236_1⟩
theorem q_236_2 : pQ_236 u_236_2 := ⟨_, _, _, _, (pS_cons ok_191 (pS_nil)), (pV_nil), f_236_2⟩
theorem q_236_3 : pQ_236 u_236_3 := ⟨_, _, _, _, (pS_cons ok_113 (pS_cons ok_211 (pS_cons ok_233 (pS_nil)))), (pV_cons (List.mem_of_getElem? (i := 2) rfl) (pV_cons (List.mem_of_getElem? (i := 3) rfl) (pV_nil))), f_236_3⟩
theorem qb_236_0 : ∀ u ∈ [u_236_0, u_236_1, u_236_2, u_236_3], pQ_236 u := pU_cons q_236_0 (pU_cons q_236_1 (pU_cons q_236_2 (pU_cons q_236_3 (pU_nil))))
theorem ok_236 : sInOk pPT i_236 := sInst3 (M := pm_92) (cus := us_236) pOk pg_92 (by decide +kernel) ⟨_, _, _, _, (pS_cons ok_159 (pS_nil)), (pV_cons (List.mem_of_getElem? (i := 0) rfl) (pV_cons (List.mem_of_getElem? (i := 1) rfl) (pV_nil))), e_236⟩ (show ∀ u ∈ us_236, pQ_236 u from qb_236_0)
theorem ok_237 : sInOk pPT i_237 := sInst3 (M := pm_96) (cus := []) pOk pg_96 (by decide +kernel) ⟨_, _, _, _, (pS_cons ok_113 (pS_cons ok_161 (pS_cons ok_163 (pS_cons ok_172 (pS_cons ok_174 (pS_cons ok_193 (pS_cons ok_214 (pS_cons ok_236 (pS_nil))))))))), pV_nil, e_237⟩ pU_nil
def pQ_238 (u : sCu) : Prop := ∃ (SM : List sIn) (H : gHt) (cu : List sCu) (n : Nat), (∀ I ∈ SM, sInOk pPT I) ∧ (∀ v ∈ cu, v ∈ us_238) ∧ sWhU pPT SM H i_238 (mR pm_97) cu n u = true
theorem q_238_0 : pQ_238 u_238_0 := ⟨_, _, _, _, (pS_cons ok_180 (pS_cons ok_181 (pS_nil))), (pV_nil), f_238_0⟩
theorem q_238_1 : pQ_238 u_238_1 := ⟨_, _, _, _, (pS_cons ok_195 (pS_cons ok_196 (pS_nil))), (pV_cons (List.mem_of_getElem? (i := 2) rfl) (pV_cons (List.mem_of_getElem? (i := 3) rfl) (pV_nil))), f_238_1⟩
theorem q_238_2 : pQ_238 u_238_2 := ⟨_, _, _, _, (pS_cons ok_195 (pS_nil)), (pV_cons (List.mem_of_getElem? (i := 4) rfl) (pV_cons (List.mem_of_getElem? (i := 5) rfl) (pV_nil))), f_238_2⟩
theorem q_238_3 : pQ_238 u_238_3 := ⟨_, _, _, _, (pS_cons ok_195 (pS_nil)), (pV_cons (List.mem_of_getElem? (i := 6) rfl) (pV_cons (List.mem_of_getElem? (i := 7) rfl) (pV_nil))), f_238_3⟩
theorem q_238_4 : pQ_238 u_238_4 := ⟨_, _, _, _, (pS_cons ok_113 (pS_cons ok_237 (pS_nil))), (pV_cons (List.mem_of_getElem? (i := 0) rfl) (pV_cons (List.mem_of_getElem? (i := 1) rfl) (pV_nil))), f_238_4⟩
theorem q_238_5 : pQ_238 u_238_5 := ⟨_, _, _, _, (pS_cons ok_113 (pS_cons ok_237 (pS_nil))), (pV_cons (List.mem_of_getElem? (i := 0) rfl) (pV_cons (List.mem_of_getElem? (i := 1) rfl) (pV_nil))), f_238_5⟩
theorem q_238_6 : pQ_238 u_238_6 := ⟨_, _, _, _, (pS_cons ok_113 (pS_cons ok_237 (pS_nil))), (pV_cons (List.mem_of_getElem? (i := 0) rfl) (pV_cons (List.mem_of_getElem? (i := 1) rfl) (pV_nil))), f_238_6⟩
theorem q_238_7 : pQ_238 u_238_7 := ⟨_, _, _, _, (pS_cons ok_113 (pS_cons ok_237 (pS_nil))), (pV_cons (List.mem_of_getElem? (i := 0) rfl) (pV_cons (List.mem_of_getElem? (i := 1) rfl) (pV_nil))), f_238_7⟩
theorem qb_238_0 : ∀ u ∈ [u_238_0, u_238_1, u_238_2, u_238_3, u_238_4, u_238_5, u_238_6, u_238_7], pQ_238 u := pU_cons q_238_0 (pU_cons q_238_1 (pU_cons q_238_2 (pU_cons q_238_3 (pU_cons q_238_4 (pU_cons q_238_5 (pU_cons q_238_6 (pU_cons q_238_7 (pU_nil))))))))
theorem ok_238 : sInOk pPT i_238 := sInst3 (M := pm_97) (cus := us_238) pOk pg_97 (by decide +kernel) ⟨_, _, _, _, (pS_cons ok_237 (pS_nil)), (pV_cons (List.mem_of_getElem? (i := 0) rfl) (pV_cons (List.mem_of_getElem? (i := 1) rfl) (pV_nil))), e_238⟩ (show ∀ u ∈ us_238, pQ_238 u from qb_238_0)
def pQ_239 (u : sCu) : Prop := ∃ (SM : List sIn) (H : gHt) (cu : List sCu) (n : Nat), (∀ I ∈ SM, sInOk pPT I) ∧ (∀ v ∈ cu, v ∈ us_239) ∧ sWhU pPT SM H i_239 (mR pm_98) cu n u = true
theorem q_239_0 : pQ_239 u_239_0 := ⟨_, _, _, _, (pS_cons ok_183 (pS_cons ok_184 (pS_nil))), (pV_nil), f_239_0⟩
theorem q_239_1 : pQ_239 u_239_1 := ⟨_, _, _, _, (pS_cons ok_198 (pS_cons ok_199 (pS_nil))), (pV_cons (List.mem_of_getElem? (i := 2) rfl) (pV_cons (List.mem_of_getElem? (i := 3) rfl) (pV_nil))), f_239_1⟩
theorem q_239_2 : pQ_239 u_239_2 := ⟨_, _, _, _, (pS_cons ok_198 (pS_nil)), (pV_cons (List.mem_of_getElem? (i := 4) rfl) (pV_cons (List.mem_of_getElem? (i := 5) rfl) (pV_nil))), f_239_2⟩
theorem q_239_3 : pQ_239 u_239_3 := ⟨_, _, _, _, (pS_cons ok_198 (pS_nil)), (pV_cons (List.mem_of_getElem? (i := 6) rfl) (pV_cons (List.mem_of_getElem? (i := 7) rfl) (pV_nil))), f_239_3⟩
theorem q_239_4 : pQ_239 u_239_4 := ⟨_, _, _, _, (pS_cons ok_113 (pS_cons ok_238 (pS_nil))), (pV_cons (List.mem_of_getElem? (i := 0) rfl) (pV_cons (List.mem_of_getElem? (i := 1) rfl) (pV_nil))), f_239_4⟩
theorem q_239_5 : pQ_239 u_239_5 := ⟨_, _, _, _, (pS_cons ok_113 (pS_cons ok_238 (pS_nil))), (pV_cons (List.mem_of_getElem? (i := 0) rfl) (pV_cons (List.mem_of_getElem? (i := 1) rfl) (pV_nil))), f_239_5⟩
theorem q_239_6 : pQ_239 u_239_6 := ⟨_, _, _, _, (pS_cons ok_113 (pS_cons ok_238 (pS_nil))), (pV_cons (List.mem_of_getElem? (i := 0) rfl) (pV_cons (List.mem_of_getElem? (i := 1) rfl) (pV_nil))), f_239_6⟩
theorem q_239_7 : pQ_239 u_239_7 := ⟨_, _, _, _, (pS_cons ok_113 (pS_cons ok_238 (pS_nil))), (pV_cons (List.mem_of_getElem? (i := 0) rfl) (pV_cons (List.mem_of_getElem? (i := 1) rfl) (pV_nil))), f_239_7⟩
theorem qb_239_0 : ∀ u ∈ [u_239_0, u_239_1, u_239_2, u_239_3, u_239_4, u_239_5, u_239_6, u_239_7], pQ_239 u := pU_cons q_239_0 (pU_cons q_239_1 (pU_cons q_239_2 (pU_cons q_239_3 (pU_cons q_239_4 (pU_cons q_239_5 (pU_cons q_239_6 (pU_cons q_239_7 (pU_nil))))))))
theorem ok_239 : sInOk pPT i_239 := sInst3 (M := pm_98) (cus := us_239) pOk pg_98 (by decide +kernel) ⟨_, _, _, _, (pS_cons ok_238 (pS_nil)), (pV_cons (List.mem_of_getElem? (i := 0) rfl) (pV_cons (List.mem_of_getElem? (i := 1) rfl) (pV_nil))), e_239⟩ (show ∀ u ∈ us_239, pQ_239 u from qb_239_0)
theorem ok_240 : sInOk pPT i_240 := sInst3 (M := pm_96) (cus := []) pOk pg_96 (by decide +kernel) ⟨_, _, _, _, (pS_nil), pV_nil, e_240⟩ pU_nil
def pQ_241 (u : sCu) : Prop := ∃ (SM : List sIn) (H : gHt) (cu : List sCu) (n : Nat), (∀ I ∈ SM, sInOk pPT I) ∧ (∀ v ∈ cu, v ∈ us_241) ∧ sWhU pPT SM H i_241 (mR pm_97) cu n u = true
theorem q_241_0 : pQ_241 u_241_0 := ⟨_, _, _, _, (pS_cons ok_180 (pS_cons ok_181 (pS_nil))), (pV_nil), f_241_0⟩
theorem qb_241_0 : ∀ u ∈ [u_241_0], pQ_241 u := pU_cons q_241_0 (pU_nil)
theorem ok_241 : sInOk pPT i_241 := sInst3 (M := pm_97) (cus := us_241) pOk pg_97 (by decide +kernel) ⟨_, _, _, _, (pS_cons ok_240 (pS_nil)), (pV_cons (List.mem_of_getElem? (i := 0) rfl) (pV_nil)), e_241⟩ (show ∀ u ∈ us_241, pQ_241 u from qb_241_0)
def pQ_242 (u : sCu) : Prop := ∃ (SM : List sIn) (H : gHt) (cu : List sCu) (n : Nat), (∀ I ∈ SM, sInOk pPT I) ∧ (∀ v ∈ cu, v ∈ us_242) ∧ sWhU pPT SM H i_242 (mR pm_98) cu n u = true
theorem q_242_0 : pQ_242 u_242_0 := ⟨_, _, _, _, (pS_cons ok_183 (pS_cons ok_184 (pS_nil))), (pV_nil), f_242_0⟩
theorem qb_242_0 : ∀ u ∈ [u_242_0], pQ_242 u := pU_cons q_242_0 (pU_nil)
theorem ok_242 : sInOk pPT i_242 := sInst3 (M := pm_98) (cus := us_242) pOk pg_98 (by decide +kernel) ⟨_, _, _, _, (pS_cons ok_241 (pS_nil)), (pV_cons (List.mem_of_getElem? (i := 0) rfl) (pV_nil)), e_242⟩ (show ∀ u ∈ us_242, pQ_242 u from qb_242_0)
def pQ_243 (u : sCu) : Prop := ∃ (SM : List sIn) (H : gHt) (cu : List sCu) (n : Nat), (∀ I ∈ SM, sInOk pPT I) ∧ (∀ v ∈ cu, v ∈ us_243) ∧ sWhU pPT SM H i_243 (mR pm_94) cu n u = true
theorem q_243_0 : pQ_243 u_243_0 := ⟨_, _, _, _, (pS_cons ok_160 (pS_cons ok_186 (pS_cons ok_187 (pS_cons ok_201 (pS_cons ok_202 (pS_cons ok_239 (pS_nil))))))), (pV_cons (List.mem_of_getElem? (i := 1) rfl) (pV_cons (List.mem_of_getElem? (i := 2) rfl) (pV_cons (List.mem_of_getElem? (i := 3) rfl) (pV_cons (List.mem_of_getElem? (i := 4) rfl) (pV_cons (List.mem_of_getElem? (i := 5) rfl) (pV_nil)))))), f_243_0⟩
theorem q_243_1 : pQ_243 u_243_1 := ⟨_, _, _, _, (pS_nil), (pV_cons (List.mem_of_getElem? (i := 6) rfl) (pV_nil)), f_243_1⟩
theorem q_243_2 : pQ_243 u_243_2 := ⟨_, _, _, _, (pS_cons ok_201 (pS_nil)), (pV_cons (List.mem_of_getElem? (i := 7) rfl) (pV_cons (List.mem_of_getElem? (i := 8) rfl) (pV_nil))), f_243_2⟩
theorem q_243_3 : pQ_243 u_243_3 := ⟨_, _, _, _, (pS_cons ok_201 (pS_nil)), (pV_cons (List.mem_of_getElem? (i := 7) rfl) (pV_cons (List.mem_of_getElem? (i := 10) rfl) (pV_nil))), f_243_3⟩
theorem q_243_4 : pQ_243 u_243_4 := ⟨_, _, _, _, (pS_nil), (pV_cons (List.mem_of_getElem? (i := 11) rfl) (pV_nil)), f_243_4⟩
theorem q_243_5 : pQ_243 u_243_5 := ⟨_, _, _, _, (pS_cons ok_113 (pS_nil)), (pV_cons (List.mem_of_getElem? (i := 12) rfl) (pV_nil)), f_243_5⟩
theorem q_243_6 : pQ_243 u_243_6 := ⟨_, _, _, _, (pS_nil), (pV_nil), f_243_6⟩
theorem q_243_7 : pQ_243 u_243_7 := ⟨_, _, _, _, (pS_cons ok_113 (pS_cons ok_239 (pS_nil))), (pV_cons (List.mem_of_getElem? (i := 1) rfl) (pV_cons (List.mem_of_getElem? (i := 14) rfl) (pV_nil))), f_243_7⟩
theorem q_243_8 : pQ_243 u_243_8 := ⟨_, _, _, _, (pS_cons ok_113 (pS_cons ok_239 (pS_nil))), (pV_cons (List.mem_of_getElem? (i := 1) rfl) (pV_cons (List.mem_of_getElem? (i := 14) rfl) (pV_nil))), f_243_8⟩
theorem q_243_9 : pQ_243 u_243_9 := ⟨_, _, _, _, (pS_cons ok_113 (pS_cons ok_239 (pS_nil))), (pV_cons (List.mem_of_getElem? (i := 1) rfl) (pV_cons (List.mem_of_getElem? (i := 14) rfl) (pV_nil))), f_243_9⟩
theorem q_243_10 : pQ_243 u_243_10 := ⟨_, _, _, _, (pS_cons ok_113 (pS_cons ok_239 (pS_nil))), (pV_cons (List.mem_of_getElem? (i := 1) rfl) (pV_cons (List.mem_of_getElem? (i := 14) rfl) (pV_nil))), f_243_10⟩
theorem q_243_11 : pQ_243 u_243_11 := ⟨_, _, _, _, (pS_nil), (pV_nil), f_243_11⟩
theorem q_243_12 : pQ_243 u_243_12 := ⟨_, _, _, _, (pS_cons ok_160 (pS_cons ok_186 (pS_cons ok_187 (pS_cons ok_201 (pS_cons ok_202 (pS_cons ok_239 (pS_nil))))))), (pV_cons (List.mem_of_getElem? (i := 17) rfl) (pV_cons (List.mem_of_getElem? (i := 18) rfl) (pV_cons (List.mem_of_getElem? (i := 19) rfl) (pV_cons (List.mem_of_getElem? (i := 20) rfl) (pV_cons (List.mem_of_getElem? (i := 21) rfl) (pV_nil)))))), f_243_12⟩
theorem q_243_13 : pQ_243 u_243_13 := ⟨_, _, _, _, (pS_nil), (pV_cons (List.mem_of_getElem? (i := 6) rfl) (pV_nil)), f_243_13⟩
theorem q_243_14 : pQ_243 u_243_14 := ⟨_, _, _, _, (pS_nil), (pV_cons (List.mem_of_getElem? (i := 11) rfl) (pV_nil)), f_243_14⟩
theorem q_243_15 : pQ_243 u_243_15 := ⟨_, _, _, _, (pS_nil), (pV_cons (List.mem_of_getElem? (i := 6) rfl) (pV_nil)), f_243_15⟩
theorem q_243_16 : pQ_243 u_243_16 := ⟨_, _, _, _, (pS_nil), (pV_cons (List.mem_of_getElem? (i := 11) rfl) (pV_nil)), f_243_16⟩
theorem q_243_17 : pQ_243 u_243_17 := ⟨_, _, _, _, (pS_nil), (pV_cons (List.mem_of_getElem? (i := 22) rfl) (pV_nil)), f_243_17⟩
theorem q_243_18 : pQ_243 u_243_18 := ⟨_, _, _, _, (pS_cons ok_201 (pS_nil)), (pV_cons (List.mem_of_getElem? (i := 23) rfl) (pV_cons (List.mem_of_getElem? (i := 24) rfl) (pV_nil))), f_243_18⟩
theorem q_243_19 : pQ_243 u_243_19 := ⟨_, _, _, _, (pS_cons ok_201 (pS_nil)), (pV_cons (List.mem_of_getElem? (i := 23) rfl) (pV_cons (List.mem_of_getElem? (i := 26) rfl) (pV_nil))), f_243_19⟩
theorem q_243_20 : pQ_243 u_243_20 := ⟨_, _, _, _, (pS_nil), (pV_cons (List.mem_of_getElem? (i := 27) rfl) (pV_nil)), f_243_20⟩
theorem q_243_21 : pQ_243 u_243_21 := ⟨_, _, _, _, (pS_cons ok_113 (pS_nil)), (pV_cons (List.mem_of_getElem? (i := 28) rfl) (pV_nil)), f_243_21⟩
theorem q_243_22 : pQ_243 u_243_22 := ⟨_, _, _, _, (pS_nil), (pV_cons (List.mem_of_getElem? (i := 29) rfl) (pV_nil)), f_243_22⟩
theorem q_243_23 : pQ_243 u_243_23 := ⟨_, _, _, _, (pS_cons ok_113 (pS_cons ok_239 (pS_nil))), (pV_cons (List.mem_of_getElem? (i := 17) rfl) (pV_cons (List.mem_of_getElem? (i := 31) rfl) (pV_nil))), f_243_23⟩
theorem q_243_24 : pQ_243 u_243_24 := ⟨_, _, _, _, (pS_cons ok_113 (pS_cons ok_239 (pS_nil))), (pV_cons (List.mem_of_getElem? (i := 17) rfl) (pV_cons (List.mem_of_getElem? (i := 31) rfl) (pV_nil))), f_243_24⟩
theorem q_243_25 : pQ_243 u_243_25 := ⟨_, _, _, _, (pS_cons ok_113 (pS_cons ok_239 (pS_nil))), (pV_cons (List.mem_of_getElem? (i := 17) rfl) (pV_cons (List.mem_of_getElem? (i := 31) rfl) (pV_nil))), f_243_25⟩
theorem q_243_26 : pQ_243 u_243_26 := ⟨_, _, _, _, (pS_cons ok_113 (pS_cons ok_239 (pS_nil))), (pV_cons (List.mem_of_getElem? (i := 17) rfl) (pV_cons (List.mem_of_getElem? (i := 31) rfl) (pV_nil))), f_243_26⟩
theorem q_243_27 : pQ_243 u_243_27 := ⟨_, _, _, _, (pS_nil), (pV_cons (List.mem_of_getElem? (i := 34) rfl) (pV_nil)), f_243_27⟩
theorem q_243_28 : pQ_243 u_243_28 := ⟨_, _, _, _, (pS_cons ok_160 (pS_cons ok_186 (pS_cons ok_187 (pS_cons ok_201 (pS_cons ok_202 (pS_cons ok_239 (pS_nil))))))), (pV_cons (List.mem_of_getElem? (i := 35) rfl) (pV_cons (List.mem_of_getElem? (i := 36) rfl) (pV_cons (List.mem_of_getElem? (i := 37) rfl) (pV_cons (List.mem_of_getElem? (i := 38) rfl) (pV_cons (List.mem_of_getElem? (i := 39) rfl) (pV_nil)))))), f_243_28⟩
theorem q_243_29 : pQ_243 u_243_29 := ⟨_, _, _, _, (pS_nil), (pV_nil), f_243_29⟩
theorem q_243_30 : pQ_243 u_243_30 := ⟨_, _, _, _, (pS_nil), (pV_cons (List.mem_of_getElem? (i := 22) rfl) (pV_nil)), f_243_30⟩
theorem q_243_31 : pQ_243 u_243_31 := ⟨_, _, _, _, (pS_nil), (pV_cons (List.mem_of_getElem? (i := 27) rfl) (pV_nil)), f_243_31⟩
theorem q_243_32 : pQ_243 u_243_32 := ⟨_, _, _, _, (pS_nil), (pV_cons (List.mem_of_getElem? (i := 22) rfl) (pV_nil)), f_243_32⟩
theorem q_243_33 : pQ_243 u_243_33 := ⟨_, _, _, _, (pS_nil), (pV_cons (List.mem_of_getElem? (i := 27) rfl) (pV_nil)), f_243_33⟩
theorem q_243_34 : pQ_243 u_243_34 := ⟨_, _, _, _, (pS_nil), (pV_nil), f_243_34⟩
theorem q_243_35 : pQ_243 u_243_35 := ⟨_, _, _, _, (pS_nil), (pV_cons (List.mem_of_getElem? (i := 40) rfl) (pV_nil)), f_243_35⟩
theorem q_243_36 : pQ_243 u_243_36 := ⟨_, _, _, _, (pS_cons ok_201 (pS_nil)), (pV_cons (List.mem_of_getElem? (i := 41) rfl) (pV_cons (List.mem_of_getElem? (i := 42) rfl) (pV_nil))), f_243_36⟩
theorem q_243_37 : pQ_243 u_243_37 := ⟨_, _, _, _, (pS_cons ok_201 (pS_nil)), (pV_cons (List.mem_of_getElem? (i := 41) rfl) (pV_cons (List.mem_of_getElem? (i := 44) rfl) (pV_nil))), f_243_37⟩
theorem q_243_38 : pQ_243 u_243_38 := ⟨_, _, _, _, (pS_nil), (pV_cons (List.mem_of_getElem? (i := 45) rfl) (pV_nil)), f_243_38⟩
theorem q_243_39 : pQ_243 u_243_39 := ⟨_, _, _, _, (pS_cons ok_113 (pS_nil)), (pV_cons (List.mem_of_getElem? (i := 46) rfl) (pV_nil)), f_243_39⟩
theorem q_243_40 : pQ_243 u_243_40 := ⟨_, _, _, _, (pS_nil), (pV_cons (List.mem_of_getElem? (i := 47) rfl) (pV_nil)), f_243_40⟩
theorem q_243_41 : pQ_243 u_243_41 := ⟨_, _, _, _, (pS_cons ok_113 (pS_cons ok_239 (pS_nil))), (pV_cons (List.mem_of_getElem? (i := 35) rfl) (pV_cons (List.mem_of_getElem? (i := 49) rfl) (pV_nil))), f_243_41⟩
theorem q_243_42 : pQ_243 u_243_42 := ⟨_, _, _, _, (pS_cons ok_113 (pS_cons ok_239 (pS_nil))), (pV_cons (List.mem_of_getElem? (i := 35) rfl) (pV_cons (List.mem_of_getElem? (i := 49) rfl) (pV_nil))), f_243_42⟩
theorem q_243_43 : pQ_243 u_243_43 := ⟨_, _, _, _, (pS_cons ok_113 (pS_cons ok_239 (pS_nil))), (pV_cons (List.mem_of_getElem? (i := 35) rfl) (pV_cons (List.mem_of_getElem? (i := 49) rfl) (pV_nil))), f_243_43⟩
theorem q_243_44 : pQ_243 u_243_44 := ⟨_, _, _, _, (pS_cons ok_113 (pS_cons ok_239 (pS_nil))), (pV_cons (List.mem_of_getElem? (i := 35) rfl) (pV_cons (List.mem_of_getElem? (i := 49) rfl) (pV_nil))), f_243_44⟩
theorem q_243_45 : pQ_243 u_243_45 := ⟨_, _, _, _, (pS_nil), (pV_cons (List.mem_of_getElem? (i := 52) rfl) (pV_nil)), f_243_45⟩
theorem q_243_46 : pQ_243 u_243_46 := ⟨_, _, _, _, (pS_cons ok_160 (pS_cons ok_186 (pS_cons ok_187 (pS_cons ok_201 (pS_cons ok_202 (pS_cons ok_239 (pS_nil))))))), (pV_cons (List.mem_of_getElem? (i := 53) rfl) (pV_cons (List.mem_of_getElem? (i := 54) rfl) (pV_cons (List.mem_of_getElem? (i := 55) rfl) (pV_cons (List.mem_of_getElem? (i := 56) rfl) (pV_cons (List.mem_of_getElem? (i := 57) rfl) (pV_nil)))))), f_243_46⟩
theorem q_243_47 : pQ_243 u_243_47 := ⟨_, _, _, _, (pS_nil), (pV_cons (List.mem_of_getElem? (i := 58) rfl) (pV_nil)), f_243_47⟩
theorem q_243_48 : pQ_243 u_243_48 := ⟨_, _, _, _, (pS_nil), (pV_cons (List.mem_of_getElem? (i := 40) rfl) (pV_nil)), f_243_48⟩
theorem q_243_49 : pQ_243 u_243_49 := ⟨_, _, _, _, (pS_nil), (pV_cons (List.mem_of_getElem? (i := 45) rfl) (pV_nil)), f_243_49⟩
theorem q_243_50 : pQ_243 u_243_50 := ⟨_, _, _, _, (pS_nil), (pV_cons (List.mem_of_getElem? (i := 40) rfl) (pV_nil)), f_243_50⟩
theorem q_243_51 : pQ_243 u_243_51 := ⟨_, _, _, _, (pS_nil), (pV_cons (List.mem_of_getElem? (i := 45) rfl) (pV_nil)), f_243_51⟩
theorem q_243_52 : pQ_243 u_243_52 := ⟨_, _, _, _, (pS_nil), (pV_cons (List.mem_of_getElem? (i := 59) rfl) (pV_nil)), f_243_52⟩
theorem q_243_53 : pQ_243 u_243_53 := ⟨_, _, _, _, (pS_nil), (pV_cons (List.mem_of_getElem? (i := 60) rfl) (pV_nil)), f_243_53⟩
theorem q_243_54 : pQ_243 u_243_54 := ⟨_, _, _, _, (pS_cons ok_201 (pS_nil)), (pV_cons (List.mem_of_getElem? (i := 61) rfl) (pV_cons (List.mem_of_getElem? (i := 62) rfl) (pV_nil))), f_243_54⟩
theorem q_243_55 : pQ_243 u_243_55 := ⟨_, _, _, _, (pS_cons ok_201 (pS_nil)), (pV_cons (List.mem_of_getElem? (i := 61) rfl) (pV_cons (List.mem_of_getElem? (i := 64) rfl) (pV_nil))), f_243_55⟩
theorem q_243_56 : pQ_243 u_243_56 := ⟨_, _, _, _, (pS_nil), (pV_cons (List.mem_of_getElem? (i := 65) rfl) (pV_nil)), f_243_56⟩
theorem q_243_57 : pQ_243 u_243_57 := ⟨_, _, _, _, (pS_cons ok_113 (pS_nil)), (pV_cons (List.mem_of_getElem? (i := 66) rfl) (pV_nil)), f_243_57⟩
theorem q_243_58 : pQ_243 u_243_58 := ⟨_, _, _, _, (pS_nil), (pV_nil), f_243_58⟩
theorem q_243_59 : pQ_243 u_243_59 := ⟨_, _, _, _, (pS_nil), (pV_nil), f_243_59⟩
theorem q_243_60 : pQ_243 u_243_60 := ⟨_, _, _, _, (pS_nil), (pV_cons (List.mem_of_getElem? (i := 67) rfl) (pV_nil)), f_243_60⟩
theorem q_243_61 : pQ_243 u_243_61 := ⟨_, _, _, _, (pS_cons ok_113 (pS_cons ok_239 (pS_nil))), (pV_cons (List.mem_of_getElem? (i := 53) rfl) (pV_cons (List.mem_of_getElem? (i := 69) rfl) (pV_nil))), f_243_61⟩
theorem q_243_62 : pQ_243 u_243_62 := ⟨_, _, _, _, (pS_cons ok_113 (pS_cons ok_239 (pS_nil))), (pV_cons (List.mem_of_getElem? (i := 53) rfl) (pV_cons (List.mem_of_getElem? (i := 69) rfl) (pV_nil))), f_243_62⟩
theorem q_243_63 : pQ_243 u_243_63 := ⟨_, _, _, _, (pS_cons ok_113 (pS_cons ok_239 (pS_nil))), (pV_cons (List.mem_of_getElem? (i := 53) rfl) (pV_cons (List.mem_of_getElem? (i := 69) rfl) (pV_nil))), f_243_63⟩
theorem q_243_64 : pQ_243 u_243_64 := ⟨_, _, _, _, (pS_cons ok_113 (pS_cons ok_239 (pS_nil))), (pV_cons (List.mem_of_getElem? (i := 53) rfl) (pV_cons (List.mem_of_getElem? (i := 69) rfl) (pV_nil))), f_243_64⟩
theorem q_243_65 : pQ_243 u_243_65 := ⟨_, _, _, _, (pS_nil), (pV_cons (List.mem_of_getElem? (i := 72) rfl) (pV_nil)), f_243_65⟩
theorem q_243_66 : pQ_243 u_243_66 := ⟨_, _, _, _, (pS_cons ok_160 (pS_cons ok_186 (pS_cons ok_187 (pS_cons ok_201 (pS_cons ok_202 (pS_cons ok_239 (pS_nil))))))), (pV_cons (List.mem_of_getElem? (i := 73) rfl) (pV_cons (List.mem_of_getElem? (i := 74) rfl) (pV_cons (List.mem_of_getElem? (i := 75) rfl) (pV_cons (List.mem_of_getElem? (i := 76) rfl) (pV_cons (List.mem_of_getElem? (i := 77) rfl) (pV_nil)))))), f_243_66⟩
theorem q_243_67 : pQ_243 u_243_67 := ⟨_, _, _, _, (pS_nil), (pV_cons (List.mem_of_getElem? (i := 78) rfl) (pV_nil)), f_243_67⟩
theorem q_243_68 : pQ_243 u_243_68 := ⟨_, _, _, _, (pS_nil), (pV_cons (List.mem_of_getElem? (i := 60) rfl) (pV_nil)), f_243_68⟩
theorem q_243_69 : pQ_243 u_243_69 := ⟨_, _, _, _, (pS_nil), (pV_cons (List.mem_of_getElem? (i := 65) rfl) (pV_nil)), f_243_69⟩
theorem q_243_70 : pQ_243 u_243_70 := ⟨_, _, _, _, (pS_nil), (pV_cons (List.mem_of_getElem? (i := 60) rfl) (pV_nil)), f_243_70⟩
theorem q_243_71 : pQ_243 u_243_71 := ⟨_, _, _, _, (pS_nil), (pV_cons (List.mem_of_getElem? (i := 65) rfl) (pV_nil)), f_243_71⟩
theorem q_243_72 : pQ_243 u_243_72 := ⟨_, _, _, _, (pS_nil), (pV_cons (List.mem_of_getElem? (i := 79) rfl) (pV_nil)), f_243_72⟩
theorem q_243_73 : pQ_243 u_243_73 := ⟨_, _, _, _, (pS_nil), (pV_cons (List.mem_of_getElem? (i := 80) rfl) (pV_nil)), f_243_73⟩
theorem q_243_74 : pQ_243 u_243_74 := ⟨_, _, _, _, (pS_cons ok_201 (pS_nil)), (pV_cons (List.mem_of_getElem? (i := 81) rfl) (pV_cons (List.mem_of_getElem? (i := 82) rfl) (pV_nil))), f_243_74⟩
theorem q_243_75 : pQ_243 u_243_75 := ⟨_, _, _, _, (pS_cons ok_201 (pS_nil)), (pV_cons (List.mem_of_getElem? (i := 81) rfl) (pV_cons (List.mem_of_getElem? (i := 84) rfl) (pV_nil))), f_243_75⟩
theorem q_243_76 : pQ_243 u_243_76 := ⟨_, _, _, _, (pS_nil), (pV_cons (List.mem_of_getElem? (i := 85) rfl) (pV_nil)), f_243_76⟩
theorem q_243_77 : pQ_243 u_243_77 := ⟨_, _, _, _, (pS_cons ok_113 (pS_nil)), (pV_cons (List.mem_of_getElem? (i := 86) rfl) (pV_nil)), f_243_77⟩
theorem q_243_78 : pQ_243 u_243_78 := ⟨_, _, _, _, (pS_nil), (pV_cons (List.mem_of_getElem? (i := 87) rfl) (pV_nil)), f_243_78⟩
theorem q_243_79 : pQ_243 u_243_79 := ⟨_, _, _, _, (pS_nil), (pV_cons (List.mem_of_getElem? (i := 88) rfl) (pV_nil)), f_243_79⟩
theorem q_243_80 : pQ_243 u_243_80 := ⟨_, _, _, _, (pS_nil), (pV_cons (List.mem_of_getElem? (i := 89) rfl) (pV_nil)), f_243_80⟩
theorem q_243_81 : pQ_243 u_243_81 := ⟨_, _, _, _, (pS_cons ok_113 (pS_cons ok_239 (pS_nil))), (pV_cons (List.mem_of_getElem? (i := 73) rfl) (pV_cons (List.mem_of_getElem? (i := 91) rfl) (pV_nil))), f_243_81⟩
theorem q_243_82 : pQ_243 u_243_82 := ⟨_, _, _, _, (pS_cons ok_113 (pS_cons ok_239 (pS_nil))), (pV_cons (List.mem_of_getElem? (i := 73) rfl) (pV_cons (List.mem_of_getElem? (i := 91) rfl) (pV_nil))), f_243_82⟩
theorem q_243_83 : pQ_243 u_243_83 := ⟨_, _, _, _, (pS_cons ok_113 (pS_cons ok_239 (pS_nil))), (pV_cons (List.mem_of_getElem? (i := 73) rfl) (pV_cons (List.mem_of_getElem? (i := 91) rfl) (pV_nil))), f_243_83⟩
theorem q_243_84 : pQ_243 u_243_84 := ⟨_, _, _, _, (pS_cons ok_113 (pS_cons ok_239 (pS_nil))), (pV_cons (List.mem_of_getElem? (i := 73) rfl) (pV_cons (List.mem_of_getElem? (i := 91) rfl) (pV_nil))), f_243_84⟩
theorem q_243_85 : pQ_243 u_243_85 := ⟨_, _, _, _, (pS_nil), (pV_cons (List.mem_of_getElem? (i := 94) rfl) (pV_nil)), f_243_85⟩
theorem q_243_86 : pQ_243 u_243_86 := ⟨_, _, _, _, (pS_cons ok_160 (pS_cons ok_186 (pS_cons ok_187 (pS_cons ok_201 (pS_cons ok_202 (pS_cons ok_239 (pS_nil))))))), (pV_cons (List.mem_of_getElem? (i := 95) rfl) (pV_cons (List.mem_of_getElem? (i := 96) rfl) (pV_cons (List.mem_of_getElem? (i := 97) rfl) (pV_cons (List.mem_of_getElem? (i := 98) rfl) (pV_cons (List.mem_of_getElem? (i := 99) rfl) (pV_nil)))))), f_243_86⟩
theorem q_243_87 : pQ_243 u_243_87 := ⟨_, _, _, _, (pS_nil), (pV_nil), f_243_87⟩
theorem q_243_88 : pQ_243 u_243_88 := ⟨_, _, _, _, (pS_nil), (pV_nil), f_243_88⟩
theorem q_243_89 : pQ_243 u_243_89 := ⟨_, _, _, _, (pS_nil), (pV_cons (List.mem_of_getElem? (i := 100) rfl) (pV_nil)), f_243_89⟩
theorem q_243_90 : pQ_243 u_243_90 := ⟨_, _, _, _, (pS_nil), (pV_cons (List.mem_of_getElem? (i := 80) rfl) (pV_nil)), f_243_90⟩
theorem q_243_91 : pQ_243 u_243_91 := ⟨_, _, _, _, (pS_nil), (pV_cons (List.mem_of_getElem? (i := 85) rfl) (pV_nil)), f_243_91⟩
theorem q_243_92 : pQ_243 u_243_92 := ⟨_, _, _, _, (pS_nil), (pV_cons (List.mem_of_getElem? (i := 80) rfl) (pV_nil)), f_243_92⟩
theorem q_243_93 : pQ_243 u_243_93 := ⟨_, _, _, _, (pS_nil), (pV_cons (List.mem_of_getElem? (i := 85) rfl) (pV_nil)), f_243_93⟩
theorem q_243_94 : pQ_243 u_243_94 := ⟨_, _, _, _, (pS_nil), (pV_cons (List.mem_of_getElem? (i := 101) rfl) (pV_nil)), f_243_94⟩
theorem q_243_95 : pQ_243 u_243_95 := ⟨_, _, _, _, (pS_nil), (pV_cons (List.mem_of_getElem? (i := 102) rfl) (pV_nil)), f_243_95⟩
theorem q_243_96 : pQ_243 u_243_96 := ⟨_, _, _, _, (pS_cons ok_201 (pS_nil)), (pV_cons (List.mem_of_getElem? (i := 103) rfl) (pV_cons (List.mem_of_getElem? (i := 104) rfl) (pV_nil))), f_243_96⟩
theorem q_243_97 : pQ_243 u_243_97 := ⟨_, _, _, _, (pS_cons ok_201 (pS_nil)), (pV_cons (List.mem_of_getElem? (i := 103) rfl) (pV_cons (List.mem_of_getElem? (i := 106) rfl) (pV_nil))), f_243_97⟩
theorem q_243_98 : pQ_243 u_243_98 := ⟨_, _, _, _, (pS_nil), (pV_cons (List.mem_of_getElem? (i := 107) rfl) (pV_nil)), f_243_98⟩
theorem q_243_99 : pQ_243 u_243_99 := ⟨_, _, _, _, (pS_cons ok_113 (pS_nil)), (pV_cons (List.mem_of_getElem? (i := 108) rfl) (pV_nil)), f_243_99⟩
theorem q_243_100 : pQ_243 u_243_100 := ⟨_, _, _, _, (pS_nil), (pV_cons (List.mem_of_getElem? (i := 109) rfl) (pV_nil)), f_243_100⟩
theorem q_243_101 : pQ_243 u_243_101 := ⟨_, _, _, _, (pS_nil), (pV_cons (List.mem_of_getElem? (i := 110) rfl) (pV_nil)), f_243_101⟩
theorem q_243_102 : pQ_243 u_243_102 := ⟨_, _, _, _, (pS_nil), (pV_cons (List.mem_of_getElem? (i := 111) rfl) (pV_nil)), f_243_102⟩
theorem q_243_103 : pQ_243 u_243_103 := ⟨_, _, _, _, (pS_cons ok_113 (pS_cons ok_239 (pS_nil))), (pV_cons (List.mem_of_getElem? (i := 95) rfl) (pV_cons (List.mem_of_getElem? (i := 113) rfl) (pV_nil))), f_243_103⟩
theorem q_243_104 : pQ_243 u_243_104 := ⟨_, _, _, _, (pS_cons ok_113 (pS_cons ok_239 (pS_nil))), (pV_cons (List.mem_of_getElem? (i := 95) rfl) (pV_cons (List.mem_of_getElem? (i := 113) rfl) (pV_nil))), f_243_104⟩
theorem q_243_105 : pQ_243 u_243_105 := ⟨_, _, _, _, (pS_cons ok_113 (pS_cons ok_239 (pS_nil))), (pV_cons (List.mem_of_getElem? (i := 95) rfl) (pV_cons (List.mem_of_getElem? (i := 113) rfl) (pV_nil))), f_243_105⟩
theorem q_243_106 : pQ_243 u_243_106 := ⟨_, _, _, _, (pS_cons ok_113 (pS_cons ok_239 (pS_nil))), (pV_cons (List.mem_of_getElem? (i := 95) rfl) (pV_cons (List.mem_of_getElem? (i := 113) rfl) (pV_nil))), f_243_106⟩
theorem q_243_107 : pQ_243 u_243_107 := ⟨_, _, _, _, (pS_nil), (pV_cons (List.mem_of_getElem? (i := 116) rfl) (pV_nil)), f_243_107⟩
theorem q_243_108 : pQ_243 u_243_108 := ⟨_, _, _, _, (pS_cons ok_160 (pS_cons ok_186 (pS_cons ok_187 (pS_cons ok_201 (pS_cons ok_202 (pS_cons ok_239 (pS_nil))))))), (pV_cons (List.mem_of_getElem? (i := 117) rfl) (pV_cons (List.mem_of_getElem? (i := 118) rfl) (pV_cons (List.mem_of_getElem? (i := 119) rfl) (pV_cons (List.mem_of_getElem? (i := 120) rfl) (pV_cons (List.mem_of_getElem? (i := 121) rfl) (pV_nil)))))), f_243_108⟩
theorem q_243_109 : pQ_243 u_243_109 := ⟨_, _, _, _, (pS_nil), (pV_cons (List.mem_of_getElem? (i := 122) rfl) (pV_nil)), f_243_109⟩
theorem q_243_110 : pQ_243 u_243_110 := ⟨_, _, _, _, (pS_nil), (pV_cons (List.mem_of_getElem? (i := 123) rfl) (pV_nil)), f_243_110⟩
theorem q_243_111 : pQ_243 u_243_111 := ⟨_, _, _, _, (pS_nil), (pV_cons (List.mem_of_getElem? (i := 124) rfl) (pV_nil)), f_243_111⟩
theorem q_243_112 : pQ_243 u_243_112 := ⟨_, _, _, _, (pS_nil), (pV_cons (List.mem_of_getElem? (i := 102) rfl) (pV_nil)), f_243_112⟩
theorem q_243_113 : pQ_243 u_243_113 := ⟨_, _, _, _, (pS_nil), (pV_cons (List.mem_of_getElem? (i := 107) rfl) (pV_nil)), f_243_113⟩
theorem q_243_114 : pQ_243 u_243_114 := ⟨_, _, _, _, (pS_nil), (pV_cons (List.mem_of_getElem? (i := 102) rfl) (pV_nil)), f_243_114⟩
theorem q_243_115 : pQ_243 u_243_115 := ⟨_, _, _, _, (pS_nil), (pV_cons (List.mem_of_getElem? (i := 107) rfl) (pV_nil)), f_243_115⟩
theorem q_243_116 : pQ_243 u_243_116 := ⟨_, _, _, _, (pS_nil), (pV_cons (List.mem_of_getElem? (i := 125) rfl) (pV_nil)), f_243_116⟩
theorem q_243_117 : pQ_243 u_243_117 := ⟨_, _, _, _, (pS_nil), (pV_cons (List.mem_of_getElem? (i := 126) rfl) (pV_nil)), f_243_117⟩
theorem q_243_118 : pQ_243 u_243_118 := ⟨_, _, _, _, (pS_cons ok_201 (pS_nil)), (pV_cons (List.mem_of_getElem? (i := 127) rfl) (pV_cons (List.mem_of_getElem? (i := 128) rfl) (pV_nil))), f_243_118⟩
theorem q_243_119 : pQ_243 u_243_119 := ⟨_, _, _, _, (pS_cons ok_201 (pS_nil)), (pV_cons (List.mem_of_getElem? (i := 127) rfl) (pV_cons (List.mem_of_getElem? (i := 130) rfl) (pV_nil))), f_243_119⟩
theorem q_243_120 : pQ_243 u_243_120 := ⟨_, _, _, _, (pS_nil), (pV_cons (List.mem_of_getElem? (i := 131) rfl) (pV_nil)), f_243_120⟩
theorem q_243_121 : pQ_243 u_243_121 := ⟨_, _, _, _, (pS_nil), (pV_cons (List.mem_of_getElem? (i := 132) rfl) (pV_nil)), f_243_121⟩
theorem q_243_122 : pQ_243 u_243_122 := ⟨_, _, _, _, (pS_nil), (pV_nil), f_243_122⟩
theorem q_243_123 : pQ_243 u_243_123 := ⟨_, _, _, _, (pS_nil), (pV_nil), f_243_123⟩
theorem q_243_124 : pQ_243 u_243_124 := ⟨_, _, _, _, (pS_nil), (pV_cons (List.mem_of_getElem? (i := 133) rfl) (pV_nil)), f_243_124⟩
theorem q_243_125 : pQ_243 u_243_125 := ⟨_, _, _, _, (pS_nil), (pV_cons (List.mem_of_getElem? (i := 134) rfl) (pV_nil)), f_243_125⟩
theorem q_243_126 : pQ_243 u_243_126 := ⟨_, _, _, _, (pS_nil), (pV_cons (List.mem_of_getElem? (i := 135) rfl) (pV_nil)), f_243_126⟩
theorem q_243_127 : pQ_243 u_243_127 := ⟨_, _, _, _, (pS_cons ok_113 (pS_cons ok_239 (pS_nil))), (pV_cons (List.mem_of_getElem? (i := 117) rfl) (pV_cons (List.mem_of_getElem? (i := 137) rfl) (pV_nil))), f_243_127⟩
theorem q_243_128 : pQ_243 u_243_128 := ⟨_, _, _, _, (pS_cons ok_113 (pS_cons ok_239 (pS_nil))), (pV_cons (List.mem_of_getElem? (i := 117) rfl) (pV_cons (List.mem_of_getElem? (i := 137) rfl) (pV_nil))), f_243_128⟩
theorem q_243_129 : pQ_243 u_243_129 := ⟨_, _, _, _, (pS_cons ok_113 (pS_cons ok_239 (pS_nil))), (pV_cons (List.mem_of_getElem? (i := 117) rfl) (pV_cons (List.mem_of_getElem? (i := 137) rfl) (pV_nil))), f_243_129⟩
theorem q_243_130 : pQ_243 u_243_130 := ⟨_, _, _, _, (pS_cons ok_113 (pS_cons ok_239 (pS_nil))), (pV_cons (List.mem_of_getElem? (i := 117) rfl) (pV_cons (List.mem_of_getElem? (i := 137) rfl) (pV_nil))), f_243_130⟩
theorem q_243_131 : pQ_243 u_243_131 := ⟨_, _, _, _, (pS_nil), (pV_cons (List.mem_of_getElem? (i := 140) rfl) (pV_nil)), f_243_131⟩
theorem q_243_132 : pQ_243 u_243_132 := ⟨_, _, _, _, (pS_cons ok_178 (pS_cons ok_186 (pS_cons ok_187 (pS_cons ok_242 (pS_nil))))), (pV_cons (List.mem_of_getElem? (i := 141) rfl) (pV_nil)), f_243_132⟩
theorem q_243_133 : pQ_243 u_243_133 := ⟨_, _, _, _, (pS_nil), (pV_cons (List.mem_of_getElem? (i := 142) rfl) (pV_nil)), f_243_133⟩
theorem q_243_134 : pQ_243 u_243_134 := ⟨_, _, _, _, (pS_nil), (pV_cons (List.mem_of_getElem? (i := 143) rfl) (pV_nil)), f_243_134⟩
theorem q_243_135 : pQ_243 u_243_135 := ⟨_, _, _, _, (pS_nil), (pV_cons (List.mem_of_getElem? (i := 144) rfl) (pV_nil)), f_243_135⟩
theorem q_243_136 : pQ_243 u_243_136 := ⟨_, _, _, _, (pS_nil), (pV_cons (List.mem_of_getElem? (i := 126) rfl) (pV_nil)), f_243_136⟩
theorem q_243_137 : pQ_243 u_243_137 := ⟨_, _, _, _, (pS_nil), (pV_cons (List.mem_of_getElem? (i := 131) rfl) (pV_nil)), f_243_137⟩
theorem q_243_138 : pQ_243 u_243_138 := ⟨_, _, _, _, (pS_nil), (pV_cons (List.mem_of_getElem? (i := 126) rfl) (pV_nil)), f_243_138⟩
theorem q_243_139 : pQ_243 u_243_139 := ⟨_, _, _, _, (pS_nil), (pV_cons (List.mem_of_getElem? (i := 131) rfl) (pV_nil)), f_243_139⟩
theorem q_243_140 : pQ_243 u_243_140 := ⟨_, _, _, _, (pS_nil), (pV_cons (List.mem_of_getElem? (i := 145) rfl) (pV_nil)), f_243_140⟩
theorem q_243_141 : pQ_243 u_243_141 := ⟨_, _, _, _, (pS_nil), (pV_cons (List.mem_of_getElem? (i := 146) rfl) (pV_nil)), f_243_141⟩
theorem q_243_142 : pQ_243 u_243_142 := ⟨_, _, _, _, (pS_nil), (pV_cons (List.mem_of_getElem? (i := 147) rfl) (pV_nil)), f_243_142⟩
theorem q_243_143 : pQ_243 u_243_143 := ⟨_, _, _, _, (pS_nil), (pV_cons (List.mem_of_getElem? (i := 148) rfl) (pV_nil)), f_243_143⟩
theorem q_243_144 : pQ_243 u_243_144 := ⟨_, _, _, _, (pS_nil), (pV_cons (List.mem_of_getElem? (i := 149) rfl) (pV_nil)), f_243_144⟩
theorem q_243_145 : pQ_243 u_243_145 := ⟨_, _, _, _, (pS_nil), (pV_cons (List.mem_of_getElem? (i := 150) rfl) (pV_nil)), f_243_145⟩
theorem q_243_146 : pQ_243 u_243_146 := ⟨_, _, _, _, (pS_nil), (pV_cons (List.mem_of_getElem? (i := 151) rfl) (pV_nil)), f_243_146⟩
theorem q_243_147 : pQ_243 u_243_147 := ⟨_, _, _, _, (pS_nil), (pV_nil), f_243_147⟩
theorem q_243_148 : pQ_243 u_243_148 := ⟨_, _, _, _, (pS_nil), (pV_nil), f_243_148⟩
theorem q_243_149 : pQ_243 u_243_149 := ⟨_, _, _, _, (pS_nil), (pV_cons (List.mem_of_getElem? (i := 152) rfl) (pV_nil)), f_243_149⟩
theorem q_243_150 : pQ_243 u_243_150 := ⟨_, _, _, _, (pS_nil), (pV_cons (List.mem_of_getElem? (i := 153) rfl) (pV_nil)), f_243_150⟩
theorem q_243_151 : pQ_243 u_243_151 := ⟨_, _, _, _, (pS_nil), (pV_cons (List.mem_of_getElem? (i := 154) rfl) (pV_nil)), f_243_151⟩
theorem q_243_152 : pQ_243 u_243_152 := ⟨_, _, _, _, (pS_nil), (pV_cons (List.mem_of_getElem? (i := 155) rfl) (pV_nil)), f_243_152⟩
theorem q_243_153 : pQ_243 u_243_153 := ⟨_, _, _, _, (pS_nil), (pV_cons (List.mem_of_getElem? (i := 156) rfl) (pV_nil)), f_243_153⟩
theorem q_243_154 : pQ_243 u_243_154 := ⟨_, _, _, _, (pS_nil), (pV_cons (List.mem_of_getElem? (i := 157) rfl) (pV_nil)), f_243_154⟩
theorem q_243_155 : pQ_243 u_243_155 := ⟨_, _, _, _, (pS_nil), (pV_cons (List.mem_of_getElem? (i := 158) rfl) (pV_nil)), f_243_155⟩
theorem q_243_156 : pQ_243 u_243_156 := ⟨_, _, _, _, (pS_nil), (pV_cons (List.mem_of_getElem? (i := 159) rfl) (pV_nil)), f_243_156⟩
theorem q_243_157 : pQ_243 u_243_157 := ⟨_, _, _, _, (pS_nil), (pV_cons (List.mem_of_getElem? (i := 160) rfl) (pV_nil)), f_243_157⟩
theorem q_243_158 : pQ_243 u_243_158 := ⟨_, _, _, _, (pS_nil), (pV_nil), f_243_158⟩
theorem q_243_159 : pQ_243 u_243_159 := ⟨_, _, _, _, (pS_nil), (pV_nil), f_243_159⟩
theorem q_243_160 : pQ_243 u_243_160 := ⟨_, _, _, _, (pS_nil), (pV_cons (List.mem_of_getElem? (i := 161) rfl) (pV_nil)), f_243_160⟩
theorem q_243_161 : pQ_243 u_243_161 := ⟨_, _, _, _, (pS_nil), (pV_cons (List.mem_of_getElem? (i := 162) rfl) (pV_nil)), f_243_161⟩
theorem q_243_162 : pQ_243 u_243_162 := ⟨_, _, _, _, (pS_nil), (pV_cons (List.mem_of_getElem? (i := 163) rfl) (pV_nil)), f_243_162⟩
theorem q_243_163 : pQ_243 u_243_163 := ⟨_, _, _, _, (pS_nil), (pV_nil), f_243_163⟩
theorem qb_243_0 : ∀ u ∈ [u_243_0, u_243_1, u_243_2, u_243_3, u_243_4, u_243_5, u_243_6, u_243_7, u_243_8, u_243_9], pQ_243 u := pU_cons q_243_0 (pU_cons q_243_1 (pU_cons q_243_2 (pU_cons q_243_3 (pU_cons q_243_4 (pU_cons q_243_5 (pU_cons q_243_6 (pU_cons q_243_7 (pU_cons q_243_8 (pU_cons q_243_9 (pU_nil))))))))))
theorem qb_243_1 : ∀ u ∈ [u_243_10, u_243_11, u_243_12, u_243_13, u_243_14, u_243_15, u_243_16, u_243_17, u_243_18, u_243_19], pQ_243 u := pU_cons q_243_10 (pU_cons q_243_11 (pU_cons q_243_12 (pU_cons q_243_13 (pU_cons q_243_14 (pU_cons q_243_15 (pU_cons q_243_16 (pU_cons q_243_17 (pU_cons q_243_18 (pU_cons q_243_19 (pU_nil))))))))))
theorem qb_243_2 : ∀ u ∈ [u_243_20, u_243_21, u_243_22, u_243_23, u_243_24, u_243_25, u_243_26, u_243_27, u_243_28, u_243_29], pQ_243 u := pU_cons q_243_20 (pU_cons q_243_21 (pU_cons q_243_22 (pU_cons q_243_23 (pU_cons q_243_24 (pU_cons q_243_25 (pU_cons q_243_26 (pU_cons q_243_27 (pU_cons q_243_28 (pU_cons q_243_29 (pU_nil))))))))))
theorem qb_243_3 : ∀ u ∈ [u_243_30, u_243_31, u_243_32, u_243_33, u_243_34, u_243_35, u_243_36, u_243_37, u_243_38, u_243_39], pQ_243 u := pU_cons q_243_30 (pU_cons q_243_31 (pU_cons q_243_32 (pU_cons q_243_33 (pU_cons q_243_34 (pU_cons q_243_35 (pU_cons q_243_36 (pU_cons q_243_37 (pU_cons q_243_38 (pU_cons q_243_39 (pU_nil))))))))))
theorem qb_243_4 : ∀ u ∈ [u_243_40, u_243_41, u_243_42, u_243_43, u_243_44, u_243_45, u_243_46, u_243_47, u_243_48, u_243_49], pQ_243 u := pU_cons q_243_40 (pU_cons q_243_41 (pU_cons q_243_42 (pU_cons q_243_43 (pU_cons q_243_44 (pU_cons q_243_45 (pU_cons q_243_46 (pU_cons q_243_47 (pU_cons q_243_48 (pU_cons q_243_49 (pU_nil))))))))))
theorem qb_243_5 : ∀ u ∈ [u_243_50, u_243_51, u_243_52, u_243_53, u_243_54, u_243_55, u_243_56, u_243_57, u_243_58, u_243_59], pQ_243 u := pU_cons q_243_50 (pU_cons q_243_51 (pU_cons q_243_52 (pU_cons q_243_53 (pU_cons q_243_54 (pU_cons q_243_55 (pU_cons q_243_56 (pU_cons q_243_57 (pU_cons q_243_58 (pU_cons q_243_59 (pU_nil))))))))))
theorem qb_243_6 : ∀ u ∈ [u_243_60, u_243_61, u_243_62, u_243_63, u_243_64, u_243_65, u_243_66, u_243_67, u_243_68, u_243_69], pQ_243 u := pU_cons q_243_60 (pU_cons q_243_61 (pU_cons q_243_62 (pU_cons q_243_63 (pU_cons q_243_64 (pU_cons q_243_65 (pU_cons q_243_66 (pU_cons q_243_67 (pU_cons q_243_68 (pU_cons q_243_69 (pU_nil))))))))))
theorem qb_243_7 : ∀ u ∈ [u_243_70, u_243_71, u_243_72, u_243_73, u_243_74, u_243_75, u_243_76, u_243_77, u_243_78, u_243_79], pQ_243 u := pU_cons q_243_70 (pU_cons q_243_71 (pU_cons q_243_72 (pU_cons q_243_73 (pU_cons q_243_74 (pU_cons q_243_75 (pU_cons q_243_76 (pU_cons q_243_77 (pU_cons q_243_78 (pU_cons q_243_79 (pU_nil))))))))))
theorem qb_243_8 : ∀ u ∈ [u_243_80, u_243_81, u_243_82, u_243_83, u_243_84, u_243_85, u_243_86, u_243_87, u_243_88, u_243_89], pQ_243 u := pU_cons q_243_80 (pU_cons q_243_81 (pU_cons q_243_82 (pU_cons q_243_83 (pU_cons q_243_84 (pU_cons q_243_85 (pU_cons q_243_86 (pU_cons q_243_87 (pU_cons q_243_88 (pU_cons q_243_89 (pU_nil))))))))))
theorem qb_243_9 : ∀ u ∈ [u_243_90, u_243_91, u_243_92, u_243_93, u_243_94, u_243_95, u_243_96, u_243_97, u_243_98, u_243_99], pQ_243 u := pU_cons q_243_90 (pU_cons q_243_91 (pU_cons q_243_92 (pU_cons q_243_93 (pU_cons q_243_94 (pU_cons q_243_95 (pU_cons q_243_96 (pU_cons q_243_97 (pU_cons q_243_98 (pU_cons q_243_99 (pU_nil))))))))))
theorem qb_243_10 : ∀ u ∈ [u_243_100, u_243_101, u_243_102, u_243_103, u_243_104, u_243_105, u_243_106, u_243_107, u_243_108, u_243_109], pQ_243 u := pU_cons q_243_100 (pU_cons q_243_101 (pU_cons q_243_102 (pU_cons q_243_103 (pU_cons q_243_104 (pU_cons q_243_105 (pU_cons q_243_106 (pU_cons q_243_107 (pU_cons q_243_108 (pU_cons q_243_109 (pU_nil))))))))))
theorem qb_243_11 : ∀ u ∈ [u_243_110, u_243_111, u_243_112, u_243_113, u_243_114, u_243_115, u_243_116, u_243_117, u_243_118, u_243_119], pQ_243 u := pU_cons q_243_110 (pU_cons q_243_111 (pU_cons q_243_112 (pU_cons q_243_113 (pU_cons q_243_114 (pU_cons q_243_115 (pU_cons q_243_116 (pU_cons q_243_117 (pU_cons q_243_118 (pU_cons q_243_119 (pU_nil))))))))))
theorem qb_243_12 : ∀ u ∈ [u_243_120, u_243_121, u_243_122, u_243_123, u_243_124, u_243_125, u_243_126, u_243_127, u_243_128, u_243_129], pQ_243 u := pU_cons q_243_120 (pU_cons q_243_121 (pU_cons q_243_122 (pU_cons q_243_123 (pU_cons q_243_124 (pU_cons q_243_125 (pU_cons q_243_126 (pU_cons q_243_127 (pU_cons q_243_128 (pU_cons q_243_129 (pU_nil))))))))))
theorem qb_243_13 : ∀ u ∈ [u_243_130, u_243_131, u_243_132, u_243_133, u_243_134, u_243_135, u_243_136, u_243_137, u_243_138, u_243_139], pQ_243 u := pU_cons q_243_130 (pU_cons q_243_131 (pU_cons q_243_132 (pU_cons q_243_133 (pU_cons q_243_134 (pU_cons q_243_135 (pU_cons q_243_136 (pU_cons q_243_137 (pU_cons q_243_138 (pU_cons q_243_139 (pU_nil))))))))))
theorem qb_243_14 : ∀ u ∈ [u_243_140, u_243_141, u_243_142, u_243_143, u_243_144, u_243_145, u_243_146, u_243_147, u_243_148, u_243_149], pQ_243 u := pU_cons q_243_140 (pU_cons q_243_141 (pU_cons q_243_142 (pU_cons q_243_143 (pU_cons q_243_144 (pU_cons q_243_145 (pU_cons q_243_146 (pU_cons q_243_147 (pU_cons q_243_148 (pU_cons q_243_149 (pU_nil))))))))))
theorem qb_243_15 : ∀ u ∈ [u_243_150, u_243_151, u_243_152, u_243_153, u_243_154, u_243_155, u_243_156, u_243_157, u_243_158, u_243_159], pQ_243 u := pU_cons q_243_150 (pU_cons q_243_151 (pU_cons q_243_152 (pU_cons q_243_153 (pU_cons q_243_154 (pU_cons q_243_155 (pU_cons q_243_156 (pU_cons q_243_157 (pU_cons q_243_158 (pU_cons q_243_159 (pU_nil))))))))))
theorem qb_243_16 : ∀ u ∈ [u_243_160, u_243_161, u_243_162, u_243_163], pQ_243 u := pU_cons q_243_160 (pU_cons q_243_161 (pU_cons q_243_162 (pU_cons q_243_163 (pU_nil))))
theorem ok_243 : sInOk pPT i_243 := sInst3 (M := pm_94) (cus := us_243) pOk pg_94 (by decide +kernel) ⟨_, _, _, _, (pS_nil), (pV_cons (List.mem_of_getElem? (i := 0) rfl) (pV_nil)), e_243⟩ (show ∀ u ∈ us_243, pQ_243 u from (pU_app qb_243_0 (pU_app qb_243_1 (pU_app qb_243_2 (pU_app qb_243_3 (pU_app qb_243_4 (pU_app qb_243_5 (pU_app qb_243_6 (pU_app qb_243_7 (pU_app qb_243_8 (pU_app qb_243_9 (pU_app qb_243_10 (pU_app qb_243_11 (pU_app qb_243_12 (pU_app qb_243_13 (pU_app qb_243_14 (pU_app qb_243_15 qb_243_16)))))))))))))))))
def pQ_244 (u : sCu) : Prop := ∃ (SM : List sIn) (H : gHt) (cu : List sCu) (n : Nat), (∀ I ∈ SM, sInOk pPT I) ∧ (∀ v ∈ cu, v ∈ us_244) ∧ sWhU pPT SM H i_244 (mR pm_91) cu n u = true
theorem q_244_0 : pQ_244 u_244_0 := ⟨_, _, _, _, (pS_cons ok_189 (pS_nil)), (pV_nil), f_244_0⟩
theorem q_244_1 : pQ_244 u_244_1 := ⟨_, _, _, _, (pS_cons ok_113 (pS_cons ok_207 (pS_cons ok_243 (pS_nil)))), (pV_cons (List.mem_of_getElem? (i := 0) rfl) (pV_cons (List.mem_of_getElem? (i := 1) rfl) (pV_nil))), f_244_1⟩
theorem qb_244_0 : ∀ u ∈ [u_244_0, u_244_1], pQ_244 u := pU_cons q_244_0 (pU_cons q_244_1 (pU_nil))
theorem ok_244 : sInOk pPT i_244 := sInst3 (M := pm_91) (cus := us_244) pOk pg_91 (by decide +kernel) ⟨_, _, _, _, (pS_cons ok_243 (pS_nil)), (pV_cons (List.mem_of_getElem? (i := 0) rfl) (pV_cons (List.mem_of_getElem? (i := 1) rfl) (pV_nil))), e_244⟩ (show ∀ u ∈ us_244, pQ_244 u from qb_244_0)
def pQ_245 (u : sCu) : Prop := ∃ (SM : List sIn) (H : gHt) (cu : List sCu) (n : Nat), (∀ I ∈ SM, sInOk pPT I) ∧ (∀ v ∈ cu, v ∈ us_245) ∧ sWhU pPT SM H i_245 (mR pm_94) cu n u = true
theorem q_245_0 : pQ_245 u_245_0 := ⟨_, _, _, _, (pS_cons ok_178 (pS_cons ok_186 (pS_cons ok_187 (pS_cons ok_242 (pS_nil))))), (pV_cons (List.mem_of_getElem? (i := 1) rfl) (pV_nil)), f_245_0⟩
theorem q_245_1 : pQ_245 u_245_1 := ⟨_, _, _, _, (pS_nil), (pV_cons (List.mem_of_getElem? (i := 2) rfl) (pV_nil)), f_245_1⟩
theorem q_245_2 : pQ_245 u_245_2 := ⟨_, _, _, _, (pS_nil), (pV_nil), f_245_2⟩
theorem qb_245_0 : ∀ u ∈ [u_245_0, u_245_1, u_245_2], pQ_245 u := pU_cons q_245_0 (pU_cons q_245_1 (pU_cons q_245_2 (pU_nil)))
theorem ok_245 : sInOk pPT i_245 := sInst3 (M := pm_94) (cus := us_245) pOk pg_94 (by decide +kernel) ⟨_, _, _, _, (pS_nil), (pV_cons (List.mem_of_getElem? (i := 0) rfl) (pV_nil)), e_245⟩ (show ∀ u ∈ us_245, pQ_245 u from qb_245_0)
def pQ_246 (u : sCu) : Prop := ∃ (SM : List sIn) (H : gHt) (cu : List sCu) (n : Nat), (∀ I ∈ SM, sInOk pPT I) ∧ (∀ v ∈ cu, v ∈ us_246) ∧ sWhU pPT SM H i_246 (mR pm_91) cu n u = true
theorem q_246_0 : pQ_246 u_246_0 := ⟨_, _, _, _, (pS_cons ok_189 (pS_nil)), (pV_nil), f_246_0⟩
theorem qb_246_0 : ∀ u ∈ [u_246_0], pQ_246 u := pU_cons q_246_0 (pU_nil)
theorem ok_246 : sInOk pPT i_246 := sInst3 (M := pm_91) (cus := us_246) pOk pg_91 (by decide +kernel) ⟨_, _, _, _, (pS_cons ok_245 (pS_nil)), (pV_cons (List.mem_of_getElem? (i := 0) rfl) (pV_nil)), e_246⟩ (show ∀ u ∈ us_246, pQ_246 u from qb_246_0)
def pQ_247 (u : sCu) : Prop := ∃ (SM : List sIn) (H : gHt) (cu : List sCu) (n : Nat), (∀ I ∈ SM, sInOk pPT I) ∧ (∀ v ∈ cu, v ∈ us_247) ∧ sWhU pPT SM H i_247 (mR pm_92) cu n u = true
theorem q_247_0 : pQ_247 u_247_0 := ⟨_, _, _, _, (pS_cons ok_244 (pS_nil)), (pV_cons (List.mem_of_getElem? (i := 2) rfl) (pV_cons (List.mem_of_getElem? (i := 3) rfl) (pV_nil))), f_247_0⟩
theorem q_247_1 : pQ_247 u_247_1 := ⟨_, _, _, _, (pS_cons ok_246 (pS_nil)), (pV_cons (List.mem_of_getElem? (i := 2) rfl) (pV_nil)), f_247_1⟩
theorem q_247_2 : pQ_247 u_247_2 := ⟨_, _, _, _, (pS_cons ok_191 (pS_nil)), (pV_nil), f_247_2⟩
theorem q_247_3 : pQ_247 u_247_3 := ⟨_, _, _, _, (pS_cons ok_113 (pS_cons ok_211 (pS_cons ok_244 (pS_nil)))), (pV_cons (List.mem_of_getElem? (i := 2) rfl) (pV_cons (List.mem_of_getElem? (i := 3) rfl) (pV_nil))), f_247_3⟩
theorem qb_247_0 : ∀ u ∈ [u_247_0, u_247_1, u_247_2, u_247_3], pQ_247 u := pU_cons q_247_0 (pU_cons q_247_1 (pU_cons q_247_2 (pU_cons q_247_3 (pU_nil))))
theorem ok_247 : sInOk pPT i_247 := sInst3 (M := pm_92) (cus := us_247) pOk pg_92 (by decide +kernel) ⟨_, _, _, _, (pS_cons ok_159 (pS_nil)), (pV_cons (List.mem_of_getElem? (i := 0) rfl) (pV_cons (List.mem_of_getElem? (i := 1) rfl) (pV_nil))), e_247⟩ (show ∀ u ∈ us_247, pQ_247 u from qb_247_0)
theorem ok_248 : sInOk pPT i_248 := sInst3 (M := pm_96) (cus := []) pOk pg_96 (by decide +kernel) ⟨_, _, _, _, (pS_cons ok_113 (pS_cons ok_161 (pS_cons ok_163 (pS_cons ok_172 (pS_cons ok_173 (pS_cons ok_193 (pS_cons ok_214 (pS_cons ok_247 (pS_nil))))))))), pV_nil, e_248⟩ pU_nil
def pQ_249 (u : sCu) : Prop := ∃ (SM : List sIn) (H : gHt) (cu : List sCu) (n : Nat), (∀ I ∈ SM, sInOk pPT I) ∧ (∀ v ∈ cu, v ∈ us_249) ∧ sWhU pPT SM H i_249 (mR pm_97) cu n u = true
theorem q_249_0 : pQ_249 u_249_0 := ⟨_, _, _, _, (pS_cons ok_180 (pS_cons ok_181 (pS_nil))), (pV_nil), f_249_0⟩
theorem q_249_1 : pQ_249 u_249_1 := ⟨_, _, _, _, (pS_cons ok_195 (pS_cons ok_196 (pS_nil))), (pV_cons (List.mem_of_getElem? (i := 2) rfl) (pV_cons (List.mem_of_getElem? (i := 3) rfl) (pV_nil))), f_249_1⟩
theorem q_249_2 : pQ_249 u_249_2 := ⟨_, _, _, _, (pS_cons ok_195 (pS_nil)), (pV_cons (List.mem_of_getElem? (i := 4) rfl) (pV_cons (List.mem_of_getElem? (i := 5) rfl) (pV_nil))), f_249_2⟩
theorem q_249_3 : pQ_249 u_249_3 := ⟨_, _, _, _, (pS_cons ok_195 (pS_nil)), (pV_cons (List.mem_of_getElem? (i := 6) rfl) (pV_cons (List.mem_of_getElem? (i := 7) rfl) (pV_nil))), f_249_3⟩
theorem q_249_4 : pQ_249 u_249_4 := ⟨_, _, _, _, (pS_cons ok_113 (pS_cons ok_248 (pS_nil))), (pV_cons (List.mem_of_getElem? (i := 0) rfl) (pV_cons (List.mem_of_getElem? (i := 1) rfl) (pV_nil))), f_249_4⟩
theorem q_249_5 : pQ_249 u_249_5 := ⟨_, _, _, _, (pS_cons ok_113 (pS_cons ok_248 (pS_nil))), (pV_cons (List.mem_of_getElem? (i := 0) rfl) (pV_cons (List.mem_of_getElem? (i := 1) rfl) (pV_nil))), f_249_5⟩
theorem q_249_6 : pQ_249 u_249_6 := ⟨_, _, _, _, (pS_cons ok_113 (pS_cons ok_248 (pS_nil))), (pV_cons (List.mem_of_getElem? (i := 0) rfl) (pV_cons (List.mem_of_getElem? (i := 1) rfl) (pV_nil))), f_249_6⟩
theorem q_249_7 : pQ_249 u_249_7 := ⟨_, _, _, _, (pS_cons ok_113 (pS_cons ok_248 (pS_nil))), (pV_cons (List.mem_of_getElem? (i := 0) rfl) (pV_cons (List.mem_of_getElem? (i := 1) rfl) (pV_nil))), f_249_7⟩
theorem qb_249_0 : ∀ u ∈ [u_249_0, u_249_1, u_249_2, u_249_3, u_249_4, u_249_5, u_249_6, u_249_7], pQ_249 u := pU_cons q_249_0 (pU_cons q_249_1 (pU_cons q_249_2 (pU_cons q_249_3 (pU_cons q_249_4 (pU_cons q_249_5 (pU_cons q_249_6 (pU_cons q_249_7 (pU_nil))))))))
theorem ok_249 : sInOk pPT i_249 := sInst3 (M := pm_97) (cus := us_249) pOk pg_97 (by decide +kernel) ⟨_, _, _, _, (pS_cons ok_248 (pS_nil)), (pV_cons (List.mem_of_getElem? (i := 0) rfl) (pV_cons (List.mem_of_getElem? (i := 1) rfl) (pV_nil))), e_249⟩ (show ∀ u ∈ us_249, pQ_249 u from qb_249_0)
def pQ_250 (u : sCu) : Prop := ∃ (SM : List sIn) (H : gHt) (cu : List sCu) (n : Nat), (∀ I ∈ SM, sInOk pPT I) ∧ (∀ v ∈ cu, v ∈ us_250) ∧ sWhU pPT SM H i_250 (mR pm_98) cu n u = true
theorem q_250_0 : pQ_250 u_250_0 := ⟨_, _, _, _, (pS_cons ok_183 (pS_cons ok_184 (pS_nil))), (pV_nil), f_250_0⟩
theorem q_250_1 : pQ_250 u_250_1 := ⟨_, _, _, _, (pS_cons ok_198 (pS_cons ok_199 (pS_nil))), (pV_cons (List.mem_of_getElem? (i := 2) rfl) (pV_cons (List.mem_of_getElem? (i := 3) rfl) (pV_nil))), f_250_1⟩
theorem q_250_2 : pQ_250 u_250_2 := ⟨_, _, _, _, (pS_cons ok_198 (pS_nil)), (pV_cons (List.mem_of_getElem? (i := 4) rfl) (pV_cons (List.mem_of_getElem? (i := 5) rfl) (pV_nil))), f_250_2⟩
theorem q_250_3 : pQ_250 u_250_3 := ⟨_, _, _, _, (pS_cons ok_198 (pS_nil)), (pV_cons (List.mem_of_getElem? (i := 6) rfl) (pV_cons (List.mem_of_getElem? (i := 7) rfl) (pV_nil))), f_250_3⟩
theorem q_250_4 : pQ_250 u_250_4 := ⟨_, _, _, _, (pS_cons ok_113 (pS_cons ok_249 (pS_nil))), (pV_cons (List.mem_of_getElem? (i := 0) rfl) (pV_cons (List.mem_of_getElem? (i := 1) rfl) (pV_nil))), f_250_4⟩
theorem q_250_5 : pQ_250 u_250_5 := ⟨_, _, _, _, (pS_cons ok_113 (pS_cons ok_249 (pS_nil))), (pV_cons (List.mem_of_getElem? (i := 0) rfl) (pV_cons (List.mem_of_getElem? (i := 1) rfl) (pV_nil))), f_250_5⟩
theorem q_250_6 : pQ_250 u_250_6 := ⟨_, _, _, _, (pS_cons ok_113 (pS_cons ok_249 (pS_nil))), (pV_cons (List.mem_of_getElem? (i := 0) rfl) (pV_cons (List.mem_of_getElem? (i := 1) rfl) (pV_nil))), f_250_6⟩
theorem q_250_7 : pQ_250 u_250_7 := ⟨_, _, _, _, (pS_cons ok_113 (pS_cons ok_249 (pS_nil))), (pV_cons (List.mem_of_getElem? (i := 0) rfl) (pV_cons (List.mem_of_getElem? (i := 1) rfl) (pV_nil))), f_250_7⟩
theorem qb_250_0 : ∀ u ∈ [u_250_0, u_250_1, u_250_2, u_250_3, u_250_4, u_250_5, u_250_6, u_250_7], pQ_250 u := pU_cons q_250_0 (pU_cons q_250_1 (pU_cons q_250_2 (pU_cons q_250_3 (pU_cons q_250_4 (pU_cons q_250_5 (pU_cons q_250_6 (pU_cons q_250_7 (pU_nil))))))))
theorem ok_250 : sInOk pPT i_250 := sInst3 (M := pm_98) (cus := us_250) pOk pg_98 (by decide +kernel) ⟨_, _, _, _, (pS_cons ok_249 (pS_nil)), (pV_cons (List.mem_of_getElem? (i := 0) rfl) (pV_cons (List.mem_of_getElem? (i := 1) rfl) (pV_nil))), e_250⟩ (show ∀ u ∈ us_250, pQ_250 u from qb_250_0)
theorem ok_251 : sInOk pPT i_251 := sInst3 (M := pm_96) (cus := []) pOk pg_96 (by decide +kernel) ⟨_, _, _, _, (pS_nil), pV_nil, e_251⟩ pU_nil
def pQ_252 (u : sCu) : Prop := ∃ (SM : List sIn) (H : gHt) (cu : List sCu) (n : Nat), (∀ I ∈ SM, sInOk pPT I) ∧ (∀ v ∈ cu, v ∈ us_252) ∧ sWhU pPT SM H i_252 (mR pm_97) cu n u = true
theorem q_252_0 : pQ_252 u_252_0 := ⟨_, _, _, _, (pS_cons ok_180 (pS_cons ok_181 (pS_nil))), (pV_nil), f_252_0⟩
theorem qb_252_0 : ∀ u ∈ [u_252_0], pQ_252 u := pU_cons q_252_0 (pU_nil)
theorem ok_252 : sInOk pPT i_252 := sInst3 (M := pm_97) (cus := us_252) pOk pg_97 (by decide +kernel) ⟨_, _, _, _, (pS_cons ok_251 (pS_nil)), (pV_cons (List.mem_of_getElem? (i := 0) rfl) (pV_nil)), e_252⟩ (show ∀ u ∈ us_252, pQ_252 u from qb_252_0)
def pQ_253 (u : sCu) : Prop := ∃ (SM : List sIn) (H : gHt) (cu : List sCu) (n : Nat), (∀ I ∈ SM, sInOk pPT I) ∧ (∀ v ∈ cu, v ∈ us_253) ∧ sWhU pPT SM H i_253 (mR pm_98) cu n u = true
theorem q_253_0 : pQ_253 u_253_0 := ⟨_, _, _, _, (pS_cons ok_183 (pS_cons ok_184 (pS_nil))), (pV_nil), f_253_0⟩
theorem qb_253_0 : ∀ u ∈ [u_253_0], pQ_253 u := pU_cons q_253_0 (pU_nil)
theorem ok_253 : sInOk pPT i_253 := sInst3 (M := pm_98) (cus := us_253) pOk pg_98 (by decide +kernel) ⟨_, _, _, _, (pS_cons ok_252 (pS_nil)), (pV_cons (List.mem_of_getElem? (i := 0) rfl) (pV_nil)), e_253⟩ (show ∀ u ∈ us_253, pQ_253 u from qb_253_0)
def pQ_254 (u : sCu) : Prop := ∃ (SM : List sIn) (H : gHt) (cu : List sCu) (n : Nat), (∀ I ∈ SM, sInOk pPT I) ∧ (∀ v ∈ cu, v ∈ us_254) ∧ sWhU pPT SM H i_254 (mR pm_94) cu n u = true
theorem q_254_0 : pQ_254 u_254_0 := ⟨_, _, _, _, (pS_cons ok_160 (pS_cons ok_186 (pS_cons ok_187 (pS_cons ok_201 (pS_cons ok_202 (pS_cons ok_250 (pS_nil))))))), (pV_cons (List.mem_of_getElem? (i := 1) rfl) (pV_cons (List.mem_of_getElem? (i := 2) rfl) (pV_cons (List.mem_of_getElem? (i := 3) rfl) (pV_cons (List.mem_of_getElem? (i := 4) rfl) (pV_cons (List.mem_of_getElem? (i := 5) rfl) (pV_nil)))))), f_254_0⟩
theorem q_254_1 : pQ_254 u_254_1 := ⟨_, _, _, _, (pS_nil), (pV_cons (List.mem_of_getElem? (i := 6) rfl) (pV_nil)), f_254_1⟩
theorem q_254_2 : pQ_254 u_254_2 := ⟨_, _, _, _, (pS_cons ok_201 (pS_nil)), (pV_cons (List.mem_of_getElem? (i := 7) rfl) (pV_cons (List.mem_of_getElem? (i := 8) rfl) (pV_nil))), f_254_2⟩
theorem q_254_3 : pQ_254 u_254_3 := ⟨_, _, _, _, (pS_cons ok_201 (pS_nil)), (pV_cons (List.mem_of_getElem? (i := 7) rfl) (pV_cons (List.mem_of_getElem? (i := 10) rfl) (pV_nil))), f_254_3⟩
theorem q_254_4 : pQ_254 u_254_4 := ⟨_, _, _, _, (pS_nil), (pV_cons (List.mem_of_getElem? (i := 11) rfl) (pV_nil)), f_254_4⟩
theorem q_254_5 : pQ_254 u_254_5 := ⟨_, _, _, _, (pS_cons ok_113 (pS_nil)), (pV_cons (List.mem_of_getElem? (i := 12) rfl) (pV_nil)), f_254_5⟩
theorem q_254_6 : pQ_254 u_254_6 := ⟨_, _, _, _, (pS_nil), (pV_nil), f_254_6⟩
theorem q_254_7 : pQ_254 u_254_7 := ⟨_, _, _, _, (pS_cons ok_113 (pS_cons ok_250 (pS_nil))), (pV_cons (List.mem_of_getElem? (i := 1) rfl) (pV_cons (List.mem_of_getElem? (i := 14) rfl) (pV_nil))), f_254_7⟩
theorem q_254_8 : pQ_254 u_254_8 := ⟨_, _, _, _, (pS_cons ok_113 (pS_cons ok_250 (pS_nil))), (pV_cons (List.mem_of_getElem? (i := 1) rfl) (pV_cons (List.mem_of_getElem? (i := 14) rfl) (pV_nil))), f_254_8⟩
theorem q_254_9 : pQ_254 u_254_9 := ⟨_, _, _, _, (pS_cons ok_113 (pS_cons ok_250 (pS_nil))), (pV_cons (List.mem_of_getElem? (i := 1) rfl) (pV_cons (List.mem_of_getElem? (i := 14) rfl) (pV_nil))), f_254_9⟩
theorem q_254_10 : pQ_254 u_254_10 := ⟨_, _, _, _, (pS_cons ok_113 (pS_cons ok_250 (pS_nil))), (pV_cons (List.mem_of_getElem? (i := 1) rfl) (pV_cons (List.mem_of_getElem? (i := 14) rfl) (pV_nil))), f_254_10⟩
theorem q_254_11 : pQ_254 u_254_11 := ⟨_, _, _, _, (pS_nil), (pV_nil), f_254_11⟩
theorem q_254_12 : pQ_254 u_254_12 := ⟨_, _, _, _, (pS_cons ok_160 (pS_cons ok_186 (pS_cons ok_187 (pS_cons ok_201 (pS_cons ok_202 (pS_cons ok_250 (pS_nil))))))), (pV_cons (List.mem_of_getElem? (i := 17) rfl) (pV_cons (List.mem_of_getElem? (i := 18) rfl) (pV_cons (List.mem_of_getElem? (i := 19) rfl) (pV_cons (List.mem_of_getElem? (i := 20) rfl) (pV_cons (List.mem_of_getElem? (i := 21) rfl) (pV_nil)))))), f_254_12⟩
theorem q_254_13 : pQ_254 u_254_13 := ⟨_, _, _, _, (pS_nil), (pV_cons (List.mem_of_getElem? (i := 6) rfl) (pV_nil)), f_254_13⟩
theorem q_254_14 : pQ_254 u_254_14 := ⟨_, _, _, _, (pS_nil), (pV_cons (List.mem_of_getElem? (i := 11) rfl) (pV_nil)), f_254_14⟩
theorem q_254_15 : pQ_254 u_254_15 := ⟨_, _, _, _, (pS_nil), (pV_cons (List.mem_of_getElem? (i := 6) rfl) (pV_nil)), f_254_15⟩
theorem q_254_16 : pQ_254 u_254_16 := ⟨_, _, _, _, (pS_nil), (pV_cons (List.mem_of_getElem? (i := 11) rfl) (pV_nil)), f_254_16⟩
theorem q_254_17 : pQ_254 u_254_17 := ⟨_, _, _, _, (pS_nil), (pV_cons (List.mem_of_getElem? (i := 22) rfl) (pV_nil)), f_254_17⟩
theorem q_254_18 : pQ_254 u_254_18 := ⟨_, _, _, _, (pS_cons ok_201 (pS_nil)), (pV_cons (List.mem_of_getElem? (i := 23) rfl) (pV_cons (List.mem_of_getElem? (i := 24) rfl) (pV_nil))), f_254_18⟩
theorem q_254_19 : pQ_254 u_254_19 := ⟨_, _, _, _, (pS_cons ok_201 (pS_nil)), (pV_cons (List.mem_of_getElem? (i := 23) rfl) (pV_cons (List.mem_of_getElem? (i := 26) rfl) (pV_nil))), f_254_19⟩
theorem q_254_20 : pQ_254 u_254_20 := ⟨_, _, _, _, (pS_nil), (pV_cons (List.mem_of_getElem? (i := 27) rfl) (pV_nil)), f_254_20⟩
theorem q_254_21 : pQ_254 u_254_21 := ⟨_, _, _, _, (pS_cons ok_113 (pS_nil)), (pV_cons (List.mem_of_getElem? (i := 28) rfl) (pV_nil)), f_254_21⟩
theorem q_254_22 : pQ_254 u_254_22 := ⟨_, _, _, _, (pS_nil), (pV_cons (List.mem_of_getElem? (i := 29) rfl) (pV_nil)), f_254_22⟩
theorem q_254_23 : pQ_254 u_254_23 := ⟨_, _, _, _, (pS_cons ok_113 (pS_cons ok_250 (pS_nil))), (pV_cons (List.mem_of_getElem? (i := 17) rfl) (pV_cons (List.mem_of_getElem? (i := 31) rfl) (pV_nil))), f_254_23⟩
theorem q_254_24 : pQ_254 u_254_24 := ⟨_, _, _, _, (pS_cons ok_113 (pS_cons ok_250 (pS_nil))), (pV_cons (List.mem_of_getElem? (i := 17) rfl) (pV_cons (List.mem_of_getElem? (i := 31) rfl) (pV_nil))), f_254_24⟩
theorem q_254_25 : pQ_254 u_254_25 := ⟨_, _, _, _, (pS_cons ok_113 (pS_cons ok_250 (pS_nil))), (pV_cons (List.mem_of_getElem? (i := 17) rfl) (pV_cons (List.mem_of_getElem? (i := 31) rfl) (pV_nil))), f_254_25⟩
theorem q_254_26 : pQ_254 u_254_26 := ⟨_, _, _, _, (pS_cons ok_113 (pS_cons ok_250 (pS_nil))), (pV_cons (List.mem_of_getElem? (i := 17) rfl) (pV_cons (List.mem_of_getElem? (i := 31) rfl) (pV_nil))), f_254_26⟩
theorem q_254_27 : pQ_254 u_254_27 := ⟨_, _, _, _, (pS_nil), (pV_cons (List.mem_of_getElem? (i := 34) rfl) (pV_nil)), f_254_27⟩
theorem q_254_28 : pQ_254 u_254_28 := ⟨_, _, _, _, (pS_cons ok_160 (pS_cons ok_186 (pS_cons ok_187 (pS_cons ok_201 (pS_cons ok_202 (pS_cons ok_250 (pS_nil))))))), (pV_cons (List.mem_of_getElem? (i := 35) rfl) (pV_cons (List.mem_of_getElem? (i := 36) rfl) (pV_cons (List.mem_of_getElem? (i := 37) rfl) (pV_cons (List.mem_of_getElem? (i := 38) rfl) (pV_cons (List.mem_of_getElem? (i := 39) rfl) (pV_nil)))))), f_254_28⟩
theorem q_254_29 : pQ_254 u_254_29 := ⟨_, _, _, _, (pS_nil), (pV_nil), f_254_29⟩
theorem q_254_30 : pQ_254 u_254_30 := ⟨_, _, _, _, (pS_nil), (pV_cons (List.mem_of_getElem? (i := 22) rfl) (pV_nil)), f_254_30⟩
theorem q_254_31 : pQ_254 u_254_31 := ⟨_, _, _, _, (pS_nil), (pV_cons (List.mem_of_getElem? (i := 27) rfl) (pV_nil)), f_254_31⟩
theorem q_254_32 : pQ_254 u_254_32 := ⟨_, _, _, _, (pS_nil), (pV_cons (List.mem_of_getElem? (i := 22) rfl) (pV_nil)), f_254_32⟩
theorem q_254_33 : pQ_254 u_254_33 := ⟨_, _, _, _, (pS_nil), (pV_cons (List.mem_of_getElem? (i := 27) rfl) (pV_nil)), f_254_33⟩
theorem q_254_34 : pQ_254 u_254_34 := ⟨_, _, _, _, (pS_nil), (pV_nil), f_254_34⟩
theorem q_254_35 : pQ_254 u_254_35 := ⟨_, _, _, _, (pS_nil), (pV_cons (List.mem_of_getElem? (i := 40) rfl) (pV_nil)), f_254_35⟩
theorem q_254_36 : pQ_254 u_254_36 := ⟨_, _, _, _, (pS_cons ok_201 (pS_nil)), (pV_cons (List.mem_of_getElem? (i := 41) rfl) (pV_cons (List.mem_of_getElem? (i := 42) rfl) (pV_nil))), f_254_36⟩
theorem q_254_37 : pQ_254 u_254_37 := ⟨_, _, _, _, (pS_cons ok_201 (pS_nil)), (pV_cons (List.mem_of_getElem? (i := 41) rfl) (pV_cons (List.mem_of_getElem? (i := 44) rfl) (pV_nil))), f_254_37⟩
theorem q_254_38 : pQ_254 u_254_38 := ⟨_, _, _, _, (pS_nil), (pV_cons (List.mem_of_getElem? (i := 45) rfl) (pV_nil)), f_254_38⟩
theorem q_254_39 : pQ_254 u_254_39 := ⟨_, _, _, _, (pS_cons ok_113 (pS_nil)), (pV_cons (List.mem_of_getElem? (i := 46) rfl) (pV_nil)), f_254_39⟩
theorem q_254_40 : pQ_254 u_254_40 := ⟨_, _, _, _, (pS_nil), (pV_cons (List.mem_of_getElem? (i := 47) rfl) (pV_nil)), f_254_40⟩
theorem q_254_41 : pQ_254 u_254_41 := ⟨_, _, _, _, (pS_cons ok_113 (pS_cons ok_250 (pS_nil))), (pV_cons (List.mem_of_getElem? (i := 35) rfl) (pV_cons (List.mem_of_getElem? (i := 49) rfl) (pV_nil))), f_254_41⟩
theorem q_254_42 : pQ_254 u_254_42 := ⟨_, _, _, _, (pS_cons ok_113 (pS_cons ok_250 (pS_nil))), (pV_cons (List.mem_of_getElem? (i := 35) rfl) (pV_cons (List.mem_of_getElem? (i := 49) rfl) (pV_nil))), f_254_42⟩
theorem q_254_43 : pQ_254 u_254_43 := ⟨_, _, _, _, (pS_cons ok_113 (pS_cons ok_250 (pS_nil))), (pV_cons (List.mem_of_getElem? (i := 35) rfl) (pV_cons (List.mem_of_getElem? (i := 49) rfl) (pV_nil))), f_254_43⟩
theorem q_254_44 : pQ_254 u_254_44 := ⟨_, _, _, _, (pS_cons ok_113 (pS_cons ok_250 (pS_nil))), (pV_cons (List.mem_of_getElem? (i := 35) rfl) (pV_cons (List.mem_of_getElem? (i := 49) rfl) (pV_nil))), f_254_44⟩
theorem q_254_45 : pQ_254 u_254_45 := ⟨_, _, _, _, (pS_nil), (pV_cons (List.mem_of_getElem? (i := 52) rfl) (pV_nil)), f_254_45⟩
theorem q_254_46 : pQ_254 u_254_46 := ⟨_, _, _, _, (pS_cons ok_160 (pS_cons ok_186 (pS_cons ok_187 (pS_cons ok_201 (pS_cons ok_202 (pS_cons ok_250 (pS_nil))))))), (pV_cons (List.mem_of_getElem? (i := 53) rfl) (pV_cons (List.mem_of_getElem? (i := 54) rfl) (pV_cons (List.mem_of_getElem? (i := 55) rfl) (pV_cons (List.mem_of_getElem? (i := 56) rfl) (pV_cons (List.mem_of_getElem? (i := 57) rfl) (pV_nil)))))), f_254_46⟩
theorem q_254_47 : pQ_254 u_254_47 := ⟨_, _, _, _, (pS_nil), (pV_cons (List.mem_of_getElem? (i := 58) rfl) (pV_nil)), f_254_47⟩
theorem q_254_48 : pQ_254 u_254_48 := ⟨_, _, _, _, (pS_nil), (pV_cons (List.mem_of_getElem? (i := 40) rfl) (pV_nil)), f_254_48⟩
theorem q_254_49 : pQ_254 u_254_49 := ⟨_, _, _, _, (pS_nil), (pV_cons (List.mem_of_getElem? (i := 45) rfl) (pV_nil)), f_254_49⟩
theorem q_254_50 : pQ_254 u_254_50 := ⟨_, _, _, _, (pS_nil), (pV_cons (List.mem_of_getElem? (i := 40) rfl) (pV_nil)), f_254_50⟩
theorem q_254_51 : pQ_254 u_254_51 := ⟨_, _, _, _, (pS_nil), (pV_cons (List.mem_of_getElem? (i := 45) rfl) (pV_nil)), f_254_51⟩
theorem q_254_52 : pQ_254 u_254_52 := ⟨_, _, _, _, (pS_nil), (pV_cons (List.mem_of_getElem? (i := 59) rfl) (pV_nil)), f_254_52⟩
theorem q_254_53 : pQ_254 u_254_53 := ⟨_, _, _, _, (pS_nil), (pV_cons (List.mem_of_getElem? (i := 60) rfl) (pV_nil)), f_254_53⟩
theorem q_254_54 : pQ_254 u_254_54 := ⟨_, _, _, _, (pS_cons ok_201 (pS_nil)), (pV_cons (List.mem_of_getElem? (i := 61) rfl) (pV_cons (List.mem_of_getElem? (i := 62) rfl) (pV_nil))), f_254_54⟩
theorem q_254_55 : pQ_254 u_254_55 := ⟨_, _, _, _, (pS_cons ok_201 (pS_nil)), (pV_cons (List.mem_of_getElem? (i := 61) rfl) (pV_cons (List.mem_of_getElem? (i := 64) rfl) (pV_nil))), f_254_55⟩
theorem q_254_56 : pQ_254 u_254_56 := ⟨_, _, _, _, (pS_nil), (pV_cons (List.mem_of_getElem? (i := 65) rfl) (pV_nil)), f_254_56⟩
theorem q_254_57 : pQ_254 u_254_57 := ⟨_, _, _, _, (pS_cons ok_113 (pS_nil)), (pV_cons (List.mem_of_getElem? (i := 66) rfl) (pV_nil)), f_254_57⟩
theorem q_254_58 : pQ_254 u_254_58 := ⟨_, _, _, _, (pS_nil), (pV_nil), f_254_58⟩
theorem q_254_59 : pQ_254 u_254_59 := ⟨_, _, _, _, (pS_nil), (pV_nil), f_254_59⟩
theorem q_254_60 : pQ_254 u_254_60 := ⟨_, _, _, _, (pS_nil), (pV_cons (List.mem_of_getElem? (i := 67) rfl) (pV_nil)), f_254_60⟩
theorem q_254_61 : pQ_254 u_254_61 := ⟨_, _, _, _, (pS_cons ok_113 (pS_cons ok_250 (pS_nil))), (pV_cons (List.mem_of_getElem? (i := 53) rfl) (pV_cons (List.mem_of_getElem? (i := 69) rfl) (pV_nil))), f_254_61⟩
theorem q_254_62 : pQ_254 u_254_62 := ⟨_, _, _, _, (pS_cons ok_113 (pS_cons ok_250 (pS_nil))), (pV_cons (List.mem_of_getElem? (i := 53) rfl) (pV_cons (List.mem_of_getElem? (i := 69) rfl) (pV_nil))), f_254_62⟩
theorem q_254_63 : pQ_254 u_254_63 := ⟨_, _, _, _, (pS_cons ok_113 (pS_cons ok_250 (pS_nil))), (pV_cons (List.mem_of_getElem? (i := 53) rfl) (pV_cons (List.mem_of_getElem? (i := 69) rfl) (pV_nil))), f_254_63⟩
theorem q_254_64 : pQ_254 u_254_64 := ⟨_, _, _, _, (pS_cons ok_113 (pS_cons ok_250 (pS_nil))), (pV_cons (List.mem_of_getElem? (i := 53) rfl) (pV_cons (List.mem_of_getElem? (i := 69) rfl) (pV_nil))), f_254_64⟩
theorem q_254_65 : pQ_254 u_254_65 := ⟨_, _, _, _, (pS_nil), (pV_cons (List.mem_of_getElem? (i := 72) rfl) (pV_nil)), f_254_65⟩
theorem q_254_66 : pQ_254 u_254_66 := ⟨_, _, _, _, (pS_cons ok_160 (pS_cons ok_186 (pS_cons ok_187 (pS_cons ok_201 (pS_cons ok_202 (pS_cons ok_250 (pS_nil))))))), (pV_cons (List.mem_of_getElem? (i := 73) rfl) (pV_cons (List.mem_of_getElem? (i := 74) rfl) (pV_cons (List.mem_of_getElem? (i := 75) rfl) (pV_cons (List.mem_of_getElem? (i := 76) rfl) (pV_cons (List.mem_of_getElem? (i := 77) rfl) (pV_nil)))))), f_254_66⟩
theorem q_254_67 : pQ_254 u_254_67 := ⟨_, _, _, _, (pS_nil), (pV_cons (List.mem_of_getElem? (i := 78) rfl) (pV_nil)), f_254_67⟩
theorem q_254_68 : pQ_254 u_254_68 := ⟨_, _, _, _, (pS_nil), (pV_cons (List.mem_of_getElem? (i := 60) rfl) (pV_nil)), f_254_68⟩
theorem q_254_69 : pQ_254 u_254_69 := ⟨_, _, _, _, (pS_nil), (pV_cons (List.mem_of_getElem? (i := 65) rfl) (pV_nil)), f_254_69⟩
theorem q_254_70 : pQ_254 u_254_70 := ⟨_, _, _, _, (pS_nil), (pV_cons (List.mem_of_getElem? (i := 60) rfl) (pV_nil)), f_254_70⟩
theorem q_254_71 : pQ_254 u_254_71 := ⟨_, _, _, _, (pS_nil), (pV_cons (List.mem_of_getElem? (i := 65) rfl) (pV_nil)), f_254_71⟩
theorem q_254_72 : pQ_254 u_254_72 := ⟨_, _, _, _, (pS_nil), (pV_cons (List.mem_of_getElem? (i := 79) rfl) (pV_nil)), f_254_72⟩
theorem q_254_73 : pQ_254 u_254_73 := ⟨_, _, _, _, (pS_nil), (pV_cons (List.mem_of_getElem? (i := 80) rfl) (pV_nil)), f_254_73⟩
theorem q_254_74 : pQ_254 u_254_74 := ⟨_, _, _, _, (pS_cons ok_201 (pS_nil)), (pV_cons (List.mem_of_getElem? (i := 81) rfl) (pV_cons (List.mem_of_getElem? (i := 82) rfl) (pV_nil))), f_254_74⟩
theorem q_254_75 : pQ_254 u_254_75 := ⟨_, _, _, _, (pS_cons ok_201 (pS_nil)), (pV_cons (List.mem_of_getElem? (i := 81) rfl) (pV_cons (List.mem_of_getElem? (i := 84) rfl) (pV_nil))), f_254_75⟩
theorem q_254_76 : pQ_254 u_254_76 := ⟨_, _, _, _, (pS_nil), (pV_cons (List.mem_of_getElem? (i := 85) rfl) (pV_nil)), f_254_76⟩
theorem q_254_77 : pQ_254 u_254_77 := ⟨_, _, _, _, (pS_cons ok_113 (pS_nil)), (pV_cons (List.mem_of_getElem? (i := 86) rfl) (pV_nil)), f_254_77⟩
theorem q_254_78 : pQ_254 u_254_78 := ⟨_, _, _, _, (pS_nil), (pV_cons (List.mem_of_getElem? (i := 87) rfl) (pV_nil)), f_254_78⟩
theorem q_254_79 : pQ_254 u_254_79 := ⟨_, _, _, _, (pS_nil), (pV_cons (List.mem_of_getElem? (i := 88) rfl) (pV_nil)), f_254_79⟩
theorem q_254_80 : pQ_254 u_254_80 := ⟨_, _, _, _, (pS_nil), (pV_cons (List.mem_of_getElem? (i := 89) rfl) (pV_nil)), f_254_80⟩
theorem q_254_81 : pQ_254 u_254_81 := ⟨_, _, _, _, (pS_cons ok_113 (pS_cons ok_250 (pS_nil))), (pV_cons (List.mem_of_getElem? (i := 73) rfl) (pV_cons (List.mem_of_getElem? (i := 91) rfl) (pV_nil))), f_254_81⟩
theorem q_254_82 : pQ_254 u_254_82 := ⟨_, _, _, _, (pS_cons ok_113 (pS_cons ok_250 (pS_nil))), (pV_cons (List.mem_of_getElem? (i := 73) rfl) (pV_cons (List.mem_of_getElem? (i := 91) rfl) (pV_nil))), f_254_82⟩
theorem q_254_83 : pQ_254 u_254_83 := ⟨_, _, _, _, (pS_cons ok_113 (pS_cons ok_250 (pS_nil))), (pV_cons (List.mem_of_getElem? (i := 73) rfl) (pV_cons (List.mem_of_getElem? (i := 91) rfl) (pV_nil))), f_254_83⟩
theorem q_254_84 : pQ_254 u_254_84 := ⟨_, _, _, _, (pS_cons ok_113 (pS_cons ok_250 (pS_nil))), (pV_cons (List.mem_of_getElem? (i := 73) rfl) (pV_cons (List.mem_of_getElem? (i := 91) rfl) (pV_nil))), f_254_84⟩
theorem q_254_85 : pQ_254 u_254_85 := ⟨_, _, _, _, (pS_nil), (pV_cons (List.mem_of_getElem? (i := 94) rfl) (pV_nil)), f_254_85⟩
theorem q_254_86 : pQ_254 u_254_86 := ⟨_, _, _, _, (pS_cons ok_160 (pS_cons ok_186 (pS_cons ok_187 (pS_cons ok_201 (pS_cons ok_202 (pS_cons ok_250 (pS_nil))))))), (pV_cons (List.mem_of_getElem? (i := 95) rfl) (pV_cons (List.mem_of_getElem? (i := 96) rfl) (pV_cons (List.mem_of_getElem? (i := 97) rfl) (pV_cons (List.mem_of_getElem? (i := 98) rfl) (pV_cons (List.mem_of_getElem? (i := 99) rfl) (pV_nil)))))), f_254_86⟩
theorem q_254_87 : pQ_254 u_254_87 := ⟨_, _, _, _, (pS_nil), (pV_nil), f_254_87⟩
theorem q_254_88 : pQ_254 u_254_88 := ⟨_, _, _, _, (pS_nil), (pV_nil), f_254_88⟩
theorem q_254_89 : pQ_254 u_254_89 := ⟨_, _, _, _, (pS_nil), (pV_cons (List.mem_of_getElem? (i := 100) rfl) (pV_nil)), f_254_89⟩
theorem q_254_90 : pQ_254 u_254_90 := ⟨_, _, _, _, (pS_nil), (pV_cons (List.mem_of_getElem? (i := 80) rfl) (pV_nil)), f_254_90⟩
theorem q_254_91 : pQ_254 u_254_91 := ⟨_, _, _, _, (pS_nil), (pV_cons (List.mem_of_getElem? (i := 85) rfl) (pV_nil)), f_254_91⟩
theorem q_254_92 : pQ_254 u_254_92 := ⟨_, _, _, _, (pS_nil), (pV_cons (List.mem_of_getElem? (i := 80) rfl) (pV_nil)), f_254_92⟩
theorem q_254_93 : pQ_254 u_254_93 := ⟨_, _, _, _, (pS_nil), (pV_cons (List.mem_of_getElem? (i := 85) rfl) (pV_nil)), f_254_93⟩
theorem q_254_94 : pQ_254 u_254_94 := ⟨_, _, _, _, (pS_nil), (pV_cons (List.mem_of_getElem? (i := 101) rfl) (pV_nil)), f_254_94⟩
theorem q_254_95 : pQ_254 u_254_95 := ⟨_, _, _, _, (pS_nil), (pV_cons (List.mem_of_getElem? (i := 102) rfl) (pV_nil)), f_254_95⟩
theorem q_254_96 : pQ_254 u_254_96 := ⟨_, _, _, _, (pS_cons ok_201 (pS_nil)), (pV_cons (List.mem_of_getElem? (i := 103) rfl) (pV_cons (List.mem_of_getElem? (i := 104) rfl) (pV_nil))), f_254_96⟩
theorem q_254_97 : pQ_254 u_254_97 := ⟨_, _, _, _, (pS_cons ok_201 (pS_nil)), (pV_cons (List.mem_of_getElem? (i := 103) rfl) (pV_cons (List.mem_of_getElem? (i := 106) rfl) (pV_nil))), f_254_97⟩
theorem q_254_98 : pQ_254 u_254_98 := ⟨_, _, _, _, (pS_nil), (pV_cons (List.mem_of_getElem? (i := 107) rfl) (pV_nil)), f_254_98⟩
theorem q_254_99 : pQ_254 u_254_99 := ⟨_, _, _, _, (pS_cons ok_113 (pS_nil)), (pV_cons (List.mem_of_getElem? (i := 108) rfl) (pV_nil)), f_254_99⟩
theorem q_254_100 : pQ_254 u_254_100 := ⟨_, _, _, _, (pS_nil), (pV_cons (List.mem_of_getElem? (i := 109) rfl) (pV_nil)), f_254_100⟩
theorem q_254_101 : pQ_254 u_254_101 := ⟨_, _, _, _, (pS_nil), (pV_cons (List.mem_of_getElem? (i := 110) rfl) (pV_nil)), f_254_101⟩
theorem q_254_102 : pQ_254 u_254_102 := ⟨_, _, _, _, (pS_nil), (pV_cons (List.mem_of_getElem? (i := 111) rfl) (pV_nil)), f_254_102⟩
theorem q_254_103 : pQ_254 u_254_103 := ⟨_, _, _, _, (pS_cons ok_113 (pS_cons ok_250 (pS_nil))), (pV_cons (List.mem_of_getElem? (i := 95) rfl) (pV_cons (List.mem_of_getElem? (i := 113) rfl) (pV_nil))), f_254_103⟩
theorem q_254_104 : pQ_254 u_254_104 := ⟨_, _, _, _, (pS_cons ok_113 (pS_cons ok_250 (pS_nil))), (pV_cons (List.mem_of_getElem? (i := 95) rfl) (pV_cons (List.mem_of_getElem? (i := 113) rfl) (pV_nil))), f_254_104⟩
theorem q_254_105 : pQ_254 u_254_105 := ⟨_, _, _, _, (pS_cons ok_113 (pS_cons ok_250 (pS_nil))), (pV_cons (List.mem_of_getElem? (i := 95) rfl) (pV_cons (List.mem_of_getElem? (i := 113) rfl) (pV_nil))), f_254_105⟩
theorem q_254_106 : pQ_254 u_254_106 := ⟨_, _, _, _, (pS_cons ok_113 (pS_cons ok_250 (pS_nil))), (pV_cons (List.mem_of_getElem? (i := 95) rfl) (pV_cons (List.mem_of_getElem? (i := 113) rfl) (pV_nil))), f_254_106⟩
theorem q_254_107 : pQ_254 u_254_107 := ⟨_, _, _, _, (pS_nil), (pV_cons (List.mem_of_getElem? (i := 116) rfl) (pV_nil)), f_254_107⟩
theorem q_254_108 : pQ_254 u_254_108 := ⟨_, _, _, _, (pS_cons ok_160 (pS_cons ok_186 (pS_cons ok_187 (pS_cons ok_201 (pS_cons ok_202 (pS_cons ok_250 (pS_nil))))))), (pV_cons (List.mem_of_getElem? (i := 117) rfl) (pV_cons (List.mem_of_getElem? (i := 118) rfl) (pV_cons (List.mem_of_getElem? (i := 119) rfl) (pV_cons (List.mem_of_getElem? (i := 120) rfl) (pV_cons (List.mem_of_getElem? (i := 121) rfl) (pV_nil)))))), f_254_108⟩
theorem q_254_109 : pQ_254 u_254_109 := ⟨_, _, _, _, (pS_nil), (pV_cons (List.mem_of_getElem? (i := 122) rfl) (pV_nil)), f_254_109⟩
theorem q_254_110 : pQ_254 u_254_110 := ⟨_, _, _, _, (pS_nil), (pV_cons (List.mem_of_getElem? (i := 123) rfl) (pV_nil)), f_254_110⟩
theorem q_254_111 : pQ_254 u_254_111 := ⟨_, _, _, _, (pS_nil), (pV_cons (List.mem_of_getElem? (i := 124) rfl) (pV_nil)), f_254_111⟩
theorem q_254_112 : pQ_254 u_254_112 := ⟨_, _, _, _, (pS_nil), (pV_cons (List.mem_of_getElem? (i := 102) rfl) (pV_nil)), f_254_112⟩
theorem q_254_113 : pQ_254 u_254_113 := ⟨_, _, _, _, (pS_nil), (pV_cons (List.mem_of_getElem? (i := 107) rfl) (pV_nil)), f_254_113⟩
theorem q_254_114 : pQ_254 u_254_114 := ⟨_, _, _, _, (pS_nil), (pV_cons (List.mem_of_getElem? (i := 102) rfl) (pV_nil)), f_254_114⟩
theorem q_254_115 : pQ_254 u_254_115 := ⟨_, _, _, _, (pS_nil), (pV_cons (List.mem_of_getElem? (i := 107) rfl) (pV_nil)), f_254_115⟩
theorem q_254_116 : pQ_254 u_254_116 := ⟨_, _, _, _, (pS_nil), (pV_cons (List.mem_of_getElem? (i := 125) rfl) (pV_nil)), f_254_116⟩
theorem q_254_117 : pQ_254 u_254_117 := ⟨_, _, _, _, (pS_nil), (pV_cons (List.mem_of_getElem? (i := 126) rfl) (pV_nil)), f_254_117⟩
theorem q_254_118 : pQ_254 u_254_118 := ⟨_, _, _, _, (pS_cons ok_201 (pS_nil)), (pV_cons (List.mem_of_getElem? (i := 127) rfl) (pV_cons (List.mem_of_getElem? (i := 128) rfl) (pV_nil))), f_254_118⟩
theorem q_254_119 : pQ_254 u_254_119 := ⟨_, _, _, _, (pS_cons ok_201 (pS_nil)), (pV_cons (List.mem_of_getElem? (i := 127) rfl) (pV_cons (List.mem_of_getElem? (i := 130) rfl) (pV_nil))), f_254_119⟩
theorem q_254_120 : pQ_254 u_254_120 := ⟨_, _, _, _, (pS_nil), (pV_cons (List.mem_of_getElem? (i := 131) rfl) (pV_nil)), f_254_120⟩
theorem q_254_121 : pQ_254 u_254_121 := ⟨_, _, _, _, (pS_nil), (pV_cons (List.mem_of_getElem? (i := 132) rfl) (pV_nil)), f_254_121⟩
theorem q_254_122 : pQ_254 u_254_122 := ⟨_, _, _, _, (pS_nil), (pV_nil), f_254_122⟩
theorem q_254_123 : pQ_254 u_254_123 := ⟨_, _, _, _, (pS_nil), (pV_nil), f_254_123⟩
theorem q_254_124 : pQ_254 u_254_124 := ⟨_, _, _, _, (pS_nil), (pV_cons (List.mem_of_getElem? (i := 133) rfl) (pV_nil)), f_254_124⟩
theorem q_254_125 : pQ_254 u_254_125 := ⟨_, _, _, _, (pS_nil), (pV_cons (List.mem_of_getElem? (i := 134) rfl) (pV_nil)), f_254_125⟩
theorem q_254_126 : pQ_254 u_254_126 := ⟨_, _, _, _, (pS_nil), (pV_cons (List.mem_of_getElem? (i := 135) rfl) (pV_nil)), f_254_126⟩
theorem q_254_127 : pQ_254 u_254_127 := ⟨_, _, _, _, (pS_cons ok_113 (pS_cons ok_250 (pS_nil))), (pV_cons (List.mem_of_getElem? (i := 117) rfl) (pV_cons (List.mem_of_getElem? (i := 137) rfl) (pV_nil))), f_254_127⟩
theorem q_254_128 : pQ_254 u_254_128 := ⟨_, _, _, _, (pS_cons ok_113 (pS_cons ok_250 (pS_nil))), (pV_cons (List.mem_of_getElem? (i := 117) rfl) (pV_cons (List.mem_of_getElem? (i := 137) rfl) (pV_nil))), f_254_128⟩
theorem q_254_129 : pQ_254 u_254_129 := ⟨_, _, _, _, (pS_cons ok_113 (pS_cons ok_250 (pS_nil))), (pV_cons (List.mem_of_getElem? (i := 117) rfl) (pV_cons (List.mem_of_getElem? (i := 137) rfl) (pV_nil))), f_254_129⟩
theorem q_254_130 : pQ_254 u_254_130 := ⟨_, _, _, _, (pS_cons ok_113 (pS_cons ok_250 (pS_nil))), (pV_cons (List.mem_of_getElem? (i := 117) rfl) (pV_cons (List.mem_of_getElem? (i := 137) rfl) (pV_nil))), f_254_130⟩
theorem q_254_131 : pQ_254 u_254_131 := ⟨_, _, _, _, (pS_nil), (pV_cons (List.mem_of_getElem? (i := 140) rfl) (pV_nil)), f_254_131⟩
theorem q_254_132 : pQ_254 u_254_132 := ⟨_, _, _, _, (pS_cons ok_178 (pS_cons ok_186 (pS_cons ok_187 (pS_cons ok_253 (pS_nil))))), (pV_cons (List.mem_of_getElem? (i := 141) rfl) (pV_nil)), f_254_132⟩
theorem q_254_133 : pQ_254 u_254_133 := ⟨_, _, _, _, (pS_nil), (pV_cons (List.mem_of_getElem? (i := 142) rfl) (pV_nil)), f_254_133⟩
theorem q_254_134 : pQ_254 u_254_134 := ⟨_, _, _, _, (pS_nil), (pV_cons (List.mem_of_getElem? (i := 143) rfl) (pV_nil)), f_254_134⟩
theorem q_254_135 : pQ_254 u_254_135 := ⟨_, _, _, _, (pS_nil), (pV_cons (List.mem_of_getElem? (i := 144) rfl) (pV_nil)), f_254_135⟩
theorem q_254_136 : pQ_254 u_254_136 := ⟨_, _, _, _, (pS_nil), (pV_cons (List.mem_of_getElem? (i := 126) rfl) (pV_nil)), f_254_136⟩
theorem q_254_137 : pQ_254 u_254_137 := ⟨_, _, _, _, (pS_nil), (pV_cons (List.mem_of_getElem? (i := 131) rfl) (pV_nil)), f_254_137⟩
theorem q_254_138 : pQ_254 u_254_138 := ⟨_, _, _, _, (pS_nil), (pV_cons (List.mem_of_getElem? (i := 126) rfl) (pV_nil)), f_254_138⟩
theorem q_254_139 : pQ_254 u_254_139 := ⟨_, _, _, _, (pS_nil), (pV_cons (List.mem_of_getElem? (i := 131) rfl) (pV_nil)), f_254_139⟩
theorem q_254_140 : pQ_254 u_254_140 := ⟨_, _, _, _, (pS_nil), (pV_cons (List.mem_of_getElem? (i := 145) rfl) (pV_nil)), f_254_140⟩
theorem q_254_141 : pQ_254 u_254_141 := ⟨_, _, _, _, (pS_nil), (pV_cons (List.mem_of_getElem? (i := 146) rfl) (pV_nil)), f_254_141⟩
theorem q_254_142 : pQ_254 u_254_142 := ⟨_, _, _, _, (pS_nil), (pV_cons (List.mem_of_getElem? (i := 147) rfl) (pV_nil)), f_254_142⟩
theorem q_254_143 : pQ_254 u_254_143 := ⟨_, _, _, _, (pS_nil), (pV_cons (List.mem_of_getElem? (i := 148) rfl) (pV_nil)), f_254_143⟩
theorem q_254_144 : pQ_254 u_254_144 := ⟨_, _, _, _, (pS_nil), (pV_cons (List.mem_of_getElem? (i := 149) rfl) (pV_nil)), f_254_144⟩
theorem q_254_145 : pQ_254 u_254_145 := ⟨_, _, _, _, (pS_nil), (pV_cons (List.mem_of_getElem? (i := 150) rfl) (pV_nil)), f_254_145⟩
theorem q_254_146 : pQ_254 u_254_146 := ⟨_, _, _, _, (pS_nil), (pV_cons (List.mem_of_getElem? (i := 151) rfl) (pV_nil)), f_254_146⟩
theorem q_254_147 : pQ_254 u_254_147 := ⟨_, _, _, _, (pS_nil), (pV_nil), f_254_147⟩
theorem q_254_148 : pQ_254 u_254_148 := ⟨_, _, _, _, (pS_nil), (pV_nil), f_254_148⟩
theorem q_254_149 : pQ_254 u_254_149 := ⟨_, _, _, _, (pS_nil), (pV_cons (List.mem_of_getElem? (i := 152) rfl) (pV_nil)), f_254_149⟩
theorem q_254_150 : pQ_254 u_254_150 := ⟨_, _, _, _, (pS_nil), (pV_cons (List.mem_of_getElem? (i := 153) rfl) (pV_nil)), f_254_150⟩
theorem q_254_151 : pQ_254 u_254_151 := ⟨_, _, _, _, (pS_nil), (pV_cons (List.mem_of_getElem? (i := 154) rfl) (pV_nil)), f_254_151⟩
theorem q_254_152 : pQ_254 u_254_152 := ⟨_, _, _, _, (pS_nil), (pV_cons (List.mem_of_getElem? (i := 155) rfl) (pV_nil)), f_254_152⟩
theorem q_254_153 : pQ_254 u_254_153 := ⟨_, _, _, _, (pS_nil), (pV_cons (List.mem_of_getElem? (i := 156) rfl) (pV_nil)), f_254_153⟩
theorem q_254_154 : pQ_254 u_254_154 := ⟨_, _, _, _, (pS_nil), (pV_cons (List.mem_of_getElem? (i := 157) rfl) (pV_nil)), f_254_154⟩
theorem q_254_155 : pQ_254 u_254_155 := ⟨_, _, _, _, (pS_nil), (pV_cons (List.mem_of_getElem? (i := 158) rfl) (pV_nil)), f_254_155⟩
theorem q_254_156 : pQ_254 u_254_156 := ⟨_, _, _, _, (pS_nil), (pV_cons (List.mem_of_getElem? (i := 159) rfl) (pV_nil)), f_254_156⟩
theorem q_254_157 : pQ_254 u_254_157 := ⟨_, _, _, _, (pS_nil), (pV_cons (List.mem_of_getElem? (i := 160) rfl) (pV_nil)), f_254_157⟩
theorem q_254_158 : pQ_254 u_254_158 := ⟨_, _, _, _, (pS_nil), (pV_nil), f_254_158⟩
theorem q_254_159 : pQ_254 u_254_159 := ⟨_, _, _, _, (pS_nil), (pV_nil), f_254_159⟩
theorem q_254_160 : pQ_254 u_254_160 := ⟨_, _, _, _, (pS_nil), (pV_cons (List.mem_of_getElem? (i := 161) rfl) (pV_nil)), f_254_160⟩
theorem q_254_161 : pQ_254 u_254_161 := ⟨_, _, _, _, (pS_nil), (pV_cons (List.mem_of_getElem? (i := 162) rfl) (pV_nil)), f_254_161⟩
theorem q_254_162 : pQ_254 u_254_162 := ⟨_, _, _, _, (pS_nil), (pV_cons (List.mem_of_getElem? (i := 163) rfl) (pV_nil)), f_254_162⟩
theorem q_254_163 : pQ_254 u_254_163 := ⟨_, _, _, _, (pS_nil), (pV_nil), f_254_163⟩
theorem qb_254_0 : ∀ u ∈ [u_254_0, u_254_1, u_254_2, u_254_3, u_254_4, u_254_5, u_254_6, u_254_7, u_254_8, u_254_9], pQ_254 u := pU_cons q_254_0 (pU_cons q_254_1 (pU_cons q_254_2 (pU_cons q_254_3 (pU_cons q_254_4 (pU_cons q_254_5 (pU_cons q_254_6 (pU_cons q_254_7 (pU_cons q_254_8 (pU_cons q_254_9 (pU_nil))))))))))
theorem qb_254_1 : ∀ u ∈ [u_254_10, u_254_11, u_254_12, u_254_13, u_254_14, u_254_15, u_254_16, u_254_17, u_254_18, u_254_19], pQ_254 u := pU_cons q_254_10 (pU_cons q_254_11 (pU_cons q_254_12 (pU_cons q_254_13 (pU_cons q_254_14 (pU_cons q_254_15 (pU_cons q_254_16 (pU_cons q_254_17 (pU_cons q_254_18 (pU_cons q_254_19 (pU_nil))))))))))
theorem qb_254_2 : ∀ u ∈ [u_254_20, u_254_21, u_254_22, u_254_23, u_254_24, u_254_25, u_254_26, u_254_27, u_254_28, u_254_29], pQ_254 u := pU_cons q_254_20 (pU_cons q_254_21 (pU_cons q_254_22 (pU_cons q_254_23 (pU_cons q_254_24 (pU_cons q_254_25 (pU_cons q_254_26 (pU_cons q_254_27 (pU_cons q_254_28 (pU_cons q_254_29 (pU_nil))))))))))
theorem qb_254_3 : ∀ u ∈ [u_254_30, u_254_31, u_254_32, u_254_33, u_254_34, u_254_35, u_254_36, u_254_37, u_254_38, u_254_39], pQ_254 u := pU_cons q_254_30 (pU_cons q_254_31 (pU_cons q_254_32 (pU_cons q_254_33 (pU_cons q_254_34 (pU_cons q_254_35 (pU_cons q_254_36 (pU_cons q_254_37 (pU_cons q_254_38 (pU_cons q_254_39 (pU_nil))))))))))
theorem qb_254_4 : ∀ u ∈ [u_254_40, u_254_41, u_254_42, u_254_43, u_254_44, u_254_45, u_254_46, u_254_47, u_254_48, u_254_49], pQ_254 u := pU_cons q_254_40 (pU_cons q_254_41 (pU_cons q_254_42 (pU_cons q_254_43 (pU_cons q_254_44 (pU_cons q_254_45 (pU_cons q_254_46 (pU_cons q_254_47 (pU_cons q_254_48 (pU_cons q_254_49 (pU_nil))))))))))
theorem qb_254_5 : ∀ u ∈ [u_254_50, u_254_51, u_254_52, u_254_53, u_254_54, u_254_55, u_254_56, u_254_57, u_254_58, u_254_59], pQ_254 u := pU_cons q_254_50 (pU_cons q_254_51 (pU_cons q_254_52 (pU_cons q_254_53 (pU_cons q_254_54 (pU_cons q_254_55 (pU_cons q_254_56 (pU_cons q_254_57 (pU_cons q_254_58 (pU_cons q_254_59 (pU_nil))))))))))
theorem qb_254_6 : ∀ u ∈ [u_254_60, u_254_61, u_254_62, u_254_63, u_254_64, u_254_65, u_254_66, u_254_67, u_254_68, u_254_69], pQ_254 u := pU_cons q_254_60 (pU_cons q_254_61 (pU_cons q_254_62 (pU_cons q_254_63 (pU_cons q_254_64 (pU_cons q_254_65 (pU_cons q_254_66 (pU_cons q_254_67 (pU_cons q_254_68 (pU_cons q_254_69 (pU_nil))))))))))
theorem qb_254_7 : ∀ u ∈ [u_254_70, u_254_71, u_254_72, u_254_73, u_254_74, u_254_75, u_254_76, u_254_77, u_254_78, u_254_79], pQ_254 u := pU_cons q_254_70 (pU_cons q_254_71 (pU_cons q_254_72 (pU_cons q_254_73 (pU_cons q_254_74 (pU_cons q_254_75 (pU_cons q_254_76 (pU_cons q_254_77 (pU_cons q_254_78 (pU_cons q_254_79 (pU_nil))))))))))
theorem qb_254_8 : ∀ u ∈ [u_254_80, u_254_81, u_254_82, u_254_83, u_254_84, u_254_85, u_254_86, u_254_87, u_254_88, u_254_89], pQ_254 u := pU_cons q_254_80 (pU_cons q_254_81 (pU_cons q_254_82 (pU_cons q_254_83 (pU_cons q_254_84 (pU_cons q_254_85 (pU_cons q_254_86 (pU_cons q_254_87 (pU_cons q_254_88 (pU_cons q_254_89 (pU_nil))))))))))
theorem qb_254_9 : ∀ u ∈ [u_254_90, u_254_91, u_254_92, u_254_93, u_254_94, u_254_95, u_254_96, u_254_97, u_254_98, u_254_99], pQ_254 u := pU_cons q_254_90 (pU_cons q_254_91 (pU_cons q_254_92 (pU_cons q_254_93 (pU_cons q_254_94 (pU_cons q_254_95 (pU_cons q_254_96 (pU_cons q_254_97 (pU_cons q_254_98 (pU_cons q_254_99 (pU_nil))))))))))
theorem qb_254_10 : ∀ u ∈ [u_254_100, u_254_101, u_254_102, u_254_103, u_254_104, u_254_105, u_254_106, u_254_107, u_254_108, u_254_109], pQ_254 u := pU_cons q_254_100 (pU_cons q_254_101 (pU_cons q_254_102 (pU_cons q_254_103 (pU_cons q_254_104 (pU_cons q_254_105 (pU_cons q_254_106 (pU_cons q_254_107 (pU_cons q_254_108 (pU_cons q_254_109 (pU_nil))))))))))
theorem qb_254_11 : ∀ u ∈ [u_254_110, u_254_111, u_254_112, u_254_113, u_254_114, u_254_115, u_254_116, u_254_117, u_254_118, u_254_119], pQ_254 u := pU_cons q_254_110 (pU_cons q_254_111 (pU_cons q_254_112 (pU_cons q_254_113 (pU_cons q_254_114 (pU_cons q_254_115 (pU_cons q_254_116 (pU_cons q_254_117 (pU_cons q_254_118 (pU_cons q_254_119 (pU_nil))))))))))
theorem qb_254_12 : ∀ u ∈ [u_254_120, u_254_121, u_254_122, u_254_123, u_254_124, u_254_125, u_254_126, u_254_127, u_254_128, u_254_129], pQ_254 u := pU_cons q_254_120 (pU_cons q_254_121 (pU_cons q_254_122 (pU_cons q_254_123 (pU_cons q_254_124 (pU_cons q_254_125 (pU_cons q_254_126 (pU_cons q_254_127 (pU_cons q_254_128 (pU_cons q_254_129 (pU_nil))))))))))
theorem qb_254_13 : ∀ u ∈ [u_254_130, u_254_131, u_254_132, u_254_133, u_254_134, u_254_135, u_254_136, u_254_137, u_254_138, u_254_139], pQ_254 u := pU_cons q_254_130 (pU_cons q_254_131 (pU_cons q_254_132 (pU_cons q_254_133 (pU_cons q_254_134 (pU_cons q_254_135 (pU_cons q_254_136 (pU_cons q_254_137 (pU_cons q_254_138 (pU_cons q_254_139 (pU_nil))))))))))
theorem qb_254_14 : ∀ u ∈ [u_254_140, u_254_141, u_254_142, u_254_143, u_254_144, u_254_145, u_254_146, u_254_147, u_254_148, u_254_149], pQ_254 u := pU_cons q_254_140 (pU_cons q_254_141 (pU_cons q_254_142 (pU_cons q_254_143 (pU_cons q_254_144 (pU_cons q_254_145 (pU_cons q_254_146 (pU_cons q_254_147 (pU_cons q_254_148 (pU_cons q_254_149 (pU_nil))))))))))
theorem qb_254_15 : ∀ u ∈ [u_254_150, u_254_151, u_254_152, u_254_153, u_254_154, u_254_155, u_254_156, u_254_157, u_254_158, u_254_159], pQ_254 u := pU_cons q_254_150 (pU_cons q_254_151 (pU_cons q_254_152 (pU_cons q_254_153 (pU_cons q_254_154 (pU_cons q_254_155 (pU_cons q_254_156 (pU_cons q_254_157 (pU_cons q_254_158 (pU_cons q_254_159 (pU_nil))))))))))
theorem qb_254_16 : ∀ u ∈ [u_254_160, u_254_161, u_254_162, u_254_163], pQ_254 u := pU_cons q_254_160 (pU_cons q_254_161 (pU_cons q_254_162 (pU_cons q_254_163 (pU_nil))))
theorem ok_254 : sInOk pPT i_254 := sInst3 (M := pm_94) (cus := us_254) pOk pg_94 (by decide +kernel) ⟨_, _, _, _, (pS_nil), (pV_cons (List.mem_of_getElem? (i := 0) rfl) (pV_nil)), e_254⟩ (show ∀ u ∈ us_254, pQ_254 u from (pU_app qb_254_0 (pU_app qb_254_1 (pU_app qb_254_2 (pU_app qb_254_3 (pU_app qb_254_4 (pU_app qb_254_5 (pU_app qb_254_6 (pU_app qb_254_7 (pU_app qb_254_8 (pU_app qb_254_9 (pU_app qb_254_10 (pU_app qb_254_11 (pU_app qb_254_12 (pU_app qb_254_13 (pU_app qb_254_14 (pU_app qb_254_15 qb_254_16)))))))))))))))))
def pQ_255 (u : sCu) : Prop := ∃ (SM : List sIn) (H : gHt) (cu : List sCu) (n : Nat), (∀ I ∈ SM, sInOk pPT I) ∧ (∀ v ∈ cu, v ∈ us_255) ∧ sWhU pPT SM H i_255 (mR pm_91) cu n u = true
theorem q_255_0 : pQ_255 u_255_0 := ⟨_, _, _, _, (pS_cons ok_189 (pS_nil)), (pV_nil), f_255_0⟩
theorem q_255_1 : pQ_255 u_255_1 := ⟨_, _, _, _, (pS_cons ok_113 (pS_cons ok_207 (pS_cons ok_254 (pS_nil)))), (pV_cons (List.mem_of_getElem? (i := 0) rfl) (pV_cons (List.mem_of_getElem? (i := 1) rfl) (pV_nil))), f_255_1⟩
theorem qb_255_0 : ∀ u ∈ [u_255_0, u_255_1], pQ_255 u := pU_cons q_255_0 (pU_cons q_255_1 (pU_nil))
theorem ok_255 : sInOk pPT i_255 := sInst3 (M := pm_91) (cus := us_255) pOk pg_91 (by decide +kernel) ⟨_, _, _, _, (pS_cons ok_254 (pS_nil)), (pV_cons (List.mem_of_getElem? (i := 0) rfl) (pV_cons (List.mem_of_getElem? (i := 1) rfl) (pV_nil))), e_255⟩ (show ∀ u ∈ us_255, pQ_255 u from qb_255_0)
def pQ_256 (u : sCu) : Prop := ∃ (SM : List sIn) (H : gHt) (cu : List sCu) (n : Nat), (∀ I ∈ SM, sInOk pPT I) ∧ (∀ v ∈ cu, v ∈ us_256) ∧ sWhU pPT SM H i_256 (mR pm_94) cu n u = true
theorem q_256_0 : pQ_256 u_256_0 := ⟨_, _, _, _, (pS_cons ok_178 (pS_cons ok_186 (pS_cons ok_187 (pS_cons ok_253 (pS_nil))))), (pV_cons (List.mem_of_getElem? (i := 1) rfl) (pV_nil)), f_256_0⟩
theorem q_256_1 : pQ_256 u_256_1 := ⟨_, _, _, _, (pS_nil), (pV_cons (List.mem_of_getElem? (i := 2) rfl) (pV_nil)), f_256_1⟩
theorem q_256_2 : pQ_256 u_256_2 := ⟨_, _, _, _, (pS_nil), (pV_nil), f_256_2⟩
theorem qb_256_0 : ∀ u ∈ [u_256_0, u_256_1, u_256_2], pQ_256 u := pU_cons q_256_0 (pU_cons q_256_1 (pU_cons q_256_2 (pU_nil)))
theorem ok_256 : sInOk pPT i_256 := sInst3 (M := pm_94) (cus := us_256) pOk pg_94 (by decide +kernel) ⟨_, _, _, _, (pS_nil), (pV_cons (List.mem_of_getElem? (i := 0) rfl) (pV_nil)), e_256⟩ (show ∀ u ∈ us_256, pQ_256 u from qb_256_0)
def pQ_257 (u : sCu) : Prop := ∃ (SM : List sIn) (H : gHt) (cu : List sCu) (n : Nat), (∀ I ∈ SM, sInOk pPT I) ∧ (∀ v ∈ cu, v ∈ us_257) ∧ sWhU pPT SM H i_257 (mR pm_91) cu n u = true
theorem q_257_0 : pQ_257 u_257_0 := ⟨_, _, _, _, (pS_cons ok_189 (pS_nil)), (pV_nil), f_257_0⟩
theorem qb_257_0 : ∀ u ∈ [u_257_0], pQ_257 u := pU_cons q_257_0 (pU_nil)
theorem ok_257 : sInOk pPT i_257 := sInst3 (M := pm_91) (cus := us_257) pOk pg_91 (by decide +kernel) ⟨_, _, _, _, (pS_cons ok_256 (pS_nil)), (pV_cons (List.mem_of_getElem? (i := 0) rfl) (pV_nil)), e_257⟩ (show ∀ u ∈ us_257, pQ_257 u from qb_257_0)
def pQ_258 (u : sCu) : Prop := ∃ (SM : List sIn) (H : gHt) (cu : List sCu) (n : Nat), (∀ I ∈ SM, sInOk pPT I) ∧ (∀ v ∈ cu, v ∈ us_258) ∧ sWhU pPT SM H i_258 (mR pm_92) cu n u = true
theorem q_258_0 : pQ_258 u_258_0 := ⟨_, _, _, _, (pS_cons ok_255 (pS_nil)), (pV_cons (List.mem_of_getElem? (i := 2) rfl) (pV_cons (List.mem_of_getElem? (i := 3) rfl) (pV_nil))), f_258_0⟩
theorem q_258_1 : pQ_258 u_258_1 := ⟨_, _, _, _, (pS_cons ok_257 (pS_nil)), (pV_cons (List.mem_of_getElem? (i := 2) rfl) (pV_nil)), f_258_1⟩
theorem q_258_2 : pQ_258 u_258_2 := ⟨_, _, _, _, (pS_cons ok_191 (pS_nil)), (pV_nil), f_258_2⟩
theorem q_258_3 : pQ_258 u_258_3 := ⟨_, _, _, _, (pS_cons ok_113 (pS_cons ok_211 (pS_cons ok_255 (pS_nil)))), (pV_cons (List.mem_of_getElem? (i := 2) rfl) (pV_cons (List.mem_of_getElem? (i := 3) rfl) (pV_nil))), f_258_3⟩
theorem qb_258_0 : ∀ u ∈ [u_258_0, u_258_1, u_258_2, u_258_3], pQ_258 u := pU_cons q_258_0 (pU_cons q_258_1 (pU_cons q_258_2 (pU_cons q_258_3 (pU_nil))))
theorem ok_258 : sInOk pPT i_258 := sInst3 (M := pm_92) (cus := us_258) pOk pg_92 (by decide +kernel) ⟨_, _, _, _, (pS_cons ok_159 (pS_nil)), (pV_cons (List.mem_of_getElem? (i := 0) rfl) (pV_cons (List.mem_of_getElem? (i := 1) rfl) (pV_nil))), e_258⟩ (show ∀ u ∈ us_258, pQ_258 u from qb_258_0)
theorem ok_259 : sInOk pPT i_259 := sInst3 (M := pm_96) (cus := []) pOk pg_96 (by decide +kernel) ⟨_, _, _, _, (pS_cons ok_113 (pS_cons ok_161 (pS_cons ok_162 (pS_cons ok_163 (pS_cons ok_172 (pS_cons ok_193 (pS_cons ok_214 (pS_cons ok_258 (pS_nil))))))))), pV_nil, e_259⟩ pU_nil
def pQ_260 (u : sCu) : Prop := ∃ (SM : List sIn) (H : gHt) (cu : List sCu) (n : Nat), (∀ I ∈ SM, sInOk pPT I) ∧ (∀ v ∈ cu, v ∈ us_260) ∧ sWhU pPT SM H i_260 (mR pm_97) cu n u = true
theorem q_260_0 : pQ_260 u_260_0 := ⟨_, _, _, _, (pS_cons ok_180 (pS_cons ok_181 (pS_nil))), (pV_nil), f_260_0⟩
theorem q_260_1 : pQ_260 u_260_1 := ⟨_, _, _, _, (pS_cons ok_195 (pS_cons ok_196 (pS_nil))), (pV_cons (List.mem_of_getElem? (i := 2) rfl) (pV_cons (List.mem_of_getElem? (i := 3) rfl) (pV_nil))), f_260_1⟩
theorem q_260_2 : pQ_260 u_260_2 := ⟨_, _, _, _, (pS_cons ok_195 (pS_nil)), (pV_cons (List.mem_of_getElem? (i := 4) rfl) (pV_cons (List.mem_of_getElem? (i := 5) rfl) (pV_nil))), f_260_2⟩
theorem q_260_3 : pQ_260 u_260_3 := ⟨_, _, _, _, (pS_cons ok_195 (pS_nil)), (pV_cons (List.mem_of_getElem? (i := 6) rfl) (pV_cons (List.mem_of_getElem? (i := 7) rfl) (pV_nil))), f_260_3⟩
theorem q_260_4 : pQ_260 u_260_4 := ⟨_, _, _, _, (pS_cons ok_113 (pS_cons ok_259 (pS_nil))), (pV_cons (List.mem_of_getElem? (i := 0) rfl) (pV_cons (List.mem_of_getElem? (i := 1) rfl) (pV_nil))), f_260_4⟩
theorem q_260_5 : pQ_260 u_260_5 := ⟨_, _, _, _, (pS_cons ok_113 (pS_cons ok_259 (pS_nil))), (pV_cons (List.mem_of_getElem? (i := 0) rfl) (pV_cons (List.mem_of_getElem? (i := 1) rfl) (pV_nil))), f_260_5⟩
theorem q_260_6 : pQ_260 u_260_6 := ⟨_, _, _, _, (pS_cons ok_113 (pS_cons ok_259 (pS_nil))), (pV_cons (List.mem_of_getElem? (i := 0) rfl) (pV_cons (List.mem_of_getElem? (i := 1) rfl) (pV_nil))), f_260_6⟩
theorem q_260_7 : pQ_260 u_260_7 := ⟨_, _, _, _, (pS_cons ok_113 (pS_cons ok_259 (pS_nil))), (pV_cons (List.mem_of_getElem? (i := 0) rfl) (pV_cons (List.mem_of_getElem? (i := 1) rfl) (pV_nil))), f_260_7⟩
theorem qb_260_0 : ∀ u ∈ [u_260_0, u_260_1, u_260_2, u_260_3, u_260_4, u_260_5, u_260_6, u_260_7], pQ_260 u := pU_cons q_260_0 (pU_cons q_260_1 (pU_cons q_260_2 (pU_cons q_260_3 (pU_cons q_260_4 (pU_cons q_260_5 (pU_cons q_260_6 (pU_cons q_260_7 (pU_nil))))))))
theorem ok_260 : sInOk pPT i_260 := sInst3 (M := pm_97) (cus := us_260) pOk pg_97 (by decide +kernel) ⟨_, _, _, _, (pS_cons ok_259 (pS_nil)), (pV_cons (List.mem_of_getElem? (i := 0) rfl) (pV_cons (List.mem_of_getElem? (i := 1) rfl) (pV_nil))), e_260⟩ (show ∀ u ∈ us_260, pQ_260 u from qb_260_0)
def pQ_261 (u : sCu) : Prop := ∃ (SM : List sIn) (H : gHt) (cu : List sCu) (n : Nat), (∀ I ∈ SM, sInOk pPT I) ∧ (∀ v ∈ cu, v ∈ us_261) ∧ sWhU pPT SM H i_261 (mR pm_98) cu n u = true
theorem q_261_0 : pQ_261 u_261_0 := ⟨_, _, _, _, (pS_cons ok_183 (pS_cons ok_184 (pS_nil))), (pV_nil), f_261_0⟩
theorem q_261_1 : pQ_261 u_261_1 := ⟨_, _, _, _, (pS_cons ok_198 (pS_cons ok_199 (pS_nil))), (pV_cons (List.mem_of_getElem? (i := 2) rfl) (pV_cons (List.mem_of_getElem? (i := 3) rfl) (pV_nil))), f_261_1⟩
theorem q_261_2 : pQ_261 u_261_2 := ⟨_, _, _, _, (pS_cons ok_198 (pS_nil)), (pV_cons (List.mem_of_getElem? (i := 4) rfl) (pV_cons (List.mem_of_getElem? (i := 5) rfl) (pV_nil))), f_261_2⟩
theorem q_261_3 : pQ_261 u_261_3 := ⟨_, _, _, _, (pS_cons ok_198 (pS_nil)), (pV_cons (List.mem_of_getElem? (i := 6) rfl) (pV_cons (List.mem_of_getElem? (i := 7) rfl) (pV_nil))), f_261_3⟩
theorem q_261_4 : pQ_261 u_261_4 := ⟨_, _, _, _, (pS_cons ok_113 (pS_cons ok_260 (pS_nil))), (pV_cons (List.mem_of_getElem? (i := 0) rfl) (pV_cons (List.mem_of_getElem? (i := 1) rfl) (pV_nil))), f_261_4⟩
theorem q_261_5 : pQ_261 u_261_5 := ⟨_, _, _, _, (pS_cons ok_113 (pS_cons ok_260 (pS_nil))), (pV_cons (List.mem_of_getElem? (i := 0) rfl) (pV_cons (List.mem_of_getElem? (i := 1) rfl) (pV_nil))), f_261_5⟩
theorem q_261_6 : pQ_261 u_261_6 := ⟨_, _, _, _, (pS_cons ok_113 (pS_cons ok_260 (pS_nil))), (pV_cons (List.mem_of_getElem? (i := 0) rfl) (pV_cons (List.mem_of_getElem? (i := 1) rfl) (pV_nil))), f_261_6⟩
theorem q_261_7 : pQ_261 u_261_7 := ⟨_, _, _, _, (pS_cons ok_113 (pS_cons ok_260 (pS_nil))), (pV_cons (List.mem_of_getElem? (i := 0) rfl) (pV_cons (List.mem_of_getElem? (i := 1) rfl) (pV_nil))), f_261_7⟩
theorem qb_261_0 : ∀ u ∈ [u_261_0, u_261_1, u_261_2, u_261_3, u_261_4, u_261_5, u_261_6, u_261_7], pQ_261 u := pU_cons q_261_0 (pU_cons q_261_1 (pU_cons q_261_2 (pU_cons q_261_3 (pU_cons q_261_4 (pU_cons q_261_5 (pU_cons q_261_6 (pU_cons q_261_7 (pU_nil))))))))
theorem ok_261 : sInOk pPT i_261 := sInst3 (M := pm_98) (cus := us_261) pOk pg_98 (by decide +kernel) ⟨_, _, _, _, (pS_cons ok_260 (pS_nil)), (pV_cons (List.mem_of_getElem? (i := 0) rfl) (pV_cons (List.mem_of_getElem? (i := 1) rfl) (pV_nil))), e_261⟩ (show ∀ u ∈ us_261, pQ_261 u from qb_261_0)
theorem ok_262 : sInOk pPT i_262 := sInst3 (M := pm_96) (cus := []) pOk pg_96 (by decide +kernel) ⟨_, _, _, _, (pS_nil), pV_nil, e_262⟩ pU_nil
def pQ_263 (u : sCu) : Prop := ∃ (SM : List sIn) (H : gHt) (cu : List sCu) (n : Nat), (∀ I ∈ SM, sInOk pPT I) ∧ (∀ v ∈ cu, v ∈ us_263) ∧ sWhU pPT SM H i_263 (mR pm_97) cu n u = true
theorem q_263_0 : pQ_263 u_263_0 := ⟨_, _, _, _, (pS_cons ok_180 (pS_cons ok_181 (pS_nil))), (pV_nil), f_263_0⟩
theorem qb_263_0 : ∀ u ∈ [u_263_0], pQ_263 u := pU_cons q_263_0 (pU_nil)
theorem ok_263 : sInOk pPT i_263 := sInst3 (M := pm_97) (cus := us_263) pOk pg_97 (by decide +kernel) ⟨_, _, _, _, (pS_cons ok_262 (pS_nil)), (pV_cons (List.mem_of_getElem? (i := 0) rfl) (pV_nil)), e_263⟩ (show ∀ u ∈ us_263, pQ_263 u from qb_263_0)
def pQ_264 (u : sCu) : Prop := ∃ (SM : List sIn) (H : gHt) (cu : List sCu) (n : Nat), (∀ I ∈ SM, sInOk pPT I) ∧ (∀ v ∈ cu, v ∈ us_264) ∧ sWhU pPT SM H i_264 (mR pm_98) cu n u = true
theorem q_264_0 : pQ_264 u_264_0 := ⟨_, _, _, _, (pS_cons ok_183 (pS_cons ok_184 (pS_nil))), (pV_nil), f_264_0⟩
theorem qb_264_0 : ∀ u ∈ [u_264_0], pQ_264 u := pU_cons q_264_0 (pU_nil)
theorem ok_264 : sInOk pPT i_264 := sInst3 (M := pm_98) (cus := us_264) pOk pg_98 (by decide +kernel) ⟨_, _, _, _, (pS_cons ok_263 (pS_nil)), (pV_cons (List.mem_of_getElem? (i := 0) rfl) (pV_nil)), e_264⟩ (show ∀ u ∈ us_264, pQ_264 u from qb_264_0)
def pQ_265 (u : sCu) : Prop := ∃ (SM : List sIn) (H : gHt) (cu : List sCu) (n : Nat), (∀ I ∈ SM, sInOk pPT I) ∧ (∀ v ∈ cu, v ∈ us_265) ∧ sWhU pPT SM H i_265 (mR pm_94) cu n u = true
theorem q_265_0 : pQ_265 u_265_0 := ⟨_, _, _, _, (pS_cons ok_160 (pS_cons ok_186 (pS_cons ok_187 (pS_cons ok_201 (pS_cons ok_202 (pS_cons ok_261 (pS_nil))))))), (pV_cons (List.mem_of_getElem? (i := 1) rfl) (pV_cons (List.mem_of_getElem? (i := 2) rfl) (pV_cons (List.mem_of_getElem? (i := 3) rfl) (pV_cons (List.mem_of_getElem? (i := 4) rfl) (pV_cons (List.mem_of_getElem? (i := 5) rfl) (pV_nil)))))), f_265_0⟩
theorem q_265_1 : pQ_265 u_265_1 := ⟨_, _, _, _, (pS_nil), (pV_cons (List.mem_of_getElem? (i := 6) rfl) (pV_nil)), f_265_1⟩
theorem q_265_2 : pQ_265 u_265_2 := ⟨_, _, _, _, (pS_cons ok_201 (pS_nil)), (pV_cons (List.mem_of_getElem? (i := 7) rfl) (pV_cons (List.mem_of_getElem? (i := 8) rfl) (pV_nil))), f_265_2⟩
theorem q_265_3 : pQ_265 u_265_3 := ⟨_, _, _, _, (pS_cons ok_201 (pS_nil)), (pV_cons (List.mem_of_getElem? (i := 7) rfl) (pV_cons (List.mem_of_getElem? (i := 10) rfl) (pV_nil))), f_265_3⟩
theorem q_265_4 : pQ_265 u_265_4 := ⟨_, _, _, _, (pS_nil), (pV_cons (List.mem_of_getElem? (i := 11) rfl) (pV_nil)), f_265_4⟩
theorem q_265_5 : pQ_265 u_265_5 := ⟨_, _, _, _, (pS_cons ok_113 (pS_nil)), (pV_cons (List.mem_of_getElem? (i := 12) rfl) (pV_nil)), f_265_5⟩
theorem q_265_6 : pQ_265 u_265_6 := ⟨_, _, _, _, (pS_nil), (pV_nil), f_265_6⟩
theorem q_265_7 : pQ_265 u_265_7 := ⟨_, _, _, _, (pS_cons ok_113 (pS_cons ok_261 (pS_nil))), (pV_cons (List.mem_of_getElem? (i := 1) rfl) (pV_cons (List.mem_of_getElem? (i := 14) rfl) (pV_nil))), f_265_7⟩
theorem q_265_8 : pQ_265 u_265_8 := ⟨_, _, _, _, (pS_cons ok_113 (pS_cons ok_261 (pS_nil))), (pV_cons (List.mem_of_getElem? (i := 1) rfl) (pV_cons (List.mem_of_getElem? (i := 14) rfl) (pV_nil))), f_265_8⟩
theorem q_265_9 : pQ_265 u_265_9 := ⟨_, _, _, _, (pS_cons ok_113 (pS_cons ok_261 (pS_nil))), (pV_cons (List.mem_of_getElem? (i := 1) rfl) (pV_cons (List.mem_of_getElem? (i := 14) rfl) (pV_nil))), f_265_9⟩
theorem q_265_10 : pQ_265 u_265_10 := ⟨_, _, _, _, (pS_cons ok_113 (pS_cons ok_261 (pS_nil))), (pV_cons (List.mem_of_getElem? (i := 1) rfl) (pV_cons (List.mem_of_getElem? (i := 14) rfl) (pV_nil))), f_265_10⟩
theorem q_265_11 : pQ_265 u_265_11 := ⟨_, _, _, _, (pS_nil), (pV_nil), f_265_11⟩
theorem q_265_12 : pQ_265 u_265_12 := ⟨_, _, _, _, (pS_cons ok_160 (pS_cons ok_186 (pS_cons ok_187 (pS_cons ok_201 (pS_cons ok_202 (pS_cons ok_261 (pS_nil))))))), (pV_cons (List.mem_of_getElem? (i := 17) rfl) (pV_cons (List.mem_of_getElem? (i := 18) rfl) (pV_cons (List.mem_of_getElem? (i := 19) rfl) (pV_cons (List.mem_of_getElem? (i := 20) rfl) (pV_cons (List.mem_of_getElem? (i := 21) rfl) (pV_nil)))))), f_265_12⟩
theorem q_265_13 : pQ_265 u_265_13 := ⟨_, _, _, _, (pS_nil), (pV_cons (List.mem_of_getElem? (i := 6) rfl) (pV_nil)), f_265_13⟩
theorem q_265_14 : pQ_265 u_265_14 := ⟨_, _, _, _, (pS_nil), (pV_cons (List.mem_of_getElem? (i := 11) rfl) (pV_nil)), f_265_14⟩
theorem q_265_15 : pQ_265 u_265_15 := ⟨_, _, _, _, (pS_nil), (pV_cons (List.mem_of_getElem? (i := 6) rfl) (pV_nil)), f_265_15⟩
theorem q_265_16 : pQ_265 u_265_16 := ⟨_, _, _, _, (pS_nil), (pV_cons (List.mem_of_getElem? (i := 11) rfl) (pV_nil)), f_265_16⟩
theorem q_265_17 : pQ_265 u_265_17 := ⟨_, _, _, _, (pS_nil), (pV_cons (List.mem_of_getElem? (i := 22) rfl) (pV_nil)), f_265_17⟩
theorem q_265_18 : pQ_265 u_265_18 := ⟨_, _, _, _, (pS_cons ok_201 (pS_nil)), (pV_cons (List.mem_of_getElem? (i := 23) rfl) (pV_cons (List.mem_of_getElem? (i := 24) rfl) (pV_nil))), f_265_18⟩
theorem q_265_19 : pQ_265 u_265_19 := ⟨_, _, _, _, (pS_cons ok_201 (pS_nil)), (pV_cons (List.mem_of_getElem? (i := 23) rfl) (pV_cons (List.mem_of_getElem? (i := 26) rfl) (pV_nil))), f_265_19⟩
theorem q_265_20 : pQ_265 u_265_20 := ⟨_, _, _, _, (pS_nil), (pV_cons (List.mem_of_getElem? (i := 27) rfl) (pV_nil)), f_265_20⟩
theorem q_265_21 : pQ_265 u_265_21 := ⟨_, _, _, _, (pS_cons ok_113 (pS_nil)), (pV_cons (List.mem_of_getElem? (i := 28) rfl) (pV_nil)), f_265_21⟩
theorem q_265_22 : pQ_265 u_265_22 := ⟨_, _, _, _, (pS_nil), (pV_cons (List.mem_of_getElem? (i := 29) rfl) (pV_nil)), f_265_22⟩
theorem q_265_23 : pQ_265 u_265_23 := ⟨_, _, _, _, (pS_cons ok_113 (pS_cons ok_261 (pS_nil))), (pV_cons (List.mem_of_getElem? (i := 17) rfl) (pV_cons (List.mem_of_getElem? (i := 31) rfl) (pV_nil))), f_265_23⟩
theorem q_265_24 : pQ_265 u_265_24 := ⟨_, _, _, _, (pS_cons ok_113 (pS_cons ok_261 (pS_nil))), (pV_cons (List.mem_of_getElem? (i := 17) rfl) (pV_cons (List.mem_of_getElem? (i := 31) rfl) (pV_nil))), f_265_24⟩
theorem q_265_25 : pQ_265 u_265_25 := ⟨_, _, _, _, (pS_cons ok_113 (pS_cons ok_261 (pS_nil))), (pV_cons (List.mem_of_getElem? (i := 17) rfl) (pV_cons (List.mem_of_getElem? (i := 31) rfl) (pV_nil))), f_265_25⟩
theorem q_265_26 : pQ_265 u_265_26 := ⟨_, _, _, _, (pS_cons ok_113 (pS_cons ok_261 (pS_nil))), (pV_cons (List.mem_of_getElem? (i := 17) rfl) (pV_cons (List.mem_of_getElem? (i := 31) rfl) (pV_nil))), f_265_26⟩
theorem q_265_27 : pQ_265 u_265_27 := ⟨_, _, _, _, (pS_nil), (pV_cons (List.mem_of_getElem? (i := 34) rfl) (pV_nil)), f_265_27⟩
theorem q_265_28 : pQ_265 u_265_28 := ⟨_, _, _, _, (pS_cons ok_160 (pS_cons ok_186 (pS_cons ok_187 (pS_cons ok_201 (pS_cons ok_202 (pS_cons ok_261 (pS_nil))))))), (pV_cons (List.mem_of_getElem? (i := 35) rfl) (pV_cons (List.mem_of_getElem? (i := 36) rfl) (pV_cons (List.mem_of_getElem? (i := 37) rfl) (pV_cons (List.mem_of_getElem? (i := 38) rfl) (pV_cons (List.mem_of_getElem? (i := 39) rfl) (pV_nil)))))), f_265_28⟩
theorem q_265_29 : pQ_265 u_265_29 := ⟨_, _, _, _, (pS_nil), (pV_nil), f_265_29⟩
theorem q_265_30 : pQ_265 u_265_30 := ⟨_, _, _, _, (pS_nil), (pV_cons (List.mem_of_getElem? (i := 22) rfl) (pV_nil)), f_265_30⟩
theorem q_265_31 : pQ_265 u_265_31 := ⟨_, _, _, _, (pS_nil), (pV_cons (List.mem_of_getElem? (i := 27) rfl) (pV_nil)), f_265_31⟩
theorem q_265_32 : pQ_265 u_265_32 := ⟨_, _, _, _, (pS_nil), (pV_cons (List.mem_of_getElem? (i := 22) rfl) (pV_nil)), f_265_32⟩
theorem q_265_33 : pQ_265 u_265_33 := ⟨_, _, _, _, (pS_nil), (pV_cons (List.mem_of_getElem? (i := 27) rfl) (pV_nil)), f_265_33⟩
theorem q_265_34 : pQ_265 u_265_34 := ⟨_, _, _, _, (pS_nil), (pV_nil), f_265_34⟩
theorem q_265_35 : pQ_265 u_265_35 := ⟨_, _, _, _, (pS_nil), (pV_cons (List.mem_of_getElem? (i := 40) rfl) (pV_nil)), f_265_35⟩
theorem q_265_36 : pQ_265 u_265_36 := ⟨_, _, _, _, (pS_cons ok_201 (pS_nil)), (pV_cons (List.mem_of_getElem? (i := 41) rfl) (pV_cons (List.mem_of_getElem? (i := 42) rfl) (pV_nil))), f_265_36⟩
theorem q_265_37 : pQ_265 u_265_37 := ⟨_, _, _, _, (pS_cons ok_201 (pS_nil)), (pV_cons (List.mem_of_getElem? (i := 41) rfl) (pV_cons (List.mem_of_getElem? (i := 44) rfl) (pV_nil))), f_265_37⟩
theorem q_265_38 : pQ_265 u_265_38 := ⟨_, _, _, _, (pS_nil), (pV_cons (List.mem_of_getElem? (i := 45) rfl) (pV_nil)), f_265_38⟩
theorem q_265_39 : pQ_265 u_265_39 := ⟨_, _, _, _, (pS_cons ok_113 (pS_nil)), (pV_cons (List.mem_of_getElem? (i := 46) rfl) (pV_nil)), f_265_39⟩
theorem q_265_40 : pQ_265 u_265_40 := ⟨_, _, _, _, (pS_nil), (pV_cons (List.mem_of_getElem? (i := 47) rfl) (pV_nil)), f_265_40⟩
theorem q_265_41 : pQ_265 u_265_41 := ⟨_, _, _, _, (pS_cons ok_113 (pS_cons ok_261 (pS_nil))), (pV_cons (List.mem_of_getElem? (i := 35) rfl) (pV_cons (List.mem_of_getElem? (i := 49) rfl) (pV_nil))), f_265_41⟩
theorem q_265_42 : pQ_265 u_265_42 := ⟨_, _, _, _, (pS_cons ok_113 (pS_cons ok_261 (pS_nil))), (pV_cons (List.mem_of_getElem? (i := 35) rfl) (pV_cons (List.mem_of_getElem? (i := 49) rfl) (pV_nil))), f_265_42⟩
theorem q_265_43 : pQ_265 u_265_43 := ⟨_, _, _, _, (pS_cons ok_113 (pS_cons ok_261 (pS_nil))), (pV_cons (List.mem_of_getElem? (i := 35) rfl) (pV_cons (List.mem_of_getElem? (i := 49) rfl) (pV_nil))), f_265_43⟩
theorem q_265_44 : pQ_265 u_265_44 := ⟨_, _, _, _, (pS_cons ok_113 (pS_cons ok_261 (pS_nil))), (pV_cons (List.mem_of_getElem? (i := 35) rfl) (pV_cons (List.mem_of_getElem? (i := 49) rfl) (pV_nil))), f_265_44⟩
theorem q_265_45 : pQ_265 u_265_45 := ⟨_, _, _, _, (pS_nil), (pV_cons (List.mem_of_getElem? (i := 52) rfl) (pV_nil)), f_265_45⟩
theorem q_265_46 : pQ_265 u_265_46 := ⟨_, _, _, _, (pS_cons ok_160 (pS_cons ok_186 (pS_cons ok_187 (pS_cons ok_201 (pS_cons ok_202 (pS_cons ok_261 (pS_nil))))))), (pV_cons (List.mem_of_getElem? (i := 53) rfl) (pV_cons (List.mem_of_getElem? (i := 54) rfl) (pV_cons (List.mem_of_getElem? (i := 55) rfl) (pV_cons (List.mem_of_getElem? (i := 56) rfl) (pV_cons (List.mem_of_getElem? (i := 57) rfl) (pV_nil)))))), f_265_46⟩
theorem q_265_47 : pQ_265 u_265_47 := ⟨_, _, _, _, (pS_nil), (pV_cons (List.mem_of_getElem? (i := 58) rfl) (pV_nil)), f_265_47⟩
theorem q_265_48 : pQ_265 u_265_48 := ⟨_, _, _, _, (pS_nil), (pV_cons (List.mem_of_getElem? (i := 40) rfl) (pV_nil)), f_265_48⟩
theorem q_265_49 : pQ_265 u_265_49 := ⟨_, _, _, _, (pS_nil), (pV_cons (List.mem_of_getElem? (i := 45) rfl) (pV_nil)), f_265_49⟩
theorem q_265_50 : pQ_265 u_265_50 := ⟨_, _, _, _, (pS_nil), (pV_cons (List.mem_of_getElem? (i := 40) rfl) (pV_nil)), f_265_50⟩
theorem q_265_51 : pQ_265 u_265_51 := ⟨_, _, _, _, (pS_nil), (pV_cons (List.mem_of_getElem? (i := 45) rfl) (pV_nil)), f_265_51⟩
theorem q_265_52 : pQ_265 u_265_52 := ⟨_, _, _, _, (pS_nil), (pV_cons (List.mem_of_getElem? (i := 59) rfl) (pV_nil)), f_265_52⟩
theorem q_265_53 : pQ_265 u_265_53 := ⟨_, _, _, _, (pS_nil), (pV_cons (List.mem_of_getElem? (i := 60) rfl) (pV_nil)), f_265_53⟩
theorem q_265_54 : pQ_265 u_265_54 := ⟨_, _, _, _, (pS_cons ok_201 (pS_nil)), (pV_cons (List.mem_of_getElem? (i := 61) rfl) (pV_cons (List.mem_of_getElem? (i := 62) rfl) (pV_nil))), f_265_54⟩
theorem q_265_55 : pQ_265 u_265_55 := ⟨_, _, _, _, (pS_cons ok_201 (pS_nil)), (pV_cons (List.mem_of_getElem? (i := 61) rfl) (pV_cons (List.mem_of_getElem? (i := 64) rfl) (pV_nil))), f_265_55⟩
theorem q_265_56 : pQ_265 u_265_56 := ⟨_, _, _, _, (pS_nil), (pV_cons (List.mem_of_getElem? (i := 65) rfl) (pV_nil)), f_265_56⟩
theorem q_265_57 : pQ_265 u_265_57 := ⟨_, _, _, _, (pS_cons ok_113 (pS_nil)), (pV_cons (List.mem_of_getElem? (i := 66) rfl) (pV_nil)), f_265_57⟩
theorem q_265_58 : pQ_265 u_265_58 := ⟨_, _, _, _, (pS_nil), (pV_nil), f_265_58⟩
theorem q_265_59 : pQ_265 u_265_59 := ⟨_, _, _, _, (pS_nil), (pV_nil), f_265_59⟩
theorem q_265_60 : pQ_265 u_265_60 := ⟨_, _, _, _, (pS_nil), (pV_cons (List.mem_of_getElem? (i := 67) rfl) (pV_nil)), f_265_60⟩
theorem q_265_61 : pQ_265 u_265_61 := ⟨_, _, _, _, (pS_cons ok_113 (pS_cons ok_261 (pS_nil))), (pV_cons (List.mem_of_getElem? (i := 53) rfl) (pV_cons (List.mem_of_getElem? (i := 69) rfl) (pV_nil))), f_265_61⟩
theorem q_265_62 : pQ_265 u_265_62 := ⟨_, _, _, _, (pS_cons ok_113 (pS_cons ok_261 (pS_nil))), (pV_cons (List.mem_of_getElem? (i := 53) rfl) (pV_cons (List.mem_of_getElem? (i := 69) rfl) (pV_nil))), f_265_62⟩
theorem q_265_63 : pQ_265 u_265_63 := ⟨_, _, _, _, (pS_cons ok_113 (pS_cons ok_261 (pS_nil))), (pV_cons (List.mem_of_getElem? (i := 53) rfl) (pV_cons (List.mem_of_getElem? (i := 69) rfl) (pV_nil))), f_265_63⟩
theorem q_265_64 : pQ_265 u_265_64 := ⟨_, _, _, _, (pS_cons ok_113 (pS_cons ok_261 (pS_nil))), (pV_cons (List.mem_of_getElem? (i := 53) rfl) (pV_cons (List.mem_of_getElem? (i := 69) rfl) (pV_nil))), f_265_64⟩
theorem q_265_65 : pQ_265 u_265_65 := ⟨_, _, _, _, (pS_nil), (pV_cons (List.mem_of_getElem? (i := 72) rfl) (pV_nil)), f_265_65⟩
theorem q_265_66 : pQ_265 u_265_66 := ⟨_, _, _, _, (pS_cons ok_160 (pS_cons ok_186 (pS_cons ok_187 (pS_cons ok_201 (pS_cons ok_202 (pS_cons ok_261 (pS_nil))))))), (pV_cons (List.mem_of_getElem? (i := 73) rfl) (pV_cons (List.mem_of_getElem? (i := 74) rfl) (pV_cons (List.mem_of_getElem? (i := 75) rfl) (pV_cons (List.mem_of_getElem? (i := 76) rfl) (pV_cons (List.mem_of_getElem? (i := 77) rfl) (pV_nil)))))), f_265_66⟩
theorem q_265_67 : pQ_265 u_265_67 := ⟨_, _, _, _, (pS_nil), (pV_cons (List.mem_of_getElem? (i := 78) rfl) (pV_nil)), f_265_67⟩
theorem q_265_68 : pQ_265 u_265_68 := ⟨_, _, _, _, (pS_nil), (pV_cons (List.mem_of_getElem? (i := 60) rfl) (pV_nil)), f_265_68⟩
theorem q_265_69 : pQ_265 u_265_69 := ⟨_, _, _, _, (pS_nil), (pV_cons (List.mem_of_getElem? (i := 65) rfl) (pV_nil)), f_265_69⟩
theorem q_265_70 : pQ_265 u_265_70 := ⟨_, _, _, _, (pS_nil), (pV_cons (List.mem_of_getElem? (i := 60) rfl) (pV_nil)), f_265_70⟩
theorem q_265_71 : pQ_265 u_265_71 := ⟨_, _, _, _, (pS_nil), (pV_cons (List.mem_of_getElem? (i := 65) rfl) (pV_nil)), f_265_71⟩
theorem q_265_72 : pQ_265 u_265_72 := ⟨_, _, _, _, (pS_nil), (pV_cons (List.mem_of_getElem? (i := 79) rfl) (pV_nil)), f_265_72⟩
theorem q_265_73 : pQ_265 u_265_73 := ⟨_, _, _, _, (pS_nil), (pV_cons (List.mem_of_getElem? (i := 80) rfl) (pV_nil)), f_265_73⟩
theorem q_265_74 : pQ_265 u_265_74 := ⟨_, _, _, _, (pS_cons ok_201 (pS_nil)), (pV_cons (List.mem_of_getElem? (i := 81) rfl) (pV_cons (List.mem_of_getElem? (i := 82) rfl) (pV_nil))), f_265_74⟩
theorem q_265_75 : pQ_265 u_265_75 := ⟨_, _, _, _, (pS_cons ok_201 (pS_nil)), (pV_cons (List.mem_of_getElem? (i := 81) rfl) (pV_cons (List.mem_of_getElem? (i := 84) rfl) (pV_nil))), f_265_75⟩
theorem q_265_76 : pQ_265 u_265_76 := ⟨_, _, _, _, (pS_nil), (pV_cons (List.mem_of_getElem? (i := 85) rfl) (pV_nil)), f_265_76⟩
theorem q_265_77 : pQ_265 u_265_77 := ⟨_, _, _, _, (pS_cons ok_113 (pS_nil)), (pV_cons (List.mem_of_getElem? (i := 86) rfl) (pV_nil)), f_265_77⟩
theorem q_265_78 : pQ_265 u_265_78 := ⟨_, _, _, _, (pS_nil), (pV_cons (List.mem_of_getElem? (i := 87) rfl) (pV_nil)), f_265_78⟩
theorem q_265_79 : pQ_265 u_265_79 := ⟨_, _, _, _, (pS_nil), (pV_cons (List.mem_of_getElem? (i := 88) rfl) (pV_nil)), f_265_79⟩
theorem q_265_80 : pQ_265 u_265_80 := ⟨_, _, _, _, (pS_nil), (pV_cons (List.mem_of_getElem? (i := 89) rfl) (pV_nil)), f_265_80⟩
theorem q_265_81 : pQ_265 u_265_81 := ⟨_, _, _, _, (pS_cons ok_113 (pS_cons ok_261 (pS_nil))), (pV_cons (List.mem_of_getElem? (i := 73) rfl) (pV_cons (List.mem_of_getElem? (i := 91) rfl) (pV_nil))), f_265_81⟩
theorem q_265_82 : pQ_265 u_265_82 := ⟨_, _, _, _, (pS_cons ok_113 (pS_cons ok_261 (pS_nil))), (pV_cons (List.mem_of_getElem? (i := 73) rfl) (pV_cons (List.mem_of_getElem? (i := 91) rfl) (pV_nil))), f_265_82⟩
theorem q_265_83 : pQ_265 u_265_83 := ⟨_, _, _, _, (pS_cons ok_113 (pS_cons ok_261 (pS_nil))), (pV_cons (List.mem_of_getElem? (i := 73) rfl) (pV_cons (List.mem_of_getElem? (i := 91) rfl) (pV_nil))), f_265_83⟩
theorem q_265_84 : pQ_265 u_265_84 := ⟨_, _, _, _, (pS_cons ok_113 (pS_cons ok_261 (pS_nil))), (pV_cons (List.mem_of_getElem? (i := 73) rfl) (pV_cons (List.mem_of_getElem? (i := 91) rfl) (pV_nil))), f_265_84⟩
theorem q_265_85 : pQ_265 u_265_85 := ⟨_, _, _, _, (pS_nil), (pV_cons (List.mem_of_getElem? (i := 94) rfl) (pV_nil)), f_265_85⟩
theorem q_265_86 : pQ_265 u_265_86 := ⟨_, _, _, _, (pS_cons ok_160 (pS_cons ok_186 (pS_cons ok_187 (pS_cons ok_201 (pS_cons ok_202 (pS_cons ok_261 (pS_nil))))))), (pV_cons (List.mem_of_getElem? (i := 95) rfl) (pV_cons (List.mem_of_getElem? (i := 96) rfl) (pV_cons (List.mem_of_getElem? (i := 97) rfl) (pV_cons (List.mem_of_getElem? (i := 98) rfl) (pV_cons (List.mem_of_getElem? (i := 99) rfl) (pV_nil)))))), f_265_86⟩
theorem q_265_87 : pQ_265 u_265_87 := ⟨_, _, _, _, (pS_nil), (pV_nil), f_265_87⟩
theorem q_265_88 : pQ_265 u_265_88 := ⟨_, _, _, _, (pS_nil), (pV_nil), f_265_88⟩
theorem q_265_89 : pQ_265 u_265_89 := ⟨_, _, _, _, (pS_nil), (pV_cons (List.mem_of_getElem? (i := 100) rfl) (pV_nil)), f_265_89⟩
theorem q_265_90 : pQ_265 u_265_90 := ⟨_, _, _, _, (pS_nil), (pV_cons (List.mem_of_getElem? (i := 80) rfl) (pV_nil)), f_265_90⟩
theorem q_265_91 : pQ_265 u_265_91 := ⟨_, _, _, _, (pS_nil), (pV_cons (List.mem_of_getElem? (i := 85) rfl) (pV_nil)), f_265_91⟩
theorem q_265_92 : pQ_265 u_265_92 := ⟨_, _, _, _, (pS_nil), (pV_cons (List.mem_of_getElem? (i := 80) rfl) (pV_nil)), f_265_92⟩
theorem q_265_93 : pQ_265 u_265_93 := ⟨_, _, _, _, (pS_nil), (pV_cons (List.mem_of_getElem? (i := 85) rfl) (pV_nil)), f_265_93⟩
theorem q_265_94 : pQ_265 u_265_94 := ⟨_, _, _, _, (pS_nil), (pV_cons (List.mem_of_getElem? (i := 101) rfl) (pV_nil)), f_265_94⟩
theorem q_265_95 : pQ_265 u_265_95 := ⟨_, _, _, _, (pS_nil), (pV_cons (List.mem_of_getElem? (i := 102) rfl) (pV_nil)), f_265_95⟩
theorem q_265_96 : pQ_265 u_265_96 := ⟨_, _, _, _, (pS_cons ok_201 (pS_nil)), (pV_cons (List.mem_of_getElem? (i := 103) rfl) (pV_cons (List.mem_of_getElem? (i := 104) rfl) (pV_nil))), f_265_96⟩
theorem q_265_97 : pQ_265 u_265_97 := ⟨_, _, _, _, (pS_cons ok_201 (pS_nil)), (pV_cons (List.mem_of_getElem? (i := 103) rfl) (pV_cons (List.mem_of_getElem? (i := 106) rfl) (pV_nil))), f_265_97⟩
theorem q_265_98 : pQ_265 u_265_98 := ⟨_, _, _, _, (pS_nil), (pV_cons (List.mem_of_getElem? (i := 107) rfl) (pV_nil)), f_265_98⟩
theorem q_265_99 : pQ_265 u_265_99 := ⟨_, _, _, _, (pS_cons ok_113 (pS_nil)), (pV_cons (List.mem_of_getElem? (i := 108) rfl) (pV_nil)), f_265_99⟩
theorem q_265_100 : pQ_265 u_265_100 := ⟨_, _, _, _, (pS_nil), (pV_cons (List.mem_of_getElem? (i := 109) rfl) (pV_nil)), f_265_100⟩
theorem q_265_101 : pQ_265 u_265_101 := ⟨_, _, _, _, (pS_nil), (pV_cons (List.mem_of_getElem? (i := 110) rfl) (pV_nil)), f_265_101⟩
theorem q_265_102 : pQ_265 u_265_102 := ⟨_, _, _, _, (pS_nil), (pV_cons (List.mem_of_getElem? (i := 111) rfl) (pV_nil)), f_265_102⟩
theorem q_265_103 : pQ_265 u_265_103 := ⟨_, _, _, _, (pS_cons ok_113 (pS_cons ok_261 (pS_nil))), (pV_cons (List.mem_of_getElem? (i := 95) rfl) (pV_cons (List.mem_of_getElem? (i := 113) rfl) (pV_nil))), f_265_103⟩
theorem q_265_104 : pQ_265 u_265_104 := ⟨_, _, _, _, (pS_cons ok_113 (pS_cons ok_261 (pS_nil))), (pV_cons (List.mem_of_getElem? (i := 95) rfl) (pV_cons (List.mem_of_getElem? (i := 113) rfl) (pV_nil))), f_265_104⟩
theorem q_265_105 : pQ_265 u_265_105 := ⟨_, _, _, _, (pS_cons ok_113 (pS_cons ok_261 (pS_nil))), (pV_cons (List.mem_of_getElem? (i := 95) rfl) (pV_cons (List.mem_of_getElem? (i := 113) rfl) (pV_nil))), f_265_105⟩
theorem q_265_106 : pQ_265 u_265_106 := ⟨_, _, _, _, (pS_cons ok_113 (pS_cons ok_261 (pS_nil))), (pV_cons (List.mem_of_getElem? (i := 95) rfl) (pV_cons (List.mem_of_getElem? (i := 113) rfl) (pV_nil))), f_265_106⟩
theorem q_265_107 : pQ_265 u_265_107 := ⟨_, _, _, _, (pS_nil), (pV_cons (List.mem_of_getElem? (i := 116) rfl) (pV_nil)), f_265_107⟩
theorem q_265_108 : pQ_265 u_265_108 := ⟨_, _, _, _, (pS_cons ok_160 (pS_cons ok_186 (pS_cons ok_187 (pS_cons ok_201 (pS_cons ok_202 (pS_cons ok_261 (pS_nil))))))), (pV_cons (List.mem_of_getElem? (i := 117) rfl) (pV_cons (List.mem_of_getElem? (i := 118) rfl) (pV_cons (List.mem_of_getElem? (i := 119) rfl) (pV_cons (List.mem_of_getElem? (i := 120) rfl) (pV_cons (List.mem_of_getElem? (i := 121) rfl) (pV_nil)))))), f_265_108⟩
theorem q_265_109 : pQ_265 u_265_109 := ⟨_, _, _, _, (pS_nil), (pV_cons (List.mem_of_getElem? (i := 122) rfl) (pV_nil)), f_265_109⟩
theorem q_265_110 : pQ_265 u_265_110 := ⟨_, _, _, _, (pS_nil), (pV_cons (List.mem_of_getElem? (i := 123) rfl) (pV_nil)), f_265_110⟩
theorem q_265_111 : pQ_265 u_265_111 := ⟨_, _, _, _, (pS_nil), (pV_cons (List.mem_of_getElem? (i := 124) rfl) (pV_nil)), f_265_111⟩
theorem q_265_112 : pQ_265 u_265_112 := ⟨_, _, _, _, (pS_nil), (pV_cons (List.mem_of_getElem? (i := 102) rfl) (pV_nil)), f_265_112⟩
theorem q_265_113 : pQ_265 u_265_113 := ⟨_, _, _, _, (pS_nil), (pV_cons (List.mem_of_getElem? (i := 107) rfl) (pV_nil)), f_265_113⟩
theorem q_265_114 : pQ_265 u_265_114 := ⟨_, _, _, _, (pS_nil), (pV_cons (List.mem_of_getElem? (i := 102) rfl) (pV_nil)), f_265_114⟩
theorem q_265_115 : pQ_265 u_265_115 := ⟨_, _, _, _, (pS_nil), (pV_cons (List.mem_of_getElem? (i := 107) rfl) (pV_nil)), f_265_115⟩
theorem q_265_116 : pQ_265 u_265_116 := ⟨_, _, _, _, (pS_nil), (pV_cons (List.mem_of_getElem? (i := 125) rfl) (pV_nil)), f_265_116⟩
theorem q_265_117 : pQ_265 u_265_117 := ⟨_, _, _, _, (pS_nil), (pV_cons (List.mem_of_getElem? (i := 126) rfl) (pV_nil)), f_265_117⟩
theorem q_265_118 : pQ_265 u_265_118 := ⟨_, _, _, _, (pS_cons ok_201 (pS_nil)), (pV_cons (List.mem_of_getElem? (i := 127) rfl) (pV_cons (List.mem_of_getElem? (i := 128) rfl) (pV_nil))), f_265_118⟩
theorem q_265_119 : pQ_265 u_265_119 := ⟨_, _, _, _, (pS_cons ok_201 (pS_nil)), (pV_cons (List.mem_of_getElem? (i := 127) rfl) (pV_cons (List.mem_of_getElem? (i := 130) rfl) (pV_nil))), f_265_119⟩
theorem q_265_120 : pQ_265 u_265_120 := ⟨_, _, _, _, (pS_nil), (pV_cons (List.mem_of_getElem? (i := 131) rfl) (pV_nil)), f_265_120⟩
theorem q_265_121 : pQ_265 u_265_121 := ⟨_, _, _, _, (pS_nil), (pV_cons (List.mem_of_getElem? (i := 132) rfl) (pV_nil)), f_265_121⟩
theorem q_265_122 : pQ_265 u_265_122 := ⟨_, _, _, _, (pS_nil), (pV_nil), f_265_122⟩
theorem q_265_123 : pQ_265 u_265_123 := ⟨_, _, _, _, (pS_nil), (pV_nil), f_265_123⟩
theorem q_265_124 : pQ_265 u_265_124 := ⟨_, _, _, _, (pS_nil), (pV_cons (List.mem_of_getElem? (i := 133) rfl) (pV_nil)), f_265_124⟩
theorem q_265_125 : pQ_265 u_265_125 := ⟨_, _, _, _, (pS_nil), (pV_cons (List.mem_of_getElem? (i := 134) rfl) (pV_nil)), f_265_125⟩
theorem q_265_126 : pQ_265 u_265_126 := ⟨_, _, _, _, (pS_nil), (pV_cons (List.mem_of_getElem? (i := 135) rfl) (pV_nil)), f_265_126⟩
theorem q_265_127 : pQ_265 u_265_127 := ⟨_, _, _, _, (pS_cons ok_113 (pS_cons ok_261 (pS_nil))), (pV_cons (List.mem_of_getElem? (i := 117) rfl) (pV_cons (List.mem_of_getElem? (i := 137) rfl) (pV_nil))), f_265_127⟩
theorem q_265_128 : pQ_265 u_265_128 := ⟨_, _, _, _, (pS_cons ok_113 (pS_cons ok_261 (pS_nil))), (pV_cons (List.mem_of_getElem? (i := 117) rfl) (pV_cons (List.mem_of_getElem? (i := 137) rfl) (pV_nil))), f_265_128⟩
theorem q_265_129 : pQ_265 u_265_129 := ⟨_, _, _, _, (pS_cons ok_113 (pS_cons ok_261 (pS_nil))), (pV_cons (List.mem_of_getElem? (i := 117) rfl) (pV_cons (List.mem_of_getElem? (i := 137) rfl) (pV_nil))), f_265_129⟩
theorem q_265_130 : pQ_265 u_265_130 := ⟨_, _, _, _, (pS_cons ok_113 (pS_cons ok_261 (pS_nil))), (pV_cons (List.mem_of_getElem? (i := 117) rfl) (pV_cons (List.mem_of_getElem? (i := 137) rfl) (pV_nil))), f_265_130⟩
theorem q_265_131 : pQ_265 u_265_131 := ⟨_, _, _, _, (pS_nil), (pV_cons (List.mem_of_getElem? (i := 140) rfl) (pV_nil)), f_265_131⟩
theorem q_265_132 : pQ_265 u_265_132 := ⟨_, _, _, _, (pS_cons ok_178 (pS_cons ok_186 (pS_cons ok_187 (pS_cons ok_264 (pS_nil))))), (pV_cons (List.mem_of_getElem? (i := 141) rfl) (pV_nil)), f_265_132⟩
theorem q_265_133 : pQ_265 u_265_133 := ⟨_, _, _, _, (pS_nil), (pV_cons (List.mem_of_getElem? (i := 142) rfl) (pV_nil)), f_265_133⟩
theorem q_265_134 : pQ_265 u_265_134 := ⟨_, _, _, _, (pS_nil), (pV_cons (List.mem_of_getElem? (i := 143) rfl) (pV_nil)), f_265_134⟩
theorem q_265_135 : pQ_265 u_265_135 := ⟨_, _, _, _, (pS_nil), (pV_cons (List.mem_of_getElem? (i := 144) rfl) (pV_nil)), f_265_135⟩
theorem q_265_136 : pQ_265 u_265_136 := ⟨_, _, _, _, (pS_nil), (pV_cons (List.mem_of_getElem? (i := 126) rfl) (pV_nil)), f_265_136⟩
theorem q_265_137 : pQ_265 u_265_137 := ⟨_, _, _, _, (pS_nil), (pV_cons (List.mem_of_getElem? (i := 131) rfl) (pV_nil)), f_265_137⟩
theorem q_265_138 : pQ_265 u_265_138 := ⟨_, _, _, _, (pS_nil), (pV_cons (List.mem_of_getElem? (i := 126) rfl) (pV_nil)), f_265_138⟩
theorem q_265_139 : pQ_265 u_265_139 := ⟨_, _, _, _, (pS_nil), (pV_cons (List.mem_of_getElem? (i := 131) rfl) (pV_nil)), f_265_139⟩
theorem q_265_140 : pQ_265 u_265_140 := ⟨_, _, _, _, (pS_nil), (pV_cons (List.mem_of_getElem? (i := 145) rfl) (pV_nil)), f_265_140⟩
theorem q_265_141 : pQ_265 u_265_141 := ⟨_, _, _, _, (pS_nil), (pV_cons (List.mem_of_getElem? (i := 146) rfl) (pV_nil)), f_265_141⟩
theorem q_265_142 : pQ_265 u_265_142 := ⟨_, _, _, _, (pS_nil), (pV_cons (List.mem_of_getElem? (i := 147) rfl) (pV_nil)), f_265_142⟩
theorem q_265_143 : pQ_265 u_265_143 := ⟨_, _, _, _, (pS_nil), (pV_cons (List.mem_of_getElem? (i := 148) rfl) (pV_nil)), f_265_143⟩
theorem q_265_144 : pQ_265 u_265_144 := ⟨_, _, _, _, (pS_nil), (pV_cons (List.mem_of_getElem? (i := 149) rfl) (pV_nil)), f_265_144⟩
theorem q_265_145 : pQ_265 u_265_145 := ⟨_, _, _, _, (pS_nil), (pV_cons (List.mem_of_getElem? (i := 150) rfl) (pV_nil)), f_265_145⟩
theorem q_265_146 : pQ_265 u_265_146 := ⟨_, _, _, _, (pS_nil), (pV_cons (List.mem_of_getElem? (i := 151) rfl) (pV_nil)), f_265_146⟩
theorem q_265_147 : pQ_265 u_265_147 := ⟨_, _, _, _, (pS_nil), (pV_nil), f_265_147⟩
theorem q_265_148 : pQ_265 u_265_148 := ⟨_, _, _, _, (pS_nil), (pV_nil), f_265_148⟩
theorem q_265_149 : pQ_265 u_265_149 := ⟨_, _, _, _, (pS_nil), (pV_cons (List.mem_of_getElem? (i := 152) rfl) (pV_nil)), f_265_149⟩
theorem q_265_150 : pQ_265 u_265_150 := ⟨_, _, _, _, (pS_nil), (pV_cons (List.mem_of_getElem? (i := 153) rfl) (pV_nil)), f_265_150⟩
theorem q_265_151 : pQ_265 u_265_151 := ⟨_, _, _, _, (pS_nil), (pV_cons (List.mem_of_getElem? (i := 154) rfl) (pV_nil)), f_265_151⟩
theorem q_265_152 : pQ_265 u_265_152 := ⟨_, _, _, _, (pS_nil), (pV_cons (List.mem_of_getElem? (i := 155) rfl) (pV_nil)), f_265_152⟩
theorem q_265_153 : pQ_265 u_265_153 := ⟨_, _, _, _, (pS_nil), (pV_cons (List.mem_of_getElem? (i := 156) rfl) (pV_nil)), f_265_153⟩
theorem q_265_154 : pQ_265 u_265_154 := ⟨_, _, _, _, (pS_nil), (pV_cons (List.mem_of_getElem? (i := 157) rfl) (pV_nil)), f_265_154⟩
theorem q_265_155 : pQ_265 u_265_155 := ⟨_, _, _, _, (pS_nil), (pV_cons (List.mem_of_getElem? (i := 158) rfl) (pV_nil)), f_265_155⟩
theorem q_265_156 : pQ_265 u_265_156 := ⟨_, _, _, _, (pS_nil), (pV_cons (List.mem_of_getElem? (i := 159) rfl) (pV_nil)), f_265_156⟩
theorem q_265_157 : pQ_265 u_265_157 := ⟨_, _, _, _, (pS_nil), (pV_cons (List.mem_of_getElem? (i := 160) rfl) (pV_nil)), f_265_157⟩
theorem q_265_158 : pQ_265 u_265_158 := ⟨_, _, _, _, (pS_nil), (pV_nil), f_265_158⟩
theorem q_265_159 : pQ_265 u_265_159 := ⟨_, _, _, _, (pS_nil), (pV_nil), f_265_159⟩
theorem q_265_160 : pQ_265 u_265_160 := ⟨_, _, _, _, (pS_nil), (pV_cons (List.mem_of_getElem? (i := 161) rfl) (pV_nil)), f_265_160⟩
theorem q_265_161 : pQ_265 u_265_161 := ⟨_, _, _, _, (pS_nil), (pV_cons (List.mem_of_getElem? (i := 162) rfl) (pV_nil)), f_265_161⟩
theorem q_265_162 : pQ_265 u_265_162 := ⟨_, _, _, _, (pS_nil), (pV_cons (List.mem_of_getElem? (i := 163) rfl) (pV_nil)), f_265_162⟩
theorem q_265_163 : pQ_265 u_265_163 := ⟨_, _, _, _, (pS_nil), (pV_nil), f_265_163⟩
theorem qb_265_0 : ∀ u ∈ [u_265_0, u_265_1, u_265_2, u_265_3, u_265_4, u_265_5, u_265_6, u_265_7, u_265_8, u_265_9], pQ_265 u := pU_cons q_265_0 (pU_cons q_265_1 (pU_cons q_265_2 (pU_cons q_265_3 (pU_cons q_265_4 (pU_cons q_265_5 (pU_cons q_265_6 (pU_cons q_265_7 (pU_cons q_265_8 (pU_cons q_265_9 (pU_nil))))))))))
theorem qb_265_1 : ∀ u ∈ [u_265_10, u_265_11, u_265_12, u_265_13, u_265_14, u_265_15, u_265_16, u_265_17, u_265_18, u_265_19], pQ_265 u := pU_cons q_265_10 (pU_cons q_265_11 (pU_cons q_265_12 (pU_cons q_265_13 (pU_cons q_265_14 (pU_cons q_265_15 (pU_cons q_265_16 (pU_cons q_265_17 (pU_cons q_265_18 (pU_cons q_265_19 (pU_nil))))))))))
theorem qb_265_2 : ∀ u ∈ [u_265_20, u_265_21, u_265_22, u_265_23, u_265_24, u_265_25, u_265_26, u_265_27, u_265_28, u_265_29], pQ_265 u := pU_cons q_265_20 (pU_cons q_265_21 (pU_cons q_265_22 (pU_cons q_265_23 (pU_cons q_265_24 (pU_cons q_265_25 (pU_cons q_265_26 (pU_cons q_265_27 (pU_cons q_265_28 (pU_cons q_265_29 (pU_nil))))))))))
theorem qb_265_3 : ∀ u ∈ [u_265_30, u_265_31, u_265_32, u_265_33, u_265_34, u_265_35, u_265_36, u_265_37, u_265_38, u_265_39], pQ_265 u := pU_cons q_265_30 (pU_cons q_265_31 (pU_cons q_265_32 (pU_cons q_265_33 (pU_cons q_265_34 (pU_cons q_265_35 (pU_cons q_265_36 (pU_cons q_265_37 (pU_cons q_265_38 (pU_cons q_265_39 (pU_nil))))))))))
theorem qb_265_4 : ∀ u ∈ [u_265_40, u_265_41, u_265_42, u_265_43, u_265_44, u_265_45, u_265_46, u_265_47, u_265_48, u_265_49], pQ_265 u := pU_cons q_265_40 (pU_cons q_265_41 (pU_cons q_265_42 (pU_cons q_265_43 (pU_cons q_265_44 (pU_cons q_265_45 (pU_cons q_265_46 (pU_cons q_265_47 (pU_cons q_265_48 (pU_cons q_265_49 (pU_nil))))))))))
theorem qb_265_5 : ∀ u ∈ [u_265_50, u_265_51, u_265_52, u_265_53, u_265_54, u_265_55, u_265_56, u_265_57, u_265_58, u_265_59], pQ_265 u := pU_cons q_265_50 (pU_cons q_265_51 (pU_cons q_265_52 (pU_cons q_265_53 (pU_cons q_265_54 (pU_cons q_265_55 (pU_cons q_265_56 (pU_cons q_265_57 (pU_cons q_265_58 (pU_cons q_265_59 (pU_nil))))))))))
theorem qb_265_6 : ∀ u ∈ [u_265_60, u_265_61, u_265_62, u_265_63, u_265_64, u_265_65, u_265_66, u_265_67, u_265_68, u_265_69], pQ_265 u := pU_cons q_265_60 (pU_cons q_265_61 (pU_cons q_265_62 (pU_cons q_265_63 (pU_cons q_265_64 (pU_cons q_265_65 (pU_cons q_265_66 (pU_cons q_265_67 (pU_cons q_265_68 (pU_cons q_265_69 (pU_nil))))))))))
theorem qb_265_7 : ∀ u ∈ [u_265_70, u_265_71, u_265_72, u_265_73, u_265_74, u_265_75, u_265_76, u_265_77, u_265_78, u_265_79], pQ_265 u := pU_cons q_265_70 (pU_cons q_265_71 (pU_cons q_265_72 (pU_cons q_265_73 (pU_cons q_265_74 (pU_cons q_265_75 (pU_cons q_265_76 (pU_cons q_265_77 (pU_cons q_265_78 (pU_cons q_265_79 (pU_nil))))))))))
theorem qb_265_8 : ∀ u ∈ [u_265_80, u_265_81, u_265_82, u_265_83, u_265_84, u_265_85, u_265_86, u_265_87, u_265_88, u_265_89], pQ_265 u := pU_cons q_265_80 (pU_cons q_265_81 (pU_cons q_265_82 (pU_cons q_265_83 (pU_cons q_265_84 (pU_cons q_265_85 (pU_cons q_265_86 (pU_cons q_265_87 (pU_cons q_265_88 (pU_cons q_265_89 (pU_nil))))))))))
theorem qb_265_9 : ∀ u ∈ [u_265_90, u_265_91, u_265_92, u_265_93, u_265_94, u_265_95, u_265_96, u_265_97, u_265_98, u_265_99], pQ_265 u := pU_cons q_265_90 (pU_cons q_265_91 (pU_cons q_265_92 (pU_cons q_265_93 (pU_cons q_265_94 (pU_cons q_265_95 (pU_cons q_265_96 (pU_cons q_265_97 (pU_cons q_265_98 (pU_cons q_265_99 (pU_nil))))))))))
theorem qb_265_10 : ∀ u ∈ [u_265_100, u_265_101, u_265_102, u_265_103, u_265_104, u_265_105, u_265_106, u_265_107, u_265_108, u_265_109], pQ_265 u := pU_cons q_265_100 (pU_cons q_265_101 (pU_cons q_265_102 (pU_cons q_265_103 (pU_cons q_265_104 (pU_cons q_265_105 (pU_cons q_265_106 (pU_cons q_265_107 (pU_cons q_265_108 (pU_cons q_265_109 (pU_nil))))))))))
theorem qb_265_11 : ∀ u ∈ [u_265_110, u_265_111, u_265_112, u_265_113, u_265_114, u_265_115, u_265_116, u_265_117, u_265_118, u_265_119], pQ_265 u := pU_cons q_265_110 (pU_cons q_265_111 (pU_cons q_265_112 (pU_cons q_265_113 (pU_cons q_265_114 (pU_cons q_265_115 (pU_cons q_265_116 (pU_cons q_265_117 (pU_cons q_265_118 (pU_cons q_265_119 (pU_nil))))))))))
theorem qb_265_12 : ∀ u ∈ [u_265_120, u_265_121, u_265_122, u_265_123, u_265_124, u_265_125, u_265_126, u_265_127, u_265_128, u_265_129], pQ_265 u := pU_cons q_265_120 (pU_cons q_265_121 (pU_cons q_265_122 (pU_cons q_265_123 (pU_cons q_265_124 (pU_cons q_265_125 (pU_cons q_265_126 (pU_cons q_265_127 (pU_cons q_265_128 (pU_cons q_265_129 (pU_nil))))))))))
theorem qb_265_13 : ∀ u ∈ [u_265_130, u_265_131, u_265_132, u_265_133, u_265_134, u_265_135, u_265_136, u_265_137, u_265_138, u_265_139], pQ_265 u := pU_cons q_265_130 (pU_cons q_265_131 (pU_cons q_265_132 (pU_cons q_265_133 (pU_cons q_265_134 (pU_cons q_265_135 (pU_cons q_265_136 (pU_cons q_265_137 (pU_cons q_265_138 (pU_cons q_265_139 (pU_nil))))))))))
theorem qb_265_14 : ∀ u ∈ [u_265_140, u_265_141, u_265_142, u_265_143, u_265_144, u_265_145, u_265_146, u_265_147, u_265_148, u_265_149], pQ_265 u := pU_cons q_265_140 (pU_cons q_265_141 (pU_cons q_265_142 (pU_cons q_265_143 (pU_cons q_265_144 (pU_cons q_265_145 (pU_cons q_265_146 (pU_cons q_265_147 (pU_cons q_265_148 (pU_cons q_265_149 (pU_nil))))))))))
theorem qb_265_15 : ∀ u ∈ [u_265_150, u_265_151, u_265_152, u_265_153, u_265_154, u_265_155, u_265_156, u_265_157, u_265_158, u_265_159], pQ_265 u := pU_cons q_265_150 (pU_cons q_265_151 (pU_cons q_265_152 (pU_cons q_265_153 (pU_cons q_265_154 (pU_cons q_265_155 (pU_cons q_265_156 (pU_cons q_265_157 (pU_cons q_265_158 (pU_cons q_265_159 (pU_nil))))))))))
theorem qb_265_16 : ∀ u ∈ [u_265_160, u_265_161, u_265_162, u_265_163], pQ_265 u := pU_cons q_265_160 (pU_cons q_265_161 (pU_cons q_265_162 (pU_cons q_265_163 (pU_nil))))
theorem ok_265 : sInOk pPT i_265 := sInst3 (M := pm_94) (cus := us_265) pOk pg_94 (by decide +kernel) ⟨_, _, _, _, (pS_nil), (pV_cons (List.mem_of_getElem? (i := 0) rfl) (pV_nil)), e_265⟩ (show ∀ u ∈ us_265, pQ_265 u from (pU_app qb_265_0 (pU_app qb_265_1 (pU_app qb_265_2 (pU_app qb_265_3 (pU_app qb_265_4 (pU_app qb_265_5 (pU_app qb_265_6 (pU_app qb_265_7 (pU_app qb_265_8 (pU_app qb_265_9 (pU_app qb_265_10 (pU_app qb_265_11 (pU_app qb_265_12 (pU_app qb_265_13 (pU_app qb_265_14 (pU_app qb_265_15 qb_265_16)))))))))))))))))
def pQ_266 (u : sCu) : Prop := ∃ (SM : List sIn) (H : gHt) (cu : List sCu) (n : Nat), (∀ I ∈ SM, sInOk pPT I) ∧ (∀ v ∈ cu, v ∈ us_266) ∧ sWhU pPT SM H i_266 (mR pm_91) cu n u = true
theorem q_266_0 : pQ_266 u_266_0 := ⟨_, _, _, _, (pS_cons ok_189 (pS_nil)), (pV_nil), f_266_0⟩
theorem q_266_1 : pQ_266 u_266_1 := ⟨_, _, _, _, (pS_cons ok_113 (pS_cons ok_207 (pS_cons ok_265 (pS_nil)))), (pV_cons (List.mem_of_getElem? (i := 0) rfl) (pV_cons (List.mem_of_getElem? (i := 1) rfl) (pV_nil))), f_266_1⟩
theorem qb_266_0 : ∀ u ∈ [u_266_0, u_266_1], pQ_266 u := pU_cons q_266_0 (pU_cons q_266_1 (pU_nil))
theorem ok_266 : sInOk pPT i_266 := sInst3 (M := pm_91) (cus := us_266) pOk pg_91 (by decide +kernel) ⟨_, _, _, _, (pS_cons ok_265 (pS_nil)), (pV_cons (List.mem_of_getElem? (i := 0) rfl) (pV_cons (List.mem_of_getElem? (i := 1) rfl) (pV_nil))), e_266⟩ (show ∀ u ∈ us_266, pQ_266 u from qb_266_0)
def pQ_267 (u : sCu) : Prop := ∃ (SM : List sIn) (H : gHt) (cu : List sCu) (n : Nat), (∀ I ∈ SM, sInOk pPT I) ∧ (∀ v ∈ cu, v ∈ us_267) ∧ sWhU pPT SM H i_267 (mR pm_94) cu n u = true
theorem q_267_0 : pQ_267 u_267_0 := ⟨_, _, _, _, (pS_cons ok_178 (pS_cons ok_186 (pS_cons ok_187 (pS_cons ok_264 (pS_nil))))), (pV_cons (List.mem_of_getElem? (i := 1) rfl) (pV_nil)), f_267_0⟩
theorem q_267_1 : pQ_267 u_267_1 := ⟨_, _, _, _, (pS_nil), (pV_cons (List.mem_of_getElem? (i := 2) rfl) (pV_nil)), f_267_1⟩
theorem q_267_2 : pQ_267 u_267_2 := ⟨_, _, _, _, (pS_nil), (pV_nil), f_267_2⟩
theorem qb_267_0 : ∀ u ∈ [u_267_0, u_267_1, u_267_2], pQ_267 u := pU_cons q_267_0 (pU_cons q_267_1 (pU_cons q_267_2 (pU_nil)))
theorem ok_267 : sInOk pPT i_267 := sInst3 (M := pm_94) (cus := us_267) pOk pg_94 (by decide +kernel) ⟨_, _, _, _, (pS_nil), (pV_cons (List.mem_of_getElem? (i := 0) rfl) (pV_nil)), e_267⟩ (show ∀ u ∈ us_267, pQ_267 u from qb_267_0)
def pQ_268 (u : sCu) : Prop := ∃ (SM : List sIn) (H : gHt) (cu : List sCu) (n : Nat), (∀ I ∈ SM, sInOk pPT I) ∧ (∀ v ∈ cu, v ∈ us_268) ∧ sWhU pPT SM H i_268 (mR pm_91) cu n u = true
theorem q_268_0 : pQ_268 u_268_0 := ⟨_, _, _, _, (pS_cons ok_189 (pS_nil)), (pV_nil), f_268_0⟩
theorem qb_268_0 : ∀ u ∈ [u_268_0], pQ_268 u := pU_cons q_268_0 (pU_nil)
theorem ok_268 : sInOk pPT i_268 := sInst3 (M := pm_91) (cus := us_268) pOk pg_91 (by decide +kernel) ⟨_, _, _, _, (pS_cons ok_267 (pS_nil)), (pV_cons (List.mem_of_getElem? (i := 0) rfl) (pV_nil)), e_268⟩ (show ∀ u ∈ us_268, pQ_268 u from qb_268_0)
def pQ_269 (u : sCu) : Prop := ∃ (SM : List sIn) (H : gHt) (cu : List sCu) (n : Nat), (∀ I ∈ SM, sInOk pPT I) ∧ (∀ v ∈ cu, v ∈ us_269) ∧ sWhU pPT SM H i_269 (mR pm_92) cu n u = true
theorem q_269_0 : pQ_269 u_269_0 := ⟨_, _, _, _, (pS_cons ok_266 (pS_nil)), (pV_cons (List.mem_of_getElem? (i := 2) rfl) (pV_cons (List.mem_of_getElem? (i := 3) rfl) (pV_nil))), f_269_0⟩
theorem q_269_1 : pQ_269 u_269_1 := ⟨_, _, _, _, (pS_cons ok_268 (pS_nil)), (pV_cons (List.mem_of_getElem? (i := 2) rfl) (pV_nil)), f_269_1⟩
theorem q_269_2 : pQ_269 u_269_2 := ⟨_, _, _, _, (pS_cons ok_191 (pS_nil)), (pV_nil), f_269_2⟩
theorem q_269_3 : pQ_269 u_269_3 := ⟨_, _, _, _, (pS_cons ok_113 (pS_cons ok_211 (pS_cons ok_266 (pS_nil)))), (pV_cons (List.mem_of_getElem? (i := 2) rfl) (pV_cons (List.mem_of_getElem? (i := 3) rfl) (pV_nil))), f_269_3⟩
theorem qb_269_0 : ∀ u ∈ [u_269_0, u_269_1, u_269_2, u_269_3], pQ_269 u := pU_cons q_269_0 (pU_cons q_269_1 (pU_cons q_269_2 (pU_cons q_269_3 (pU_nil))))
theorem ok_269 : sInOk pPT i_269 := sInst3 (M := pm_92) (cus := us_269) pOk pg_92 (by decide +kernel) ⟨_, _, _, _, (pS_cons ok_159 (pS_nil)), (pV_cons (List.mem_of_getElem? (i := 0) rfl) (pV_cons (List.mem_of_getElem? (i := 1) rfl) (pV_nil))), e_269⟩ (show ∀ u ∈ us_269, pQ_269 u from qb_269_0)
def pQ_270 (u : sCu) : Prop := ∃ (SM : List sIn) (H : gHt) (cu : List sCu) (n : Nat), (∀ I ∈ SM, sInOk pPT I) ∧ (∀ v ∈ cu, v ∈ us_270) ∧ sWhU pPT SM H i_270 (mR pm_93) cu n u = true
theorem q_270_0 : pQ_270 u_270_0 := ⟨_, _, _, _, (pS_cons ok_156 (pS_nil)), (pV_nil), f_270_0⟩
theorem q_270_1 : pQ_270 u_270_1 := ⟨_, _, _, _, (pS_cons ok_158 (pS_nil)), (pV_nil), f_270_1⟩
theorem q_270_2 : pQ_270 u_270_2 := ⟨_, _, _, _, (pS_cons ok_113 (pS_nil)), (pV_cons (List.mem_of_getElem? (i := 3) rfl) (pV_nil)), f_270_2⟩
theorem q_270_3 : pQ_270 u_270_3 := ⟨_, _, _, _, (pS_cons ok_156 (pS_cons ok_158 (pS_cons ok_269 (pS_nil)))), (pV_nil), f_270_3⟩
theorem qb_270_0 : ∀ u ∈ [u_270_0, u_270_1, u_270_2, u_270_3], pQ_270 u := pU_cons q_270_0 (pU_cons q_270_1 (pU_cons q_270_2 (pU_cons q_270_3 (pU_nil))))
theorem ok_270 : sInOk pPT i_270 := sInst3 (M := pm_93) (cus := us_270) pOk pg_93 (by decide +kernel) ⟨_, _, _, _, (pS_cons ok_119 (pS_cons ok_120 (pS_cons ok_121 (pS_cons ok_122 (pS_cons ok_123 (pS_cons ok_130 (pS_cons ok_139 (pS_cons ok_145 (pS_cons ok_151 (pS_cons ok_152 (pS_cons ok_153 (pS_cons ok_154 (pS_cons ok_155 (pS_nil)))))))))))))), (pV_cons (List.mem_of_getElem? (i := 0) rfl) (pV_cons (List.mem_of_getElem? (i := 1) rfl) (pV_cons (List.mem_of_getElem? (i := 2) rfl) (pV_nil)))), e_270⟩ (show ∀ u ∈ us_270, pQ_270 u from qb_270_0)
theorem ok_271 : sInOk pPT i_271 := sInst3 (M := pm_111) (cus := []) pOk pg_111 (by decide +kernel) ⟨_, _, _, _, (pS_nil), pV_nil, e_271⟩ pU_nil
def pQ_272 (u : sCu) : Prop := ∃ (SM : List sIn) (H : gHt) (cu : List sCu) (n : Nat), (∀ I ∈ SM, sInOk pPT I) ∧ (∀ v ∈ cu, v ∈ us_272) ∧ sWhU pPT SM H i_272 (mR pm_111) cu n u = true
theorem q_272_0 : pQ_272 u_272_0 := ⟨_, _, _, _, (pS_nil), (pV_cons (List.mem_of_getElem? (i := 0) rfl) (pV_nil)), f_272_0⟩
theorem qb_272_0 : ∀ u ∈ [u_272_0], pQ_272 u := pU_cons q_272_0 (pU_nil)
theorem ok_272 : sInOk pPT i_272 := sInst3 (M := pm_111) (cus := us_272) pOk pg_111 (by decide +kernel) ⟨_, _, _, _, (pS_nil), (pV_cons (List.mem_of_getElem? (i := 0) rfl) (pV_nil)), e_272⟩ (show ∀ u ∈ us_272, pQ_272 u from qb_272_0)
def pQ_273 (u : sCu) : Prop := ∃ (SM : List sIn) (H : gHt) (cu : List sCu) (n : Nat), (∀ I ∈ SM, sInOk pPT I) ∧ (∀ v ∈ cu, v ∈ us_273) ∧ sWhU pPT SM H i_273 (mR pm_111) cu n u = true
theorem q_273_0 : pQ_273 u_273_0 := ⟨_, _, _, _, (pS_nil), (pV_cons (List.mem_of_getElem? (i := 0) rfl) (pV_nil)), f_273_0⟩
theorem qb_273_0 : ∀ u ∈ [u_273_0], pQ_273 u := pU_cons q_273_0 (pU_nil)
theorem ok_273 : sInOk pPT i_273 := sInst3 (M := pm_111) (cus := us_273) pOk pg_111 (by decide +kernel) ⟨_, _, _, _, (pS_nil), (pV_cons (List.mem_of_getElem? (i := 0) rfl) (pV_nil)), e_273⟩ (show ∀ u ∈ us_273, pQ_273 u from qb_273_0)
def pQ_274 (u : sCu) : Prop := ∃ (SM : List sIn) (H : gHt) (cu : List sCu) (n : Nat), (∀ I ∈ SM, sInOk pPT I) ∧ (∀ v ∈ cu, v ∈ us_274) ∧ sWhU pPT SM H i_274 (mR pm_111) cu n u = true
theorem q_274_0 : pQ_274 u_274_0 := ⟨_, _, _, _, (pS_nil), (pV_cons (List.mem_of_getElem? (i := 0) rfl) (pV_nil)), f_274_0⟩
theorem qb_274_0 : ∀ u ∈ [u_274_0], pQ_274 u := pU_cons q_274_0 (pU_nil)
theorem ok_274 : sInOk pPT i_274 := sInst3 (M := pm_111) (cus := us_274) pOk pg_111 (by decide +kernel) ⟨_, _, _, _, (pS_nil), (pV_cons (List.mem_of_getElem? (i := 0) rfl) (pV_nil)), e_274⟩ (show ∀ u ∈ us_274, pQ_274 u from qb_274_0)
def pQ_275 (u : sCu) : Prop := ∃ (SM : List sIn) (H : gHt) (cu : List sCu) (n : Nat), (∀ I ∈ SM, sInOk pPT I) ∧ (∀ v ∈ cu, v ∈ us_275) ∧ sWhU pPT SM H i_275 (mR pm_111) cu n u = true
theorem q_275_0 : pQ_275 u_275_0 := ⟨_, _, _, _, (pS_nil), (pV_cons (List.mem_of_getElem? (i := 0) rfl) (pV_nil)), f_275_0⟩
theorem qb_275_0 : ∀ u ∈ [u_275_0], pQ_275 u := pU_cons q_275_0 (pU_nil)
theorem ok_275 : sInOk pPT i_275 := sInst3 (M := pm_111) (cus := us_275) pOk pg_111 (by decide +kernel) ⟨_, _, _, _, (pS_nil), (pV_cons (List.mem_of_getElem? (i := 0) rfl) (pV_nil)), e_275⟩ (show ∀ u ∈ us_275, pQ_275 u from qb_275_0)
def pQ_276 (u : sCu) : Prop := ∃ (SM : List sIn) (H : gHt) (cu : List sCu) (n : Nat), (∀ I ∈ SM, sInOk pPT I) ∧ (∀ v ∈ cu, v ∈ us_276) ∧ sWhU pPT SM H i_276 (mR pm_111) cu n u = true
theorem q_276_0 : pQ_276 u_276_0 := ⟨_, _, _, _, (pS_nil), (pV_cons (List.mem_of_getElem? (i := 0) rfl) (pV_nil)), f_276_0⟩
theorem qb_276_0 : ∀ u ∈ [u_276_0], pQ_276 u := pU_cons q_276_0 (pU_nil)
theorem ok_276 : sInOk pPT i_276 := sInst3 (M := pm_111) (cus := us_276) pOk pg_111 (by decide +kernel) ⟨_, _, _, _, (pS_nil), (pV_cons (List.mem_of_getElem? (i := 0) rfl) (pV_nil)), e_276⟩ (show ∀ u ∈ us_276, pQ_276 u from qb_276_0)
def pQ_277 (u : sCu) : Prop := ∃ (SM : List sIn) (H : gHt) (cu : List sCu) (n : Nat), (∀ I ∈ SM, sInOk pPT I) ∧ (∀ v ∈ cu, v ∈ us_277) ∧ sWhU pPT SM H i_277 (mR pm_111) cu n u = true
theorem q_277_0 : pQ_277 u_277_0 := ⟨_, _, _, _, (pS_nil), (pV_cons (List.mem_of_getElem? (i := 0) rfl) (pV_nil)), f_277_0⟩
theorem qb_277_0 : ∀ u ∈ [u_277_0], pQ_277 u := pU_cons q_277_0 (pU_nil)
theorem ok_277 : sInOk pPT i_277 := sInst3 (M := pm_111) (cus := us_277) pOk pg_111 (by decide +kernel) ⟨_, _, _, _, (pS_nil), (pV_cons (List.mem_of_getElem? (i := 0) rfl) (pV_nil)), e_277⟩ (show ∀ u ∈ us_277, pQ_277 u from qb_277_0)
def pQ_278 (u : sCu) : Prop := ∃ (SM : List sIn) (H : gHt) (cu : List sCu) (n : Nat), (∀ I ∈ SM, sInOk pPT I) ∧ (∀ v ∈ cu, v ∈ us_278) ∧ sWhU pPT SM H i_278 (mR pm_111) cu n u = true
theorem q_278_0 : pQ_278 u_278_0 := ⟨_, _, _, _, (pS_nil), (pV_cons (List.mem_of_getElem? (i := 0) rfl) (pV_nil)), f_278_0⟩
theorem qb_278_0 : ∀ u ∈ [u_278_0], pQ_278 u := pU_cons q_278_0 (pU_nil)
theorem ok_278 : sInOk pPT i_278 := sInst3 (M := pm_111) (cus := us_278) pOk pg_111 (by decide +kernel) ⟨_, _, _, _, (pS_nil), (pV_cons (List.mem_of_getElem? (i := 0) rfl) (pV_nil)), e_278⟩ (show ∀ u ∈ us_278, pQ_278 u from qb_278_0)
def pQ_279 (u : sCu) : Prop := ∃ (SM : List sIn) (H : gHt) (cu : List sCu) (n : Nat), (∀ I ∈ SM, sInOk pPT I) ∧ (∀ v ∈ cu, v ∈ us_279) ∧ sWhU pPT SM H i_279 (mR pm_111) cu n u = true
theorem q_279_0 : pQ_279 u_279_0 := ⟨_, _, _, _, (pS_nil), (pV_cons (List.mem_of_getElem? (i := 0) rfl) (pV_nil)), f_279_0⟩
theorem qb_279_0 : ∀ u ∈ [u_279_0], pQ_279 u := pU_cons q_279_0 (pU_nil)
theorem ok_279 : sInOk pPT i_279 := sInst3 (M := pm_111) (cus := us_279) pOk pg_111 (by decide +kernel) ⟨_, _, _, _, (pS_nil), (pV_cons (List.mem_of_getElem? (i := 0) rfl) (pV_nil)), e_279⟩ (show ∀ u ∈ us_279, pQ_279 u from qb_279_0)
def pQ_280 (u : sCu) : Prop := ∃ (SM : List sIn) (H : gHt) (cu : List sCu) (n : Nat), (∀ I ∈ SM, sInOk pPT I) ∧ (∀ v ∈ cu, v ∈ us_280) ∧ sWhU pPT SM H i_280 (mR pm_111) cu n u = true
theorem q_280_0 : pQ_280 u_280_0 := ⟨_, _, _, _, (pS_nil), (pV_cons (List.mem_of_getElem? (i := 0) rfl) (pV_nil)), f_280_0⟩
theorem qb_280_0 : ∀ u ∈ [u_280_0], pQ_280 u := pU_cons q_280_0 (pU_nil)
theorem ok_280 : sInOk pPT i_280 := sInst3 (M := pm_111) (cus := us_280) pOk pg_111 (by decide +kernel) ⟨_, _, _, _, (pS_nil), (pV_cons (List.mem_of_getElem? (i := 0) rfl) (pV_nil)), e_280⟩ (show ∀ u ∈ us_280, pQ_280 u from qb_280_0)
def pQ_281 (u : sCu) : Prop := ∃ (SM : List sIn) (H : gHt) (cu : List sCu) (n : Nat), (∀ I ∈ SM, sInOk pPT I) ∧ (∀ v ∈ cu, v ∈ us_281) ∧ sWhU pPT SM H i_281 (mR pm_111) cu n u = true
theorem q_281_0 : pQ_281 u_281_0 := ⟨_, _, _, _, (pS_nil), (pV_cons (List.mem_of_getElem? (i := 0) rfl) (pV_nil)), f_281_0⟩
theorem qb_281_0 : ∀ u ∈ [u_281_0], pQ_281 u := pU_cons q_281_0 (pU_nil)
theorem ok_281 : sInOk pPT i_281 := sInst3 (M := pm_111) (cus := us_281) pOk pg_111 (by decide +kernel) ⟨_, _, _, _, (pS_nil), (pV_cons (List.mem_of_getElem? (i := 0) rfl) (pV_nil)), e_281⟩ (show ∀ u ∈ us_281, pQ_281 u from qb_281_0)
def pQ_282 (u : sCu) : Prop := ∃ (SM : List sIn) (H : gHt) (cu : List sCu) (n : Nat), (∀ I ∈ SM, sInOk pPT I) ∧ (∀ v ∈ cu, v ∈ us_282) ∧ sWhU pPT SM H i_282 (mR pm_111) cu n u = true
theorem q_282_0 : pQ_282 u_282_0 := ⟨_, _, _, _, (pS_nil), (pV_cons (List.mem_of_getElem? (i := 0) rfl) (pV_nil)), f_282_0⟩
theorem qb_282_0 : ∀ u ∈ [u_282_0], pQ_282 u := pU_cons q_282_0 (pU_nil)
theorem ok_282 : sInOk pPT i_282 := sInst3 (M := pm_111) (cus := us_282) pOk pg_111 (by decide +kernel) ⟨_, _, _, _, (pS_nil), (pV_cons (List.mem_of_getElem? (i := 0) rfl) (pV_nil)), e_282⟩ (show ∀ u ∈ us_282, pQ_282 u from qb_282_0)
def pQ_283 (u : sCu) : Prop := ∃ (SM : List sIn) (H : gHt) (cu : List sCu) (n : Nat), (∀ I ∈ SM, sInOk pPT I) ∧ (∀ v ∈ cu, v ∈ us_283) ∧ sWhU pPT SM H i_283 (mR pm_104) cu n u = true
theorem q_283_0 : pQ_283 u_283_0 := ⟨_, _, _, _, (pS_nil), (pV_cons (List.mem_of_getElem? (i := 4) rfl) (pV_cons (List.mem_of_getElem? (i := 0) rfl) (pV_cons (List.mem_of_getElem? (i := 1) rfl) (pV_nil)))), f_283_0⟩
theorem q_283_1 : pQ_283 u_283_1 := ⟨_, _, _, _, (pS_nil), (pV_cons (List.mem_of_getElem? (i := 5) rfl) (pV_cons (List.mem_of_getElem? (i := 1) rfl) (pV_nil))), f_283_1⟩
theorem q_283_2 : pQ_283 u_283_2 := ⟨_, _, _, _, (pS_nil), (pV_cons (List.mem_of_getElem? (i := 5) rfl) (pV_cons (List.mem_of_getElem? (i := 2) rfl) (pV_cons (List.mem_of_getElem? (i := 3) rfl) (pV_nil)))), f_283_2⟩
theorem q_283_3 : pQ_283 u_283_3 := ⟨_, _, _, _, (pS_nil), (pV_cons (List.mem_of_getElem? (i := 5) rfl) (pV_cons (List.mem_of_getElem? (i := 3) rfl) (pV_nil))), f_283_3⟩
theorem q_283_4 : pQ_283 u_283_4 := ⟨_, _, _, _, (pS_cons ok_113 (pS_nil)), (pV_cons (List.mem_of_getElem? (i := 7) rfl) (pV_nil)), f_283_4⟩
theorem q_283_5 : pQ_283 u_283_5 := ⟨_, _, _, _, (pS_nil), (pV_cons (List.mem_of_getElem? (i := 8) rfl) (pV_nil)), f_283_5⟩
theorem q_283_6 : pQ_283 u_283_6 := ⟨_, _, _, _, (pS_nil), (pV_cons (List.mem_of_getElem? (i := 8) rfl) (pV_nil)), f_283_6⟩
theorem q_283_7 : pQ_283 u_283_7 := ⟨_, _, _, _, (pS_nil), (pV_nil), f_283_7⟩
theorem q_283_8 : pQ_283 u_283_8 := ⟨_, _, _, _, (pS_nil), (pV_nil), f_283_8⟩
theorem qb_283_0 : ∀ u ∈ [u_283_0, u_283_1, u_283_2, u_283_3, u_283_4, u_283_5, u_283_6, u_283_7, u_283_8], pQ_283 u := pU_cons q_283_0 (pU_cons q_283_1 (pU_cons q_283_2 (pU_cons q_283_3 (pU_cons q_283_4 (pU_cons q_283_5 (pU_cons q_283_6 (pU_cons q_283_7 (pU_cons q_283_8 (pU_nil)))))))))
theorem ok_283 : sInOk pPT i_283 := sInst3 (M := pm_104) (cus := us_283) pOk pg_104 (by decide +kernel) ⟨_, _, _, _, (pS_cons ok_124 (pS_cons ok_126 (pS_cons ok_127 (pS_cons ok_129 (pS_nil))))), (pV_cons (List.mem_of_getElem? (i := 0) rfl) (pV_cons (List.mem_of_getElem? (i := 1) rfl) (pV_cons (List.mem_of_getElem? (i := 2) rfl) (pV_cons (List.mem_of_getElem? (i := 3) rfl) (pV_nil))))), e_283⟩ (show ∀ u ∈ us_283, pQ_283 u from qb_283_0)
theorem ok_284 : sInOk pPT i_284 := sInst3 (M := pm_106) (cus := []) pOk pg_106 (by decide +kernel) ⟨_, _, _, _, (pS_cons ok_127 (pS_cons ok_131 (pS_cons ok_133 (pS_cons ok_135 (pS_cons ok_136 (pS_cons ok_138 (pS_nil))))))), pV_nil, e_284⟩ pU_nil
def pQ_285 (u : sCu) : Prop := ∃ (SM : List sIn) (H : gHt) (cu : List sCu) (n : Nat), (∀ I ∈ SM, sInOk pPT I) ∧ (∀ v ∈ cu, v ∈ us_285) ∧ sWhU pPT SM H i_285 (mR pm_105) cu n u = true
theorem q_285_0 : pQ_285 u_285_0 := ⟨_, _, _, _, (pS_nil), (pV_cons (List.mem_of_getElem? (i := 4) rfl) (pV_cons (List.mem_of_getElem? (i := 0) rfl) (pV_cons (List.mem_of_getElem? (i := 1) rfl) (pV_nil)))), f_285_0⟩
theorem q_285_1 : pQ_285 u_285_1 := ⟨_, _, _, _, (pS_nil), (pV_cons (List.mem_of_getElem? (i := 5) rfl) (pV_cons (List.mem_of_getElem? (i := 1) rfl) (pV_nil))), f_285_1⟩
theorem q_285_2 : pQ_285 u_285_2 := ⟨_, _, _, _, (pS_nil), (pV_cons (List.mem_of_getElem? (i := 5) rfl) (pV_cons (List.mem_of_getElem? (i := 2) rfl) (pV_cons (List.mem_of_getElem? (i := 3) rfl) (pV_nil)))), f_285_2⟩
theorem q_285_3 : pQ_285 u_285_3 := ⟨_, _, _, _, (pS_nil), (pV_cons (List.mem_of_getElem? (i := 5) rfl) (pV_cons (List.mem_of_getElem? (i := 3) rfl) (pV_nil))), f_285_3⟩
theorem q_285_4 : pQ_285 u_285_4 := ⟨_, _, _, _, (pS_cons ok_113 (pS_nil)), (pV_cons (List.mem_of_getElem? (i := 7) rfl) (pV_nil)), f_285_4⟩
theorem q_285_5 : pQ_285 u_285_5 := ⟨_, _, _, _, (pS_nil), (pV_cons (List.mem_of_getElem? (i := 8) rfl) (pV_nil)), f_285_5⟩
theorem q_285_6 : pQ_285 u_285_6 := ⟨_, _, _, _, (pS_nil), (pV_cons (List.mem_of_getElem? (i := 8) rfl) (pV_nil)), f_285_6⟩
theorem q_285_7 : pQ_285 u_285_7 := ⟨_, _, _, _, (pS_cons ok_142 (pS_nil)), (pV_nil), f_285_7⟩
theorem q_285_8 : pQ_285 u_285_8 := ⟨_, _, _, _, (pS_cons ok_144 (pS_nil)), (pV_nil), f_285_8⟩
theorem qb_285_0 : ∀ u ∈ [u_285_0, u_285_1, u_285_2, u_285_3, u_285_4, u_285_5, u_285_6, u_285_7, u_285_8], pQ_285 u := pU_cons q_285_0 (pU_cons q_285_1 (pU_cons q_285_2 (pU_cons q_285_3 (pU_cons q_285_4 (pU_cons q_285_5 (pU_cons q_285_6 (pU_cons q_285_7 (pU_cons q_285_8 (pU_nil)))))))))
theorem ok_285 : sInOk pPT i_285 := sInst3 (M := pm_105) (cus := us_285) pOk pg_105 (by decide +kernel) ⟨_, _, _, _, (pS_cons ok_126 (pS_cons ok_127 (pS_cons ok_129 (pS_cons ok_140 (pS_nil))))), (pV_cons (List.mem_of_getElem? (i := 0) rfl) (pV_cons (List.mem_of_getElem? (i := 1) rfl) (pV_cons (List.mem_of_getElem? (i := 2) rfl) (pV_cons (List.mem_of_getElem? (i := 3) rfl) (pV_nil))))), e_285⟩ (show ∀ u ∈ us_285, pQ_285 u from qb_285_0)
theorem ok_286 : sInOk pPT i_286 := sInst3 (M := pm_103) (cus := []) pOk pg_103 (by decide +kernel) ⟨_, _, _, _, (pS_cons ok_135 (pS_cons ok_138 (pS_cons ok_146 (pS_cons ok_148 (pS_cons ok_150 (pS_nil)))))), pV_nil, e_286⟩ pU_nil
theorem ok_287 : sInOk pPT i_287 := sInst3 (M := pm_103) (cus := []) pOk pg_103 (by decide +kernel) ⟨_, _, _, _, (pS_cons ok_135 (pS_cons ok_138 (pS_cons ok_146 (pS_cons ok_148 (pS_cons ok_150 (pS_nil)))))), pV_nil, e_287⟩ pU_nil
theorem ok_288 : sInOk pPT i_288 := sInst3 (M := pm_103) (cus := []) pOk pg_103 (by decide +kernel) ⟨_, _, _, _, (pS_cons ok_135 (pS_cons ok_138 (pS_cons ok_146 (pS_cons ok_148 (pS_cons ok_150 (pS_nil)))))), pV_nil, e_288⟩ pU_nil
theorem ok_289 : sInOk pPT i_289 := sInst3 (M := pm_103) (cus := []) pOk pg_103 (by decide +kernel) ⟨_, _, _, _, (pS_cons ok_135 (pS_cons ok_138 (pS_cons ok_146 (pS_cons ok_148 (pS_cons ok_150 (pS_nil)))))), pV_nil, e_289⟩ pU_nil
theorem ok_290 : sInOk pPT i_290 := sInst3 (M := pm_103) (cus := []) pOk pg_103 (by decide +kernel) ⟨_, _, _, _, (pS_cons ok_135 (pS_cons ok_138 (pS_cons ok_146 (pS_cons ok_148 (pS_cons ok_150 (pS_nil)))))), pV_nil, e_290⟩ pU_nil
theorem ok_291 : sInOk pPT i_291 := sInst3 (M := pm_92) (cus := []) pOk pg_92 (by decide +kernel) ⟨_, _, _, _, (pS_nil), pV_nil, e_291⟩ pU_nil
def pQ_292 (u : sCu) : Prop := ∃ (SM : List sIn) (H : gHt) (cu : List sCu) (n : Nat), (∀ I ∈ SM, sInOk pPT I) ∧ (∀ v ∈ cu, v ∈ us_292) ∧ sWhU pPT SM H i_292 (mR pm_93) cu n u = true
theorem q_292_0 : pQ_292 u_292_0 := ⟨_, _, _, _, (pS_cons ok_156 (pS_nil)), (pV_nil), f_292_0⟩
theorem q_292_1 : pQ_292 u_292_1 := ⟨_, _, _, _, (pS_cons ok_158 (pS_nil)), (pV_nil), f_292_1⟩
theorem q_292_2 : pQ_292 u_292_2 := ⟨_, _, _, _, (pS_nil), (pV_cons (List.mem_of_getElem? (i := 3) rfl) (pV_nil)), f_292_2⟩
theorem q_292_3 : pQ_292 u_292_3 := ⟨_, _, _, _, (pS_cons ok_156 (pS_cons ok_291 (pS_nil))), (pV_nil), f_292_3⟩
theorem qb_292_0 : ∀ u ∈ [u_292_0, u_292_1, u_292_2, u_292_3], pQ_292 u := pU_cons q_292_0 (pU_cons q_292_1 (pU_cons q_292_2 (pU_cons q_292_3 (pU_nil))))
theorem ok_292 : sInOk pPT i_292 := sInst3 (M := pm_93) (cus := us_292) pOk pg_93 (by decide +kernel) ⟨_, _, _, _, (pS_cons ok_119 (pS_cons ok_120 (pS_cons ok_121 (pS_cons ok_122 (pS_cons ok_123 (pS_cons ok_283 (pS_cons ok_284 (pS_cons ok_285 (pS_cons ok_286 (pS_cons ok_287 (pS_cons ok_288 (pS_cons ok_289 (pS_cons ok_290 (pS_nil)))))))))))))), (pV_cons (List.mem_of_getElem? (i := 0) rfl) (pV_cons (List.mem_of_getElem? (i := 1) rfl) (pV_cons (List.mem_of_getElem? (i := 2) rfl) (pV_nil)))), e_292⟩ (show ∀ u ∈ us_292, pQ_292 u from qb_292_0)
def pQ_293 (u : sCu) : Prop := ∃ (SM : List sIn) (H : gHt) (cu : List sCu) (n : Nat), (∀ I ∈ SM, sInOk pPT I) ∧ (∀ v ∈ cu, v ∈ us_293) ∧ sWhU pPT SM H i_293 (mR pm_85) cu n u = true
theorem q_293_0 : pQ_293 u_293_0 := ⟨_, _, _, _, (pS_nil), (pV_nil), f_293_0⟩
theorem q_293_1 : pQ_293 u_293_1 := ⟨_, _, _, _, (pS_nil), (pV_cons (List.mem_of_getElem? (i := 3) rfl) (pV_nil)), f_293_1⟩
theorem q_293_2 : pQ_293 u_293_2 := ⟨_, _, _, _, (pS_nil), (pV_nil), f_293_2⟩
theorem q_293_3 : pQ_293 u_293_3 := ⟨_, _, _, _, (pS_nil), (pV_cons (List.mem_of_getElem? (i := 4) rfl) (pV_nil)), f_293_3⟩
theorem q_293_4 : pQ_293 u_293_4 := ⟨_, _, _, _, (pS_nil), (pV_cons (List.mem_of_getElem? (i := 5) rfl) (pV_nil)), f_293_4⟩
theorem q_293_5 : pQ_293 u_293_5 := ⟨_, _, _, _, (pS_nil), (pV_cons (List.mem_of_getElem? (i := 6) rfl) (pV_nil)), f_293_5⟩
theorem q_293_6 : pQ_293 u_293_6 := ⟨_, _, _, _, (pS_nil), (pV_cons (List.mem_of_getElem? (i := 7) rfl) (pV_nil)), f_293_6⟩
theorem q_293_7 : pQ_293 u_293_7 := ⟨_, _, _, _, (pS_nil), (pV_cons (List.mem_of_getElem? (i := 8) rfl) (pV_nil)), f_293_7⟩
theorem q_293_8 : pQ_293 u_293_8 := ⟨_, _, _, _, (pS_nil), (pV_cons (List.mem_of_getElem? (i := 9) rfl) (pV_nil)), f_293_8⟩
theorem q_293_9 : pQ_293 u_293_9 := ⟨_, _, _, _, (pS_nil), (pV_cons (List.mem_of_getElem? (i := 10) rfl) (pV_nil)), f_293_9⟩
theorem q_293_10 : pQ_293 u_293_10 := ⟨_, _, _, _, (pS_cons ok_113 (pS_nil)), (pV_cons (List.mem_of_getElem? (i := 11) rfl) (pV_nil)), f_293_10⟩
theorem q_293_11 : pQ_293 u_293_11 := ⟨_, _, _, _, (pS_cons ok_270 (pS_nil)), (pV_cons (List.mem_of_getElem? (i := 12) rfl) (pV_cons (List.mem_of_getElem? (i := 13) rfl) (pV_cons (List.mem_of_getElem? (i := 11) rfl) (pV_cons (List.mem_of_getElem? (i := 14) rfl) (pV_cons (List.mem_of_getElem? (i := 15) rfl) (pV_nil)))))), f_293_11⟩
theorem q_293_12 : pQ_293 u_293_12 := ⟨_, _, _, _, (pS_cons ok_271 (pS_cons ok_272 (pS_cons ok_273 (pS_cons ok_274 (pS_cons ok_275 (pS_cons ok_276 (pS_cons ok_277 (pS_cons ok_278 (pS_cons ok_279 (pS_cons ok_280 (pS_cons ok_281 (pS_cons ok_282 (pS_nil))))))))))))), (pV_nil), f_293_12⟩
theorem q_293_13 : pQ_293 u_293_13 := ⟨_, _, _, _, (pS_nil), (pV_cons (List.mem_of_getElem? (i := 16) rfl) (pV_nil)), f_293_13⟩
theorem q_293_14 : pQ_293 u_293_14 := ⟨_, _, _, _, (pS_nil), (pV_cons (List.mem_of_getElem? (i := 17) rfl) (pV_nil)), f_293_14⟩
theorem q_293_15 : pQ_293 u_293_15 := ⟨_, _, _, _, (pS_cons ok_292 (pS_nil)), (pV_cons (List.mem_of_getElem? (i := 18) rfl) (pV_cons (List.mem_of_getElem? (i := 14) rfl) (pV_cons (List.mem_of_getElem? (i := 15) rfl) (pV_nil)))), f_293_15⟩
theorem q_293_16 : pQ_293 u_293_16 := ⟨_, _, _, _, (pS_nil), (pV_nil), f_293_16⟩
theorem q_293_17 : pQ_293 u_293_17 := ⟨_, _, _, _, (pS_nil), (pV_nil), f_293_17⟩
theorem q_293_18 : pQ_293 u_293_18 := ⟨_, _, _, _, (pS_cons ok_271 (pS_cons ok_272 (pS_cons ok_273 (pS_cons ok_274 (pS_cons ok_275 (pS_cons ok_276 (pS_cons ok_277 (pS_cons ok_278 (pS_cons ok_279 (pS_cons ok_280 (pS_cons ok_281 (pS_cons ok_282 (pS_nil))))))))))))), (pV_nil), f_293_18⟩
theorem qb_293_0 : ∀ u ∈ [u_293_0, u_293_1, u_293_2, u_293_3, u_293_4, u_293_5, u_293_6, u_293_7, u_293_8, u_293_9], pQ_293 u := pU_cons q_293_0 (pU_cons q_293_1 (pU_cons q_293_2 (pU_cons q_293_3 (pU_cons q_293_4 (pU_cons q_293_5 (pU_cons q_293_6 (pU_cons q_293_7 (pU_cons q_293_8 (pU_cons q_293_9 (pU_nil))))))))))
theorem qb_293_1 : ∀ u ∈ [u_293_10, u_293_11, u_293_12, u_293_13, u_293_14, u_293_15, u_293_16, u_293_17, u_293_18], pQ_293 u := pU_cons q_293_10 (pU_cons q_293_11 (pU_cons q_293_12 (pU_cons q_293_13 (pU_cons q_293_14 (pU_cons q_293_15 (pU_cons q_293_16 (pU_cons q_293_17 (pU_cons q_293_18 (pU_nil)))))))))
theorem ok_293 : sInOk pPT i_293 := sInst3 (M := pm_85) (cus := us_293) pOk pg_85 (by decide +kernel) ⟨_, _, _, _, (pS_nil), (pV_cons (List.mem_of_getElem? (i := 0) rfl) (pV_cons (List.mem_of_getElem? (i := 1) rfl) (pV_cons (List.mem_of_getElem? (i := 2) rfl) (pV_nil)))), e_293⟩ (show ∀ u ∈ us_293, pQ_293 u from (pU_app qb_293_0 qb_293_1))
def pQ_294 (u : sCu) : Prop := ∃ (SM : List sIn) (H : gHt) (cu : List sCu) (n : Nat), (∀ I ∈ SM, sInOk pPT I) ∧ (∀ v ∈ cu, v ∈ us_294) ∧ sWhU pPT SM H i_294 (mR pm_85) cu n u = true
theorem q_294_0 : pQ_294 u_294_0 := ⟨_, _, _, _, (pS_nil), (pV_nil), f_294_0⟩
theorem q_294_1 : pQ_294 u_294_1 := ⟨_, _, _, _, (pS_nil), (pV_cons (List.mem_of_getElem? (i := 3) rfl) (pV_nil)), f_294_1⟩
theorem q_294_2 : pQ_294 u_294_2 := ⟨_, _, _, _, (pS_nil), (pV_nil), f_294_2⟩
theorem q_294_3 : pQ_294 u_294_3 := ⟨_, _, _, _, (pS_nil), (pV_cons (List.mem_of_getElem? (i := 4) rfl) (pV_nil)), f_294_3⟩
theorem q_294_4 : pQ_294 u_294_4 := ⟨_, _, _, _, (pS_nil), (pV_cons (List.mem_of_getElem? (i := 5) rfl) (pV_nil)), f_294_4⟩
theorem q_294_5 : pQ_294 u_294_5 := ⟨_, _, _, _, (pS_nil), (pV_cons (List.mem_of_getElem? (i := 6) rfl) (pV_nil)), f_294_5⟩
theorem q_294_6 : pQ_294 u_294_6 := ⟨_, _, _, _, (pS_nil), (pV_cons (List.mem_of_getElem? (i := 7) rfl) (pV_nil)), f_294_6⟩
theorem q_294_7 : pQ_294 u_294_7 := ⟨_, _, _, _, (pS_nil), (pV_cons (List.mem_of_getElem? (i := 8) rfl) (pV_nil)), f_294_7⟩
theorem q_294_8 : pQ_294 u_294_8 := ⟨_, _, _, _, (pS_nil), (pV_cons (List.mem_of_getElem? (i := 9) rfl) (pV_nil)), f_294_8⟩
theorem q_294_9 : pQ_294 u_294_9 := ⟨_, _, _, _, (pS_nil), (pV_cons (List.mem_of_getElem? (i := 10) rfl) (pV_nil)), f_294_9⟩
theorem q_294_10 : pQ_294 u_294_10 := ⟨_, _, _, _, (pS_cons ok_113 (pS_nil)), (pV_cons (List.mem_of_getElem? (i := 11) rfl) (pV_nil)), f_294_10⟩
theorem q_294_11 : pQ_294 u_294_11 := ⟨_, _, _, _, (pS_cons ok_270 (pS_nil)), (pV_cons (List.mem_of_getElem? (i := 12) rfl) (pV_cons (List.mem_of_getElem? (i := 13) rfl) (pV_cons (List.mem_of_getElem? (i := 11) rfl) (pV_cons (List.mem_of_getElem? (i := 14) rfl) (pV_cons (List.mem_of_getElem? (i := 15) rfl) (pV_nil)))))), f_294_11⟩
theorem q_294_12 : pQ_294 u_294_12 := ⟨_, _, _, _, (pS_cons ok_271 (pS_cons ok_272 (pS_cons ok_273 (pS_cons ok_274 (pS_cons ok_275 (pS_cons ok_276 (pS_cons ok_277 (pS_cons ok_278 (pS_cons ok_279 (pS_cons ok_280 (pS_cons ok_281 (pS_cons ok_282 (pS_nil))))))))))))), (pV_nil), f_294_12⟩
theorem q_294_13 : pQ_294 u_294_13 := ⟨_, _, _, _, (pS_nil), (pV_cons (List.mem_of_getElem? (i := 16) rfl) (pV_nil)), f_294_13⟩
theorem q_294_14 : pQ_294 u_294_14 := ⟨_, _, _, _, (pS_nil), (pV_cons (List.mem_of_getElem? (i := 17) rfl) (pV_nil)), f_294_14⟩
theorem q_294_15 : pQ_294 u_294_15 := ⟨_, _, _, _, (pS_cons ok_292 (pS_nil)), (pV_cons (List.mem_of_getElem? (i := 18) rfl) (pV_cons (List.mem_of_getElem? (i := 14) rfl) (pV_cons (List.mem_of_getElem? (i := 15) rfl) (pV_nil)))), f_294_15⟩
theorem q_294_16 : pQ_294 u_294_16 := ⟨_, _, _, _, (pS_nil), (pV_nil), f_294_16⟩
theorem q_294_17 : pQ_294 u_294_17 := ⟨_, _, _, _, (pS_nil), (pV_nil), f_294_17⟩
theorem q_294_18 : pQ_294 u_294_18 := ⟨_, _, _, _, (pS_cons ok_271 (pS_cons ok_272 (pS_cons ok_273 (pS_cons ok_274 (pS_cons ok_275 (pS_cons ok_276 (pS_cons ok_277 (pS_cons ok_278 (pS_cons ok_279 (pS_cons ok_280 (pS_cons ok_281 (pS_cons ok_282 (pS_nil))))))))))))), (pV_nil), f_294_18⟩
theorem qb_294_0 : ∀ u ∈ [u_294_0, u_294_1, u_294_2, u_294_3, u_294_4, u_294_5, u_294_6, u_294_7, u_294_8, u_294_9], pQ_294 u := pU_cons q_294_0 (pU_cons q_294_1 (pU_cons q_294_2 (pU_cons q_294_3 (pU_cons q_294_4 (pU_cons q_294_5 (pU_cons q_294_6 (pU_cons q_294_7 (pU_cons q_294_8 (pU_cons q_294_9 (pU_nil))))))))))
theorem qb_294_1 : ∀ u ∈ [u_294_10, u_294_11, u_294_12, u_294_13, u_294_14, u_294_15, u_294_16, u_294_17, u_294_18], pQ_294 u := pU_cons q_294_10 (pU_cons q_294_11 (pU_cons q_294_12 (pU_cons q_294_13 (pU_cons q_294_14 (pU_cons q_294_15 (pU_cons q_294_16 (pU_cons q_294_17 (pU_cons q_294_18 (pU_nil)))))))))
theorem ok_294 : sInOk pPT i_294 := sInst3 (M := pm_85) (cus := us_294) pOk pg_85 (by decide +kernel) ⟨_, _, _, _, (pS_nil), (pV_cons (List.mem_of_getElem? (i := 0) rfl) (pV_cons (List.mem_of_getElem? (i := 1) rfl) (pV_cons (List.mem_of_getElem? (i := 2) rfl) (pV_nil)))), e_294⟩ (show ∀ u ∈ us_294, pQ_294 u from (pU_app qb_294_0 qb_294_1))
def pQ_295 (u : sCu) : Prop := ∃ (SM : List sIn) (H : gHt) (cu : List sCu) (n : Nat), (∀ I ∈ SM, sInOk pPT I) ∧ (∀ v ∈ cu, v ∈ us_295) ∧ sWhU pPT SM H i_295 (mR pm_85) cu n u = true
theorem q_295_0 : pQ_295 u_295_0 := ⟨_, _, _, _, (pS_nil), (pV_nil), f_295_0⟩
theorem q_295_1 : pQ_295 u_295_1 := ⟨_, _, _, _, (pS_nil), (pV_cons (List.mem_of_getElem? (i := 3) rfl) (pV_nil)), f_295_1⟩
theorem q_295_2 : pQ_295 u_295_2 := ⟨_, _, _, _, (pS_nil), (pV_nil), f_295_2⟩
theorem q_295_3 : pQ_295 u_295_3 := ⟨_, _, _, _, (pS_nil), (pV_cons (List.mem_of_getElem? (i := 4) rfl) (pV_nil)), f_295_3⟩
theorem q_295_4 : pQ_295 u_295_4 := ⟨_, _, _, _, (pS_nil), (pV_cons (List.mem_of_getElem? (i := 5) rfl) (pV_nil)), f_295_4⟩
theorem q_295_5 : pQ_295 u_295_5 := ⟨_, _, _, _, (pS_nil), (pV_cons (List.mem_of_getElem? (i := 6) rfl) (pV_nil)), f_295_5⟩
theorem q_295_6 : pQ_295 u_295_6 := ⟨_, _, _, _, (pS_nil), (pV_cons (List.mem_of_getElem? (i := 7) rfl) (pV_nil)), f_295_6⟩
theorem q_295_7 : pQ_295 u_295_7 := ⟨_, _, _, _, (pS_nil), (pV_cons (List.mem_of_getElem? (i := 8) rfl) (pV_nil)), f_295_7⟩
theorem q_295_8 : pQ_295 u_295_8 := ⟨_, _, _, _, (pS_nil), (pV_cons (List.mem_of_getElem? (i := 9) rfl) (pV_nil)), f_295_8⟩
theorem q_295_9 : pQ_295 u_295_9 := ⟨_, _, _, _, (pS_nil), (pV_cons (List.mem_of_getElem? (i := 10) rfl) (pV_nil)), f_295_9⟩
theorem q_295_10 : pQ_295 u_295_10 := ⟨_, _, _, _, (pS_cons ok_113 (pS_nil)), (pV_cons (List.mem_of_getElem? (i := 11) rfl) (pV_nil)), f_295_10⟩
theorem q_295_11 : pQ_295 u_295_11 := ⟨_, _, _, _, (pS_cons ok_270 (pS_nil)), (pV_cons (List.mem_of_getElem? (i := 12) rfl) (pV_cons (List.mem_of_getElem? (i := 13) rfl) (pV_cons (List.mem_of_getElem? (i := 11) rfl) (pV_cons (List.mem_of_getElem? (i := 14) rfl) (pV_cons (List.mem_of_getElem? (i := 15) rfl) (pV_nil)))))), f_295_11⟩
theorem q_295_12 : pQ_295 u_295_12 := ⟨_, _, _, _, (pS_cons ok_271 (pS_cons ok_272 (pS_cons ok_273 (pS_cons ok_274 (pS_cons ok_275 (pS_cons ok_276 (pS_cons ok_277 (pS_cons ok_278 (pS_cons ok_279 (pS_cons ok_280 (pS_cons ok_281 (pS_cons ok_282 (pS_nil))))))))))))), (pV_nil), f_295_12⟩
theorem q_295_13 : pQ_295 u_295_13 := ⟨_, _, _, _, (pS_nil), (pV_cons (List.mem_of_getElem? (i := 16) rfl) (pV_nil)), f_295_13⟩
theorem q_295_14 : pQ_295 u_295_14 := ⟨_, _, _, _, (pS_nil), (pV_cons (List.mem_of_getElem? (i := 17) rfl) (pV_nil)), f_295_14⟩
theorem q_295_15 : pQ_295 u_295_15 := ⟨_, _, _, _, (pS_cons ok_292 (pS_nil)), (pV_cons (List.mem_of_getElem? (i := 18) rfl) (pV_cons (List.mem_of_getElem? (i := 14) rfl) (pV_cons (List.mem_of_getElem? (i := 15) rfl) (pV_nil)))), f_295_15⟩
theorem q_295_16 : pQ_295 u_295_16 := ⟨_, _, _, _, (pS_nil), (pV_nil), f_295_16⟩
theorem q_295_17 : pQ_295 u_295_17 := ⟨_, _, _, _, (pS_nil), (pV_nil), f_295_17⟩
theorem q_295_18 : pQ_295 u_295_18 := ⟨_, _, _, _, (pS_cons ok_271 (pS_cons ok_272 (pS_cons ok_273 (pS_cons ok_274 (pS_cons ok_275 (pS_cons ok_276 (pS_cons ok_277 (pS_cons ok_278 (pS_cons ok_279 (pS_cons ok_280 (pS_cons ok_281 (pS_cons ok_282 (pS_nil))))))))))))), (pV_nil), f_295_18⟩
theorem qb_295_0 : ∀ u ∈ [u_295_0, u_295_1, u_295_2, u_295_3, u_295_4, u_295_5, u_295_6, u_295_7, u_295_8, u_295_9], pQ_295 u := pU_cons q_295_0 (pU_cons q_295_1 (pU_cons q_295_2 (pU_cons q_295_3 (pU_cons q_295_4 (pU_cons q_295_5 (pU_cons q_295_6 (pU_cons q_295_7 (pU_cons q_295_8 (pU_cons q_295_9 (pU_nil))))))))))
theorem qb_295_1 : ∀ u ∈ [u_295_10, u_295_11, u_295_12, u_295_13, u_295_14, u_295_15, u_295_16, u_295_17, u_295_18], pQ_295 u := pU_cons q_295_10 (pU_cons q_295_11 (pU_cons q_295_12 (pU_cons q_295_13 (pU_cons q_295_14 (pU_cons q_295_15 (pU_cons q_295_16 (pU_cons q_295_17 (pU_cons q_295_18 (pU_nil)))))))))
theorem ok_295 : sInOk pPT i_295 := sInst3 (M := pm_85) (cus := us_295) pOk pg_85 (by decide +kernel) ⟨_, _, _, _, (pS_nil), (pV_cons (List.mem_of_getElem? (i := 0) rfl) (pV_cons (List.mem_of_getElem? (i := 1) rfl) (pV_cons (List.mem_of_getElem? (i := 2) rfl) (pV_nil)))), e_295⟩ (show ∀ u ∈ us_295, pQ_295 u from (pU_app qb_295_0 qb_295_1))
def pQ_296 (u : sCu) : Prop := ∃ (SM : List sIn) (H : gHt) (cu : List sCu) (n : Nat), (∀ I ∈ SM, sInOk pPT I) ∧ (∀ v ∈ cu, v ∈ us_296) ∧ sWhU pPT SM H i_296 (mR pm_85) cu n u = true
theorem q_296_0 : pQ_296 u_296_0 := ⟨_, _, _, _, (pS_nil), (pV_nil), f_296_0⟩
theorem q_296_1 : pQ_296 u_296_1 := ⟨_, _, _, _, (pS_nil), (pV_cons (List.mem_of_getElem? (i := 3) rfl) (pV_nil)), f_296_1⟩
theorem q_296_2 : pQ_296 u_296_2 := ⟨_, _, _, _, (pS_nil), (pV_nil), f_296_2⟩
theorem q_296_3 : pQ_296 u_296_3 := ⟨_, _, _, _, (pS_nil), (pV_cons (List.mem_of_getElem? (i := 4) rfl) (pV_nil)), f_296_3⟩
theorem q_296_4 : pQ_296 u_296_4 := ⟨_, _, _, _, (pS_nil), (pV_cons (List.mem_of_getElem? (i := 5) rfl) (pV_nil)), f_296_4⟩
theorem q_296_5 : pQ_296 u_296_5 := ⟨_, _, _, _, (pS_nil), (pV_cons (List.mem_of_getElem? (i := 6) rfl) (pV_nil)), f_296_5⟩
theorem q_296_6 : pQ_296 u_296_6 := ⟨_, _, _, _, (pS_nil), (pV_cons (List.mem_of_getElem? (i := 7) rfl) (pV_nil)), f_296_6⟩
theorem q_296_7 : pQ_296 u_296_7 := ⟨_, _, _, _, (pS_nil), (pV_cons (List.mem_of_getElem? (i := 8) rfl) (pV_nil)), f_296_7⟩
theorem q_296_8 : pQ_296 u_296_8 := ⟨_, _, _, _, (pS_nil), (pV_cons (List.mem_of_getElem? (i := 9) rfl) (pV_nil)), f_296_8⟩
theorem q_296_9 : pQ_296 u_296_9 := ⟨_, _, _, _, (pS_nil), (pV_cons (List.mem_of_getElem? (i := 10) rfl) (pV_nil)), f_296_9⟩
theorem q_296_10 : pQ_296 u_296_10 := ⟨_, _, _, _, (pS_cons ok_113 (pS_nil)), (pV_cons (List.mem_of_getElem? (i := 11) rfl) (pV_nil)), f_296_10⟩
theorem q_296_11 : pQ_296 u_296_11 := ⟨_, _, _, _, (pS_cons ok_270 (pS_nil)), (pV_cons (List.mem_of_getElem? (i := 12) rfl) (pV_cons (List.mem_of_getElem? (i := 13) rfl) (pV_cons (List.mem_of_getElem? (i := 11) rfl) (pV_cons (List.mem_of_getElem? (i := 14) rfl) (pV_cons (List.mem_of_getElem? (i := 15) rfl) (pV_nil)))))), f_296_11⟩
theorem q_296_12 : pQ_296 u_296_12 := ⟨_, _, _, _, (pS_cons ok_271 (pS_cons ok_272 (pS_cons ok_273 (pS_cons ok_274 (pS_cons ok_275 (pS_cons ok_276 (pS_cons ok_277 (pS_cons ok_278 (pS_cons ok_279 (pS_cons ok_280 (pS_cons ok_281 (pS_cons ok_282 (pS_nil))))))))))))), (pV_nil), f_296_12⟩
theorem q_296_13 : pQ_296 u_296_13 := ⟨_, _, _, _, (pS_nil), (pV_cons (List.mem_of_getElem? (i := 16) rfl) (pV_nil)), f_296_13⟩
theorem q_296_14 : pQ_296 u_296_14 := ⟨_, _, _, _, (pS_nil), (pV_cons (List.mem_of_getElem? (i := 17) rfl) (pV_nil)), f_296_14⟩
theorem q_296_15 : pQ_296 u_296_15 := ⟨_, _, _, _, (pS_cons ok_292 (pS_nil)), (pV_cons (List.mem_of_getElem? (i := 18) rfl) (pV_cons (List.mem_of_getElem? (i := 14) rfl) (pV_cons (List.mem_of_getElem? (i := 15) rfl) (pV_nil)))), f_296_15⟩
theorem q_296_16 : pQ_296 u_296_16 := ⟨_, _, _, _, (pS_nil), (pV_nil), f_296_16⟩
theorem q_296_17 : pQ_296 u_296_17 := ⟨_, _, _, _, (pS_nil), (pV_nil), f_296_17⟩
theorem q_296_18 : pQ_296 u_296_18 := ⟨_, _, _, _, (pS_cons ok_271 (pS_cons ok_272 (pS_cons ok_273 (pS_cons ok_274 (pS_cons ok_275 (pS_cons ok_276 (pS_cons ok_277 (pS_cons ok_278 (pS_cons ok_279 (pS_cons ok_280 (pS_cons ok_281 (pS_cons ok_282 (pS_nil))))))))))))), (pV_nil), f_296_18⟩
theorem qb_296_0 : ∀ u ∈ [u_296_0, u_296_1, u_296_2, u_296_3, u_296_4, u_296_5, u_296_6, u_296_7, u_296_8, u_296_9], pQ_296 u := pU_cons q_296_0 (pU_cons q_296_1 (pU_cons q_296_2 (pU_cons q_296_3 (pU_cons q_296_4 (pU_cons q_296_5 (pU_cons q_296_6 (pU_cons q_296_7 (pU_cons q_296_8 (pU_cons q_296_9 (pU_nil))))))))))
theorem qb_296_1 : ∀ u ∈ [u_296_10, u_296_11, u_296_12, u_296_13, u_296_14, u_296_15, u_296_16, u_296_17, u_296_18], pQ_296 u := pU_cons q_296_10 (pU_cons q_296_11 (pU_cons q_296_12 (pU_cons q_296_13 (pU_cons q_296_14 (pU_cons q_296_15 (pU_cons q_296_16 (pU_cons q_296_17 (pU_cons q_296_18 (pU_nil)))))))))
theorem ok_296 : sInOk pPT i_296 := sInst3 (M := pm_85) (cus := us_296) pOk pg_85 (by decide +kernel) ⟨_, _, _, _, (pS_nil), (pV_cons (List.mem_of_getElem? (i := 0) rfl) (pV_cons (List.mem_of_getElem? (i := 1) rfl) (pV_cons (List.mem_of_getElem? (i := 2) rfl) (pV_nil)))), e_296⟩ (show ∀ u ∈ us_296, pQ_296 u from (pU_app qb_296_0 qb_296_1))
def pQ_297 (u : sCu) : Prop := ∃ (SM : List sIn) (H : gHt) (cu : List sCu) (n : Nat), (∀ I ∈ SM, sInOk pPT I) ∧ (∀ v ∈ cu, v ∈ us_297) ∧ sWhU pPT SM H i_297 (mR pm_142) cu n u = true
theorem q_297_0 : pQ_297 u_297_0 := ⟨_, _, _, _, (pS_nil), (pV_cons (List.mem_of_getElem? (i := 1) rfl) (pV_cons (List.mem_of_getElem? (i := 2) rfl) (pV_nil))), f_297_0⟩
theorem q_297_1 : pQ_297 u_297_1 := ⟨_, _, _, _, (pS_nil), (pV_cons (List.mem_of_getElem? (i := 0) rfl) (pV_nil)), f_297_1⟩
theorem q_297_2 : pQ_297 u_297_2 := ⟨_, _, _, _, (pS_nil), (pV_cons (List.mem_of_getElem? (i := 1) rfl) (pV_nil)), f_297_2⟩
theorem qb_297_0 : ∀ u ∈ [u_297_0, u_297_1, u_297_2], pQ_297 u := pU_cons q_297_0 (pU_cons q_297_1 (pU_cons q_297_2 (pU_nil)))
theorem ok_297 : sInOk pPT i_297 := sInst3 (M := pm_142) (cus := us_297) pOk pg_142 (by decide +kernel) ⟨_, _, _, _, (pS_nil), (pV_cons (List.mem_of_getElem? (i := 0) rfl) (pV_nil)), e_297⟩ (show ∀ u ∈ us_297, pQ_297 u from qb_297_0)
def pQ_298 (u : sCu) : Prop := ∃ (SM : List sIn) (H : gHt) (cu : List sCu) (n : Nat), (∀ I ∈ SM, sInOk pPT I) ∧ (∀ v ∈ cu, v ∈ us_298) ∧ sWhU pPT SM H i_298 (mR pm_141) cu n u = true
theorem q_298_0 : pQ_298 u_298_0 := ⟨_, _, _, _, (pS_cons ok_297 (pS_nil)), (pV_cons (List.mem_of_getElem? (i := 1) rfl) (pV_nil)), f_298_0⟩
theorem q_298_1 : pQ_298 u_298_1 := ⟨_, _, _, _, (pS_nil), (pV_cons (List.mem_of_getElem? (i := 0) rfl) (pV_nil)), f_298_1⟩
theorem qb_298_0 : ∀ u ∈ [u_298_0, u_298_1], pQ_298 u := pU_cons q_298_0 (pU_cons q_298_1 (pU_nil))
theorem ok_298 : sInOk pPT i_298 := sInst3 (M := pm_141) (cus := us_298) pOk pg_141 (by decide +kernel) ⟨_, _, _, _, (pS_nil), (pV_cons (List.mem_of_getElem? (i := 0) rfl) (pV_nil)), e_298⟩ (show ∀ u ∈ us_298, pQ_298 u from qb_298_0)
def pQ_299 (u : sCu) : Prop := ∃ (SM : List sIn) (H : gHt) (cu : List sCu) (n : Nat), (∀ I ∈ SM, sInOk pPT I) ∧ (∀ v ∈ cu, v ∈ us_299) ∧ sWhU pPT SM H i_299 (mR pm_160) cu n u = true
theorem q_299_0 : pQ_299 u_299_0 := ⟨_, _, _, _, (pS_nil), (pV_cons (List.mem_of_getElem? (i := 1) rfl) (pV_nil)), f_299_0⟩
theorem q_299_1 : pQ_299 u_299_1 := ⟨_, _, _, _, (pS_nil), (pV_cons (List.mem_of_getElem? (i := 0) rfl) (pV_nil)), f_299_1⟩
theorem qb_299_0 : ∀ u ∈ [u_299_0, u_299_1], pQ_299 u := pU_cons q_299_0 (pU_cons q_299_1 (pU_nil))
theorem ok_299 : sInOk pPT i_299 := sInst3 (M := pm_160) (cus := us_299) pOk pg_160 (by decide +kernel) ⟨_, _, _, _, (pS_nil), (pV_cons (List.mem_of_getElem? (i := 0) rfl) (pV_nil)), e_299⟩ (show ∀ u ∈ us_299, pQ_299 u from qb_299_0)
theorem ok_300 : sInOk pPT i_300 := sInst3 (M := pm_143) (cus := []) pOk pg_143 (by decide +kernel) ⟨_, _, _, _, (pS_cons ok_298 (pS_cons ok_299 (pS_nil))), pV_nil, e_300⟩ pU_nil
def pQ_301 (u : sCu) : Prop := ∃ (SM : List sIn) (H : gHt) (cu : List sCu) (n : Nat), (∀ I ∈ SM, sInOk pPT I) ∧ (∀ v ∈ cu, v ∈ us_301) ∧ sWhU pPT SM H i_301 (mR pm_138) cu n u = true
theorem q_301_0 : pQ_301 u_301_0 := ⟨_, _, _, _, (pS_nil), (pV_cons (List.mem_of_getElem? (i := 1) rfl) (pV_nil)), f_301_0⟩
theorem q_301_1 : pQ_301 u_301_1 := ⟨_, _, _, _, (pS_nil), (pV_cons (List.mem_of_getElem? (i := 0) rfl) (pV_nil)), f_301_1⟩
theorem qb_301_0 : ∀ u ∈ [u_301_0, u_301_1], pQ_301 u := pU_cons q_301_0 (pU_cons q_301_1 (pU_nil))
theorem ok_301 : sInOk pPT i_301 := sInst3 (M := pm_138) (cus := us_301) pOk pg_138 (by decide +kernel) ⟨_, _, _, _, (pS_nil), (pV_cons (List.mem_of_getElem? (i := 0) rfl) (pV_nil)), e_301⟩ (show ∀ u ∈ us_301, pQ_301 u from qb_301_0)
def pQ_302 (u : sCu) : Prop := ∃ (SM : List sIn) (H : gHt) (cu : List sCu) (n : Nat), (∀ I ∈ SM, sInOk pPT I) ∧ (∀ v ∈ cu, v ∈ us_302) ∧ sWhU pPT SM H i_302 (mR pm_132) cu n u = true
theorem q_302_0 : pQ_302 u_302_0 := ⟨_, _, _, _, (pS_cons ok_301 (pS_nil)), (pV_cons (List.mem_of_getElem? (i := 0) rfl) (pV_nil)), f_302_0⟩
theorem qb_302_0 : ∀ u ∈ [u_302_0], pQ_302 u := pU_cons q_302_0 (pU_nil)
theorem ok_302 : sInOk pPT i_302 := sInst3 (M := pm_132) (cus := us_302) pOk pg_132 (by decide +kernel) ⟨_, _, _, _, (pS_nil), (pV_cons (List.mem_of_getElem? (i := 0) rfl) (pV_nil)), e_302⟩ (show ∀ u ∈ us_302, pQ_302 u from qb_302_0)
theorem ok_303 : sInOk pPT i_303 := sInst3 (M := pm_237) (cus := []) pOk pg_237 (by decide +kernel) ⟨_, _, _, _, (pS_cons ok_298 (pS_cons ok_300 (pS_cons ok_302 (pS_nil)))), pV_nil, e_303⟩ pU_nil
theorem ok_304 : sInOk pPT i_304 := sInst3 (M := pm_4) (cus := []) pOk pg_4 (by decide +kernel) ⟨_, _, _, _, (pS_cons ok_303 (pS_nil)), pV_nil, e_304⟩ pU_nil
def pQ_305 (u : sCu) : Prop := ∃ (SM : List sIn) (H : gHt) (cu : List sCu) (n : Nat), (∀ I ∈ SM, sInOk pPT I) ∧ (∀ v ∈ cu, v ∈ us_305) ∧ sWhU pPT SM H i_305 (mR pm_115) cu n u = true
theorem q_305_0 : pQ_305 u_305_0 := ⟨_, _, _, _, (pS_nil), (pV_cons (List.mem_of_getElem? (i := 1) rfl) (pV_cons (List.mem_of_getElem? (i := 0) rfl) (pV_nil))), f_305_0⟩
theorem q_305_1 : pQ_305 u_305_1 := ⟨_, _, _, _, (pS_nil), (pV_cons (List.mem_of_getElem? (i := 2) rfl) (pV_nil)), f_305_1⟩
theorem q_305_2 : pQ_305 u_305_2 := ⟨_, _, _, _, (pS_nil), (pV_cons (List.mem_of_getElem? (i := 1) rfl) (pV_nil)), f_305_2⟩
theorem qb_305_0 : ∀ u ∈ [u_305_0, u_305_1, u_305_2], pQ_305 u := pU_cons q_305_0 (pU_cons q_305_1 (pU_cons q_305_2 (pU_nil)))
theorem ok_305 : sInOk pPT i_305 := sInst3 (M := pm_115) (cus := us_305) pOk pg_115 (by decide +kernel) ⟨_, _, _, _, (pS_nil), (pV_cons (List.mem_of_getElem? (i := 0) rfl) (pV_nil)), e_305⟩ (show ∀ u ∈ us_305, pQ_305 u from qb_305_0)
def pQ_306 (u : sCu) : Prop := ∃ (SM : List sIn) (H : gHt) (cu : List sCu) (n : Nat), (∀ I ∈ SM, sInOk pPT I) ∧ (∀ v ∈ cu, v ∈ us_306) ∧ sWhU pPT SM H i_306 (mR pm_123) cu n u = true
theorem q_306_0 : pQ_306 u_306_0 := ⟨_, _, _, _, (pS_nil), (pV_cons (List.mem_of_getElem? (i := 2) rfl) (pV_cons (List.mem_of_getElem? (i := 3) rfl) (pV_cons (List.mem_of_getElem? (i := 1) rfl) (pV_nil)))), f_306_0⟩
theorem q_306_1 : pQ_306 u_306_1 := ⟨_, _, _, _, (pS_nil), (pV_cons (List.mem_of_getElem? (i := 2) rfl) (pV_nil)), f_306_1⟩
theorem q_306_2 : pQ_306 u_306_2 := ⟨_, _, _, _, (pS_nil), (pV_cons (List.mem_of_getElem? (i := 0) rfl) (pV_nil)), f_306_2⟩
theorem q_306_3 : pQ_306 u_306_3 := ⟨_, _, _, _, (pS_nil), (pV_cons (List.mem_of_getElem? (i := 2) rfl) (pV_nil)), f_306_3⟩
theorem qb_306_0 : ∀ u ∈ [u_306_0, u_306_1, u_306_2, u_306_3], pQ_306 u := pU_cons q_306_0 (pU_cons q_306_1 (pU_cons q_306_2 (pU_cons q_306_3 (pU_nil))))
theorem ok_306 : sInOk pPT i_306 := sInst3 (M := pm_123) (cus := us_306) pOk pg_123 (by decide +kernel) ⟨_, _, _, _, (pS_nil), (pV_cons (List.mem_of_getElem? (i := 0) rfl) (pV_nil)), e_306⟩ (show ∀ u ∈ us_306, pQ_306 u from qb_306_0)
def pQ_307 (u : sCu) : Prop := ∃ (SM : List sIn) (H : gHt) (cu : List sCu) (n : Nat), (∀ I ∈ SM, sInOk pPT I) ∧ (∀ v ∈ cu, v ∈ us_307) ∧ sWhU pPT SM H i_307 (mR pm_117) cu n u = true
theorem q_307_0 : pQ_307 u_307_0 := ⟨_, _, _, _, (pS_nil), (pV_cons (List.mem_of_getElem? (i := 1) rfl) (pV_cons (List.mem_of_getElem? (i := 2) rfl) (pV_nil))), f_307_0⟩
theorem q_307_1 : pQ_307 u_307_1 := ⟨_, _, _, _, (pS_nil), (pV_cons (List.mem_of_getElem? (i := 2) rfl) (pV_nil)), f_307_1⟩
theorem q_307_2 : pQ_307 u_307_2 := ⟨_, _, _, _, (pS_nil), (pV_cons (List.mem_of_getElem? (i := 3) rfl) (pV_nil)), f_307_2⟩
theorem q_307_3 : pQ_307 u_307_3 := ⟨_, _, _, _, (pS_nil), (pV_cons (List.mem_of_getElem? (i := 4) rfl) (pV_nil)), f_307_3⟩
theorem q_307_4 : pQ_307 u_307_4 := ⟨_, _, _, _, (pS_nil), (pV_cons (List.mem_of_getElem? (i := 5) rfl) (pV_nil)), f_307_4⟩
theorem q_307_5 : pQ_307 u_307_5 := ⟨_, _, _, _, (pS_cons ok_306 (pS_nil)), (pV_nil), f_307_5⟩
theorem qb_307_0 : ∀ u ∈ [u_307_0, u_307_1, u_307_2, u_307_3, u_307_4, u_307_5], pQ_307 u := pU_cons q_307_0 (pU_cons q_307_1 (pU_cons q_307_2 (pU_cons q_307_3 (pU_cons q_307_4 (pU_cons q_307_5 (pU_nil))))))
theorem ok_307 : sInOk pPT i_307 := sInst3 (M := pm_117) (cus := us_307) pOk pg_117 (by decide +kernel) ⟨_, _, _, _, (pS_nil), (pV_cons (List.mem_of_getElem? (i := 0) rfl) (pV_nil)), e_307⟩ (show ∀ u ∈ us_307, pQ_307 u from qb_307_0)
def pQ_308 (u : sCu) : Prop := ∃ (SM : List sIn) (H : gHt) (cu : List sCu) (n : Nat), (∀ I ∈ SM, sInOk pPT I) ∧ (∀ v ∈ cu, v ∈ us_308) ∧ sWhU pPT SM H i_308 (mR pm_55) cu n u = true
theorem q_308_0 : pQ_308 u_308_0 := ⟨_, _, _, _, (pS_nil), (pV_nil), f_308_0⟩
theorem qb_308_0 : ∀ u ∈ [u_308_0], pQ_308 u := pU_cons q_308_0 (pU_nil)
theorem ok_308 : sInOk pPT i_308 := sInst3 (M := pm_55) (cus := us_308) pOk pg_55 (by decide +kernel) ⟨_, _, _, _, (pS_cons ok_307 (pS_nil)), (pV_cons (List.mem_of_getElem? (i := 0) rfl) (pV_nil)), e_308⟩ (show ∀ u ∈ us_308, pQ_308 u from qb_308_0)
def pQ_309 (u : sCu) : Prop := ∃ (SM : List sIn) (H : gHt) (cu : List sCu) (n : Nat), (∀ I ∈ SM, sInOk pPT I) ∧ (∀ v ∈ cu, v ∈ us_309) ∧ sWhU pPT SM H i_309 (mR pm_116) cu n u = true
theorem q_309_0 : pQ_309 u_309_0 := ⟨_, _, _, _, (pS_nil), (pV_cons (List.mem_of_getElem? (i := 1) rfl) (pV_cons (List.mem_of_getElem? (i := 0) rfl) (pV_nil))), f_309_0⟩
theorem q_309_1 : pQ_309 u_309_1 := ⟨_, _, _, _, (pS_nil), (pV_cons (List.mem_of_getElem? (i := 2) rfl) (pV_nil)), f_309_1⟩
theorem q_309_2 : pQ_309 u_309_2 := ⟨_, _, _, _, (pS_nil), (pV_cons (List.mem_of_getElem? (i := 5) rfl) (pV_cons (List.mem_of_getElem? (i := 3) rfl) (pV_cons (List.mem_of_getElem? (i := 4) rfl) (pV_nil)))), f_309_2⟩
theorem q_309_3 : pQ_309 u_309_3 := ⟨_, _, _, _, (pS_nil), (pV_cons (List.mem_of_getElem? (i := 2) rfl) (pV_nil)), f_309_3⟩
theorem q_309_4 : pQ_309 u_309_4 := ⟨_, _, _, _, (pS_nil), (pV_cons (List.mem_of_getElem? (i := 3) rfl) (pV_nil)), f_309_4⟩
theorem q_309_5 : pQ_309 u_309_5 := ⟨_, _, _, _, (pS_cons ok_308 (pS_nil)), (pV_cons (List.mem_of_getElem? (i := 6) rfl) (pV_cons (List.mem_of_getElem? (i := 7) rfl) (pV_nil))), f_309_5⟩
theorem q_309_6 : pQ_309 u_309_6 := ⟨_, _, _, _, (pS_nil), (pV_cons (List.mem_of_getElem? (i := 1) rfl) (pV_nil)), f_309_6⟩
theorem q_309_7 : pQ_309 u_309_7 := ⟨_, _, _, _, (pS_nil), (pV_cons (List.mem_of_getElem? (i := 5) rfl) (pV_nil)), f_309_7⟩
theorem qb_309_0 : ∀ u ∈ [u_309_0, u_309_1, u_309_2, u_309_3, u_309_4, u_309_5, u_309_6, u_309_7], pQ_309 u := pU_cons q_309_0 (pU_cons q_309_1 (pU_cons q_309_2 (pU_cons q_309_3 (pU_cons q_309_4 (pU_cons q_309_5 (pU_cons q_309_6 (pU_cons q_309_7 (pU_nil))))))))
theorem ok_309 : sInOk pPT i_309 := sInst3 (M := pm_116) (cus := us_309) pOk pg_116 (by decide +kernel) ⟨_, _, _, _, (pS_cons ok_305 (pS_nil)), (pV_cons (List.mem_of_getElem? (i := 0) rfl) (pV_nil)), e_309⟩ (show ∀ u ∈ us_309, pQ_309 u from qb_309_0)
def pQ_310 (u : sCu) : Prop := ∃ (SM : List sIn) (H : gHt) (cu : List sCu) (n : Nat), (∀ I ∈ SM, sInOk pPT I) ∧ (∀ v ∈ cu, v ∈ us_310) ∧ sWhU pPT SM H i_310 (mR pm_113) cu n u = true
theorem q_310_0 : pQ_310 u_310_0 := ⟨_, _, _, _, (pS_cons ok_309 (pS_nil)), (pV_cons (List.mem_of_getElem? (i := 1) rfl) (pV_nil)), f_310_0⟩
theorem q_310_1 : pQ_310 u_310_1 := ⟨_, _, _, _, (pS_nil), (pV_cons (List.mem_of_getElem? (i := 0) rfl) (pV_cons (List.mem_of_getElem? (i := 2) rfl) (pV_nil))), f_310_1⟩
theorem q_310_2 : pQ_310 u_310_2 := ⟨_, _, _, _, (pS_nil), (pV_cons (List.mem_of_getElem? (i := 3) rfl) (pV_nil)), f_310_2⟩
theorem q_310_3 : pQ_310 u_310_3 := ⟨_, _, _, _, (pS_nil), (pV_cons (List.mem_of_getElem? (i := 1) rfl) (pV_nil)), f_310_3⟩
theorem qb_310_0 : ∀ u ∈ [u_310_0, u_310_1, u_310_2, u_310_3], pQ_310 u := pU_cons q_310_0 (pU_cons q_310_1 (pU_cons q_310_2 (pU_cons q_310_3 (pU_nil))))
theorem ok_310 : sInOk pPT i_310 := sInst3 (M := pm_113) (cus := us_310) pOk pg_113 (by decide +kernel) ⟨_, _, _, _, (pS_nil), (pV_cons (List.mem_of_getElem? (i := 0) rfl) (pV_nil)), e_310⟩ (show ∀ u ∈ us_310, pQ_310 u from qb_310_0)
def pQ_311 (u : sCu) : Prop := ∃ (SM : List sIn) (H : gHt) (cu : List sCu) (n : Nat), (∀ I ∈ SM, sInOk pPT I) ∧ (∀ v ∈ cu, v ∈ us_311) ∧ sWhU pPT SM H i_311 (mR pm_76) cu n u = true
theorem q_311_0 : pQ_311 u_311_0 := ⟨_, _, _, _, (pS_nil), (pV_cons (List.mem_of_getElem? (i := 1) rfl) (pV_nil)), f_311_0⟩
theorem q_311_1 : pQ_311 u_311_1 := ⟨_, _, _, _, (pS_nil), (pV_cons (List.mem_of_getElem? (i := 0) rfl) (pV_nil)), f_311_1⟩
theorem qb_311_0 : ∀ u ∈ [u_311_0, u_311_1], pQ_311 u := pU_cons q_311_0 (pU_cons q_311_1 (pU_nil))
theorem ok_311 : sInOk pPT i_311 := sInst3 (M := pm_76) (cus := us_311) pOk pg_76 (by decide +kernel) ⟨_, _, _, _, (pS_nil), (pV_cons (List.mem_of_getElem? (i := 0) rfl) (pV_nil)), e_311⟩ (show ∀ u ∈ us_311, pQ_311 u from qb_311_0)
def pQ_312 (u : sCu) : Prop := ∃ (SM : List sIn) (H : gHt) (cu : List sCu) (n : Nat), (∀ I ∈ SM, sInOk pPT I) ∧ (∀ v ∈ cu, v ∈ us_312) ∧ sWhU pPT SM H i_312 (mR pm_77) cu n u = true
theorem q_312_0 : pQ_312 u_312_0 := ⟨_, _, _, _, (pS_nil), (pV_cons (List.mem_of_getElem? (i := 1) rfl) (pV_cons (List.mem_of_getElem? (i := 2) rfl) (pV_nil))), f_312_0⟩
theorem q_312_1 : pQ_312 u_312_1 := ⟨_, _, _, _, (pS_nil), (pV_cons (List.mem_of_getElem? (i := 3) rfl) (pV_nil)), f_312_1⟩
theorem q_312_2 : pQ_312 u_312_2 := ⟨_, _, _, _, (pS_nil), (pV_cons (List.mem_of_getElem? (i := 3) rfl) (pV_nil)), f_312_2⟩
theorem q_312_3 : pQ_312 u_312_3 := ⟨_, _, _, _, (pS_nil), (pV_cons (List.mem_of_getElem? (i := 0) rfl) (pV_nil)), f_312_3⟩
theorem qb_312_0 : ∀ u ∈ [u_312_0, u_312_1, u_312_2, u_312_3], pQ_312 u := pU_cons q_312_0 (pU_cons q_312_1 (pU_cons q_312_2 (pU_cons q_312_3 (pU_nil))))
theorem ok_312 : sInOk pPT i_312 := sInst3 (M := pm_77) (cus := us_312) pOk pg_77 (by decide +kernel) ⟨_, _, _, _, (pS_nil), (pV_cons (List.mem_of_getElem? (i := 0) rfl) (pV_nil)), e_312⟩ (show ∀ u ∈ us_312, pQ_312 u from qb_312_0)
def pQ_313 (u : sCu) : Prop := ∃ (SM : List sIn) (H : gHt) (cu : List sCu) (n : Nat), (∀ I ∈ SM, sInOk pPT I) ∧ (∀ v ∈ cu, v ∈ us_313) ∧ sWhU pPT SM H i_313 (mR pm_38) cu n u = true
theorem q_313_0 : pQ_313 u_313_0 := ⟨_, _, _, _, (pS_nil), (pV_cons (List.mem_of_getElem? (i := 1) rfl) (pV_nil)), f_313_0⟩
theorem q_313_1 : pQ_313 u_313_1 := ⟨_, _, _, _, (pS_nil), (pV_cons (List.mem_of_getElem? (i := 0) rfl) (pV_cons (List.mem_of_getElem? (i := 2) rfl) (pV_nil))), f_313_1⟩
theorem q_313_2 : pQ_313 u_313_2 := ⟨_, _, _, _, (pS_nil), (pV_cons (List.mem_of_getElem? (i := 1) rfl) (pV_nil)), f_313_2⟩
theorem qb_313_0 : ∀ u ∈ [u_313_0, u_313_1, u_313_2], pQ_313 u := pU_cons q_313_0 (pU_cons q_313_1 (pU_cons q_313_2 (pU_nil)))
theorem ok_313 : sInOk pPT i_313 := sInst3 (M := pm_38) (cus := us_313) pOk pg_38 (by decide +kernel) ⟨_, _, _, _, (pS_nil), (pV_cons (List.mem_of_getElem? (i := 0) rfl) (pV_nil)), e_313⟩ (show ∀ u ∈ us_313, pQ_313 u from qb_313_0)
theorem ok_314 : sInOk pPT i_314 := sInst3 (M := pm_37) (cus := []) pOk pg_37 (by decide +kernel) ⟨_, _, _, _, (pS_cons ok_310 (pS_cons ok_311 (pS_cons ok_312 (pS_cons ok_313 (pS_nil))))), pV_nil, e_314⟩ pU_nil
def pQ_315 (u : sCu) : Prop := ∃ (SM : List sIn) (H : gHt) (cu : List sCu) (n : Nat), (∀ I ∈ SM, sInOk pPT I) ∧ (∀ v ∈ cu, v ∈ us_315) ∧ sWhU pPT SM H i_315 (mR pm_136) cu n u = true
theorem q_315_0 : pQ_315 u_315_0 := ⟨_, _, _, _, (pS_nil), (pV_cons (List.mem_of_getElem? (i := 1) rfl) (pV_nil)), f_315_0⟩
theorem q_315_1 : pQ_315 u_315_1 := ⟨_, _, _, _, (pS_nil), (pV_cons (List.mem_of_getElem? (i := 0) rfl) (pV_nil)), f_315_1⟩
theorem qb_315_0 : ∀ u ∈ [u_315_0, u_315_1], pQ_315 u := pU_cons q_315_0 (pU_cons q_315_1 (pU_nil))
theorem ok_315 : sInOk pPT i_315 := sInst3 (M := pm_136) (cus := us_315) pOk pg_136 (by decide +kernel) ⟨_, _, _, _, (pS_nil), (pV_cons (List.mem_of_getElem? (i := 0) rfl) (pV_nil)), e_315⟩ (show ∀ u ∈ us_315, pQ_315 u from qb_315_0)
theorem ok_316 : sInOk pPT i_316 := sInst3 (M := pm_233) (cus := []) pOk pg_233 (by decide +kernel) ⟨_, _, _, _, (pS_cons ok_315 (pS_nil)), pV_nil, e_316⟩ pU_nil
theorem ok_317 : sInOk pPT i_317 := sInst3 (M := pm_1) (cus := []) pOk pg_1 (by decide +kernel) ⟨_, _, _, _, (pS_cons ok_316 (pS_nil)), pV_nil, e_317⟩ pU_nil
def pQ_318 (u : sCu) : Prop := ∃ (SM : List sIn) (H : gHt) (cu : List sCu) (n : Nat), (∀ I ∈ SM, sInOk pPT I) ∧ (∀ v ∈ cu, v ∈ us_318) ∧ sWhU pPT SM H i_318 (mR pm_54) cu n u = true
theorem q_318_0 : pQ_318 u_318_0 := ⟨_, _, _, _, (pS_nil), (pV_cons (List.mem_of_getElem? (i := 1) rfl) (pV_nil)), f_318_0⟩
theorem q_318_1 : pQ_318 u_318_1 := ⟨_, _, _, _, (pS_nil), (pV_cons (List.mem_of_getElem? (i := 0) rfl) (pV_nil)), f_318_1⟩
theorem qb_318_0 : ∀ u ∈ [u_318_0, u_318_1], pQ_318 u := pU_cons q_318_0 (pU_cons q_318_1 (pU_nil))
theorem ok_318 : sInOk pPT i_318 := sInst3 (M := pm_54) (cus := us_318) pOk pg_54 (by decide +kernel) ⟨_, _, _, _, (pS_nil), (pV_cons (List.mem_of_getElem? (i := 0) rfl) (pV_nil)), e_318⟩ (show ∀ u ∈ us_318, pQ_318 u from qb_318_0)
def pQ_319 (u : sCu) : Prop := ∃ (SM : List sIn) (H : gHt) (cu : List sCu) (n : Nat), (∀ I ∈ SM, sInOk pPT I) ∧ (∀ v ∈ cu, v ∈ us_319) ∧ sWhU pPT SM H i_319 (mR pm_28) cu n u = true
theorem q_319_0 : pQ_319 u_319_0 := ⟨_, _, _, _, (pS_nil), (pV_nil), f_319_0⟩
theorem qb_319_0 : ∀ u ∈ [u_319_0], pQ_319 u := pU_cons q_319_0 (pU_nil)
theorem ok_319 : sInOk pPT i_319 := sInst3 (M := pm_28) (cus := us_319) pOk pg_28 (by decide +kernel) ⟨_, _, _, _, (pS_cons ok_310 (pS_cons ok_318 (pS_nil))), (pV_cons (List.mem_of_getElem? (i := 0) rfl) (pV_nil)), e_319⟩ (show ∀ u ∈ us_319, pQ_319 u from qb_319_0)
def pQ_320 (u : sCu) : Prop := ∃ (SM : List sIn) (H : gHt) (cu : List sCu) (n : Nat), (∀ I ∈ SM, sInOk pPT I) ∧ (∀ v ∈ cu, v ∈ us_320) ∧ sWhU pPT SM H i_320 (mR pm_151) cu n u = true
theorem q_320_0 : pQ_320 u_320_0 := ⟨_, _, _, _, (pS_cons ok_106 (pS_nil)), (pV_cons (List.mem_of_getElem? (i := 2) rfl) (pV_nil)), f_320_0⟩
theorem q_320_1 : pQ_320 u_320_1 := ⟨_, _, _, _, (pS_nil), (pV_nil), f_320_1⟩
theorem q_320_2 : pQ_320 u_320_2 := ⟨_, _, _, _, (pS_nil), (pV_cons (List.mem_of_getElem? (i := 0) rfl) (pV_nil)), f_320_2⟩
theorem qb_320_0 : ∀ u ∈ [u_320_0, u_320_1, u_320_2], pQ_320 u := pU_cons q_320_0 (pU_cons q_320_1 (pU_cons q_320_2 (pU_nil)))
theorem ok_320 : sInOk pPT i_320 := sInst3 (M := pm_151) (cus := us_320) pOk pg_151 (by decide +kernel) ⟨_, _, _, _, (pS_nil), (pV_cons (List.mem_of_getElem? (i := 0) rfl) (pV_cons (List.mem_of_getElem? (i := 1) rfl) (pV_nil))), e_320⟩ (show ∀ u ∈ us_320, pQ_320 u from qb_320_0)
theorem ok_321 : sInOk pPT i_321 := sInst3 (M := pm_251) (cus := []) pOk pg_251 (by decide +kernel) ⟨_, _, _, _, (pS_cons ok_320 (pS_nil)), pV_nil, e_321⟩ pU_nil
theorem ok_322 : sInOk pPT i_322 := sInst3 (M := pm_11) (cus := []) pOk pg_11 (by decide +kernel) ⟨_, _, _, _, (pS_cons ok_321 (pS_nil)), pV_nil, e_322⟩ pU_nil
def pQ_323 (u : sCu) : Prop := ∃ (SM : List sIn) (H : gHt) (cu : List sCu) (n : Nat), (∀ I ∈ SM, sInOk pPT I) ∧ (∀ v ∈ cu, v ∈ us_323) ∧ sWhU pPT SM H i_323 (mR pm_119) cu n u = true
theorem q_323_0 : pQ_323 u_323_0 := ⟨_, _, _, _, (pS_cons ok_307 (pS_nil)), (pV_cons (List.mem_of_getElem? (i := 1) rfl) (pV_cons (List.mem_of_getElem? (i := 2) rfl) (pV_cons (List.mem_of_getElem? (i := 3) rfl) (pV_nil)))), f_323_0⟩
theorem q_323_1 : pQ_323 u_323_1 := ⟨_, _, _, _, (pS_nil), (pV_nil), f_323_1⟩
theorem q_323_2 : pQ_323 u_323_2 := ⟨_, _, _, _, (pS_nil), (pV_cons (List.mem_of_getElem? (i := 3) rfl) (pV_nil)), f_323_2⟩
theorem q_323_3 : pQ_323 u_323_3 := ⟨_, _, _, _, (pS_nil), (pV_cons (List.mem_of_getElem? (i := 0) rfl) (pV_nil)), f_323_3⟩
theorem qb_323_0 : ∀ u ∈ [u_323_0, u_323_1, u_323_2, u_323_3], pQ_323 u := pU_cons q_323_0 (pU_cons q_323_1 (pU_cons q_323_2 (pU_cons q_323_3 (pU_nil))))
theorem ok_323 : sInOk pPT i_323 := sInst3 (M := pm_119) (cus := us_323) pOk pg_119 (by decide +kernel) ⟨_, _, _, _, (pS_nil), (pV_cons (List.mem_of_getElem? (i := 0) rfl) (pV_nil)), e_323⟩ (show ∀ u ∈ us_323, pQ_323 u from qb_323_0)
def pQ_324 (u : sCu) : Prop := ∃ (SM : List sIn) (H : gHt) (cu : List sCu) (n : Nat), (∀ I ∈ SM, sInOk pPT I) ∧ (∀ v ∈ cu, v ∈ us_324) ∧ sWhU pPT SM H i_324 (mR pm_78) cu n u = true
theorem q_324_0 : pQ_324 u_324_0 := ⟨_, _, _, _, (pS_nil), (pV_nil), f_324_0⟩
theorem qb_324_0 : ∀ u ∈ [u_324_0], pQ_324 u := pU_cons q_324_0 (pU_nil)
theorem ok_324 : sInOk pPT i_324 := sInst3 (M := pm_78) (cus := us_324) pOk pg_78 (by decide +kernel) ⟨_, _, _, _, (pS_cons ok_310 (pS_cons ok_323 (pS_nil))), (pV_cons (List.mem_of_getElem? (i := 0) rfl) (pV_nil)), e_324⟩ (show ∀ u ∈ us_324, pQ_324 u from qb_324_0)
theorem ok_325 : sInOk pPT i_325 := sInst3 (M := pm_140) (cus := []) pOk pg_140 (by decide +kernel) ⟨_, _, _, _, (pS_cons ok_297 (pS_nil)), pV_nil, e_325⟩ pU_nil
theorem ok_326 : sInOk pPT i_326 := sInst3 (M := pm_263) (cus := []) pOk pg_263 (by decide +kernel) ⟨_, _, _, _, (pS_cons ok_297 (pS_cons ok_301 (pS_cons ok_325 (pS_nil)))), pV_nil, e_326⟩ pU_nil
theorem ok_327 : sInOk pPT i_327 := sInst3 (M := pm_17) (cus := []) pOk pg_17 (by decide +kernel) ⟨_, _, _, _, (pS_cons ok_326 (pS_nil)), pV_nil, e_327⟩ pU_nil
def pQ_328 (u : sCu) : Prop := ∃ (SM : List sIn) (H : gHt) (cu : List sCu) (n : Nat), (∀ I ∈ SM, sInOk pPT I) ∧ (∀ v ∈ cu, v ∈ us_328) ∧ sWhU pPT SM H i_328 (mR pm_107) cu n u = true
theorem q_328_0 : pQ_328 u_328_0 := ⟨_, _, _, _, (pS_nil), (pV_nil), f_328_0⟩
theorem q_328_1 : pQ_328 u_328_1 := ⟨_, _, _, _, (pS_nil), (pV_cons (List.mem_of_getElem? (i := 2) rfl) (pV_nil)), f_328_1⟩
theorem q_328_2 : pQ_328 u_328_2 := ⟨_, _, _, _, (pS_nil), (pV_cons (List.mem_of_getElem? (i := 1) rfl) (pV_nil)), f_328_2⟩
theorem qb_328_0 : ∀ u ∈ [u_328_0, u_328_1, u_328_2], pQ_328 u := pU_cons q_328_0 (pU_cons q_328_1 (pU_cons q_328_2 (pU_nil)))
theorem ok_328 : sInOk pPT i_328 := sInst3 (M := pm_107) (cus := us_328) pOk pg_107 (by decide +kernel) ⟨_, _, _, _, (pS_cons ok_310 (pS_nil)), (pV_cons (List.mem_of_getElem? (i := 0) rfl) (pV_cons (List.mem_of_getElem? (i := 1) rfl) (pV_nil))), e_328⟩ (show ∀ u ∈ us_328, pQ_328 u from qb_328_0)
def pQ_329 (u : sCu) : Prop := ∃ (SM : List sIn) (H : gHt) (cu : List sCu) (n : Nat), (∀ I ∈ SM, sInOk pPT I) ∧ (∀ v ∈ cu, v ∈ us_329) ∧ sWhU pPT SM H i_329 (mR pm_131) cu n u = true
theorem q_329_0 : pQ_329 u_329_0 := ⟨_, _, _, _, (pS_nil), (pV_cons (List.mem_of_getElem? (i := 1) rfl) (pV_cons (List.mem_of_getElem? (i := 0) rfl) (pV_nil))), f_329_0⟩
theorem q_329_1 : pQ_329 u_329_1 := ⟨_, _, _, _, (pS_nil), (pV_nil), f_329_1⟩
theorem qb_329_0 : ∀ u ∈ [u_329_0, u_329_1], pQ_329 u := pU_cons q_329_0 (pU_cons q_329_1 (pU_nil))
theorem ok_329 : sInOk pPT i_329 := sInst3 (M := pm_131) (cus := us_329) pOk pg_131 (by decide +kernel) ⟨_, _, _, _, (pS_nil), (pV_cons (List.mem_of_getElem? (i := 0) rfl) (pV_nil)), e_329⟩ (show ∀ u ∈ us_329, pQ_329 u from qb_329_0)
theorem ok_330 : sInOk pPT i_330 := sInst3 (M := pm_250) (cus := []) pOk pg_250 (by decide +kernel) ⟨_, _, _, _, (pS_cons ok_329 (pS_nil)), pV_nil, e_330⟩ pU_nil
theorem ok_331 : sInOk pPT i_331 := sInst3 (M := pm_10) (cus := []) pOk pg_10 (by decide +kernel) ⟨_, _, _, _, (pS_cons ok_330 (pS_nil)), pV_nil, e_331⟩ pU_nil
def pQ_332 (u : sCu) : Prop := ∃ (SM : List sIn) (H : gHt) (cu : List sCu) (n : Nat), (∀ I ∈ SM, sInOk pPT I) ∧ (∀ v ∈ cu, v ∈ us_332) ∧ sWhU pPT SM H i_332 (mR pm_114) cu n u = true
theorem q_332_0 : pQ_332 u_332_0 := ⟨_, _, _, _, (pS_nil), (pV_cons (List.mem_of_getElem? (i := 1) rfl) (pV_cons (List.mem_of_getElem? (i := 0) rfl) (pV_nil))), f_332_0⟩
theorem q_332_1 : pQ_332 u_332_1 := ⟨_, _, _, _, (pS_nil), (pV_nil), f_332_1⟩
theorem qb_332_0 : ∀ u ∈ [u_332_0, u_332_1], pQ_332 u := pU_cons q_332_0 (pU_cons q_332_1 (pU_nil))
theorem ok_332 : sInOk pPT i_332 := sInst3 (M := pm_114) (cus := us_332) pOk pg_114 (by decide +kernel) ⟨_, _, _, _, (pS_nil), (pV_cons (List.mem_of_getElem? (i := 0) rfl) (pV_nil)), e_332⟩ (show ∀ u ∈ us_332, pQ_332 u from qb_332_0)
def pQ_333 (u : sCu) : Prop := ∃ (SM : List sIn) (H : gHt) (cu : List sCu) (n : Nat), (∀ I ∈ SM, sInOk pPT I) ∧ (∀ v ∈ cu, v ∈ us_333) ∧ sWhU pPT SM H i_333 (mR pm_74) cu n u = true
theorem q_333_0 : pQ_333 u_333_0 := ⟨_, _, _, _, (pS_nil), (pV_nil), f_333_0⟩
theorem qb_333_0 : ∀ u ∈ [u_333_0], pQ_333 u := pU_cons q_333_0 (pU_nil)
theorem ok_333 : sInOk pPT i_333 := sInst3 (M := pm_74) (cus := us_333) pOk pg_74 (by decide +kernel) ⟨_, _, _, _, (pS_cons ok_310 (pS_cons ok_332 (pS_nil))), (pV_cons (List.mem_of_getElem? (i := 0) rfl) (pV_nil)), e_333⟩ (show ∀ u ∈ us_333, pQ_333 u from qb_333_0)
def pQ_334 (u : sCu) : Prop := ∃ (SM : List sIn) (H : gHt) (cu : List sCu) (n : Nat), (∀ I ∈ SM, sInOk pPT I) ∧ (∀ v ∈ cu, v ∈ us_334) ∧ sWhU pPT SM H i_334 (mR pm_147) cu n u = true
theorem q_334_0 : pQ_334 u_334_0 := ⟨_, _, _, _, (pS_nil), (pV_cons (List.mem_of_getElem? (i := 0) rfl) (pV_nil)), f_334_0⟩
theorem qb_334_0 : ∀ u ∈ [u_334_0], pQ_334 u := pU_cons q_334_0 (pU_nil)
theorem ok_334 : sInOk pPT i_334 := sInst3 (M := pm_147) (cus := us_334) pOk pg_147 (by decide +kernel) ⟨_, _, _, _, (pS_nil), (pV_cons (List.mem_of_getElem? (i := 0) rfl) (pV_nil)), e_334⟩ (show ∀ u ∈ us_334, pQ_334 u from qb_334_0)
theorem ok_335 : sInOk pPT i_335 := sInst3 (M := pm_235) (cus := []) pOk pg_235 (by decide +kernel) ⟨_, _, _, _, (pS_cons ok_329 (pS_cons ok_334 (pS_nil))), pV_nil, e_335⟩ pU_nil
theorem ok_336 : sInOk pPT i_336 := sInst3 (M := pm_3) (cus := []) pOk pg_3 (by decide +kernel) ⟨_, _, _, _, (pS_cons ok_335 (pS_nil)), pV_nil, e_336⟩ pU_nil
def pQ_337 (u : sCu) : Prop := ∃ (SM : List sIn) (H : gHt) (cu : List sCu) (n : Nat), (∀ I ∈ SM, sInOk pPT I) ∧ (∀ v ∈ cu, v ∈ us_337) ∧ sWhU pPT SM H i_337 (mR pm_36) cu n u = true
theorem q_337_0 : pQ_337 u_337_0 := ⟨_, _, _, _, (pS_nil), (pV_nil), f_337_0⟩
theorem qb_337_0 : ∀ u ∈ [u_337_0], pQ_337 u := pU_cons q_337_0 (pU_nil)
theorem ok_337 : sInOk pPT i_337 := sInst3 (M := pm_36) (cus := us_337) pOk pg_36 (by decide +kernel) ⟨_, _, _, _, (pS_cons ok_310 (pS_cons ok_332 (pS_nil))), (pV_cons (List.mem_of_getElem? (i := 0) rfl) (pV_nil)), e_337⟩ (show ∀ u ∈ us_337, pQ_337 u from qb_337_0)
def pQ_338 (u : sCu) : Prop := ∃ (SM : List sIn) (H : gHt) (cu : List sCu) (n : Nat), (∀ I ∈ SM, sInOk pPT I) ∧ (∀ v ∈ cu, v ∈ us_338) ∧ sWhU pPT SM H i_338 (mR pm_249) cu n u = true
theorem q_338_0 : pQ_338 u_338_0 := ⟨_, _, _, _, (pS_nil), (pV_cons (List.mem_of_getElem? (i := 1) rfl) (pV_nil)), f_338_0⟩
theorem q_338_1 : pQ_338 u_338_1 := ⟨_, _, _, _, (pS_cons ok_299 (pS_cons ok_315 (pS_nil))), (pV_cons (List.mem_of_getElem? (i := 2) rfl) (pV_nil)), f_338_1⟩
theorem q_338_2 : pQ_338 u_338_2 := ⟨_, _, _, _, (pS_nil), (pV_cons (List.mem_of_getElem? (i := 1) rfl) (pV_nil)), f_338_2⟩
theorem qb_338_0 : ∀ u ∈ [u_338_0, u_338_1, u_338_2], pQ_338 u := pU_cons q_338_0 (pU_cons q_338_1 (pU_cons q_338_2 (pU_nil)))
theorem ok_338 : sInOk pPT i_338 := sInst3 (M := pm_249) (cus := us_338) pOk pg_249 (by decide +kernel) ⟨_, _, _, _, (pS_nil), (pV_cons (List.mem_of_getElem? (i := 0) rfl) (pV_nil)), e_338⟩ (show ∀ u ∈ us_338, pQ_338 u from qb_338_0)
theorem ok_339 : sInOk pPT i_339 := sInst3 (M := pm_9) (cus := []) pOk pg_9 (by decide +kernel) ⟨_, _, _, _, (pS_cons ok_338 (pS_nil)), pV_nil, e_339⟩ pU_nil
def pQ_340 (u : sCu) : Prop := ∃ (SM : List sIn) (H : gHt) (cu : List sCu) (n : Nat), (∀ I ∈ SM, sInOk pPT I) ∧ (∀ v ∈ cu, v ∈ us_340) ∧ sWhU pPT SM H i_340 (mR pm_73) cu n u = true
theorem q_340_0 : pQ_340 u_340_0 := ⟨_, _, _, _, (pS_nil), (pV_nil), f_340_0⟩
theorem q_340_1 : pQ_340 u_340_1 := ⟨_, _, _, _, (pS_nil), (pV_cons (List.mem_of_getElem? (i := 2) rfl) (pV_cons (List.mem_of_getElem? (i := 3) rfl) (pV_nil))), f_340_1⟩
theorem q_340_2 : pQ_340 u_340_2 := ⟨_, _, _, _, (pS_nil), (pV_cons (List.mem_of_getElem? (i := 4) rfl) (pV_nil)), f_340_2⟩
theorem q_340_3 : pQ_340 u_340_3 := ⟨_, _, _, _, (pS_cons ok_318 (pS_nil)), (pV_cons (List.mem_of_getElem? (i := 5) rfl) (pV_nil)), f_340_3⟩
theorem q_340_4 : pQ_340 u_340_4 := ⟨_, _, _, _, (pS_nil), (pV_cons (List.mem_of_getElem? (i := 2) rfl) (pV_nil)), f_340_4⟩
theorem q_340_5 : pQ_340 u_340_5 := ⟨_, _, _, _, (pS_nil), (pV_cons (List.mem_of_getElem? (i := 1) rfl) (pV_nil)), f_340_5⟩
theorem qb_340_0 : ∀ u ∈ [u_340_0, u_340_1, u_340_2, u_340_3, u_340_4, u_340_5], pQ_340 u := pU_cons q_340_0 (pU_cons q_340_1 (pU_cons q_340_2 (pU_cons q_340_3 (pU_cons q_340_4 (pU_cons q_340_5 (pU_nil))))))
theorem ok_340 : sInOk pPT i_340 := sInst3 (M := pm_73) (cus := us_340) pOk pg_73 (by decide +kernel) ⟨_, _, _, _, (pS_cons ok_310 (pS_nil)), (pV_cons (List.mem_of_getElem? (i := 0) rfl) (pV_cons (List.mem_of_getElem? (i := 1) rfl) (pV_nil))), e_340⟩ (show ∀ u ∈ us_340, pQ_340 u from qb_340_0)
def pQ_341 (u : sCu) : Prop := ∃ (SM : List sIn) (H : gHt) (cu : List sCu) (n : Nat), (∀ I ∈ SM, sInOk pPT I) ∧ (∀ v ∈ cu, v ∈ us_341) ∧ sWhU pPT SM H i_341 (mR pm_72) cu n u = true
theorem q_341_0 : pQ_341 u_341_0 := ⟨_, _, _, _, (pS_nil), (pV_nil), f_341_0⟩
theorem qb_341_0 : ∀ u ∈ [u_341_0], pQ_341 u := pU_cons q_341_0 (pU_nil)
theorem ok_341 : sInOk pPT i_341 := sInst3 (M := pm_72) (cus := us_341) pOk pg_72 (by decide +kernel) ⟨_, _, _, _, (pS_nil), (pV_cons (List.mem_of_getElem? (i := 0) rfl) (pV_nil)), e_341⟩ (show ∀ u ∈ us_341, pQ_341 u from qb_341_0)
def pQ_342 (u : sCu) : Prop := ∃ (SM : List sIn) (H : gHt) (cu : List sCu) (n : Nat), (∀ I ∈ SM, sInOk pPT I) ∧ (∀ v ∈ cu, v ∈ us_342) ∧ sWhU pPT SM H i_342 (mR pm_72) cu n u = true
theorem q_342_0 : pQ_342 u_342_0 := ⟨_, _, _, _, (pS_nil), (pV_cons (List.mem_of_getElem? (i := 1) rfl) (pV_cons (List.mem_of_getElem? (i := 0) rfl) (pV_nil))), f_342_0⟩
theorem q_342_1 : pQ_342 u_342_1 := ⟨_, _, _, _, (pS_nil), (pV_nil), f_342_1⟩
theorem qb_342_0 : ∀ u ∈ [u_342_0, u_342_1], pQ_342 u := pU_cons q_342_0 (pU_cons q_342_1 (pU_nil))
theorem ok_342 : sInOk pPT i_342 := sInst3 (M := pm_72) (cus := us_342) pOk pg_72 (by decide +kernel) ⟨_, _, _, _, (pS_nil), (pV_cons (List.mem_of_getElem? (i := 0) rfl) (pV_nil)), e_342⟩ (show ∀ u ∈ us_342, pQ_342 u from qb_342_0)
def pQ_343 (u : sCu) : Prop := ∃ (SM : List sIn) (H : gHt) (cu : List sCu) (n : Nat), (∀ I ∈ SM, sInOk pPT I) ∧ (∀ v ∈ cu, v ∈ us_343) ∧ sWhU pPT SM H i_343 (mR pm_215) cu n u = true
theorem q_343_0 : pQ_343 u_343_0 := ⟨_, _, _, _, (pS_nil), (pV_cons (List.mem_of_getElem? (i := 1) rfl) (pV_cons (List.mem_of_getElem? (i := 2) rfl) (pV_nil))), f_343_0⟩
theorem q_343_1 : pQ_343 u_343_1 := ⟨_, _, _, _, (pS_nil), (pV_cons (List.mem_of_getElem? (i := 2) rfl) (pV_nil)), f_343_1⟩
theorem q_343_2 : pQ_343 u_343_2 := ⟨_, _, _, _, (pS_nil), (pV_cons (List.mem_of_getElem? (i := 3) rfl) (pV_nil)), f_343_2⟩
theorem q_343_3 : pQ_343 u_343_3 := ⟨_, _, _, _, (pS_nil), (pV_cons (List.mem_of_getElem? (i := 0) rfl) (pV_nil)), f_343_3⟩
theorem qb_343_0 : ∀ u ∈ [u_343_0, u_343_1, u_343_2, u_343_3], pQ_343 u := pU_cons q_343_0 (pU_cons q_343_1 (pU_cons q_343_2 (pU_cons q_343_3 (pU_nil))))
theorem ok_343 : sInOk pPT i_343 := sInst3 (M := pm_215) (cus := us_343) pOk pg_215 (by decide +kernel) ⟨_, _, _, _, (pS_nil), (pV_cons (List.mem_of_getElem? (i := 0) rfl) (pV_nil)), e_343⟩ (show ∀ u ∈ us_343, pQ_343 u from qb_343_0)
def pQ_344 (u : sCu) : Prop := ∃ (SM : List sIn) (H : gHt) (cu : List sCu) (n : Nat), (∀ I ∈ SM, sInOk pPT I) ∧ (∀ v ∈ cu, v ∈ us_344) ∧ sWhU pPT SM H i_344 (mR pm_146) cu n u = true
theorem q_344_0 : pQ_344 u_344_0 := ⟨_, _, _, _, (pS_nil), (pV_cons (List.mem_of_getElem? (i := 1) rfl) (pV_cons (List.mem_of_getElem? (i := 0) rfl) (pV_nil))), f_344_0⟩
theorem q_344_1 : pQ_344 u_344_1 := ⟨_, _, _, _, (pS_nil), (pV_cons (List.mem_of_getElem? (i := 2) rfl) (pV_cons (List.mem_of_getElem? (i := 3) rfl) (pV_nil))), f_344_1⟩
theorem q_344_2 : pQ_344 u_344_2 := ⟨_, _, _, _, (pS_nil), (pV_cons (List.mem_of_getElem? (i := 1) rfl) (pV_nil)), f_344_2⟩
theorem q_344_3 : pQ_344 u_344_3 := ⟨_, _, _, _, (pS_nil), (pV_cons (List.mem_of_getElem? (i := 2) rfl) (pV_nil)), f_344_3⟩
theorem qb_344_0 : ∀ u ∈ [u_344_0, u_344_1, u_344_2, u_344_3], pQ_344 u := pU_cons q_344_0 (pU_cons q_344_1 (pU_cons q_344_2 (pU_cons q_344_3 (pU_nil))))
theorem ok_344 : sInOk pPT i_344 := sInst3 (M := pm_146) (cus := us_344) pOk pg_146 (by decide +kernel) ⟨_, _, _, _, (pS_nil), (pV_cons (List.mem_of_getElem? (i := 0) rfl) (pV_nil)), e_344⟩ (show ∀ u ∈ us_344, pQ_344 u from qb_344_0)
def pQ_345 (u : sCu) : Prop := ∃ (SM : List sIn) (H : gHt) (cu : List sCu) (n : Nat), (∀ I ∈ SM, sInOk pPT I) ∧ (∀ v ∈ cu, v ∈ us_345) ∧ sWhU pPT SM H i_345 (mR pm_134) cu n u = true
theorem q_345_0 : pQ_345 u_345_0 := ⟨_, _, _, _, (pS_nil), (pV_cons (List.mem_of_getElem? (i := 1) rfl) (pV_cons (List.mem_of_getElem? (i := 2) rfl) (pV_nil))), f_345_0⟩
theorem q_345_1 : pQ_345 u_345_1 := ⟨_, _, _, _, (pS_nil), (pV_cons (List.mem_of_getElem? (i := 0) rfl) (pV_nil)), f_345_1⟩
theorem q_345_2 : pQ_345 u_345_2 := ⟨_, _, _, _, (pS_nil), (pV_cons (List.mem_of_getElem? (i := 1) rfl) (pV_nil)), f_345_2⟩
theorem qb_345_0 : ∀ u ∈ [u_345_0, u_345_1, u_345_2], pQ_345 u := pU_cons q_345_0 (pU_cons q_345_1 (pU_cons q_345_2 (pU_nil)))
theorem ok_345 : sInOk pPT i_345 := sInst3 (M := pm_134) (cus := us_345) pOk pg_134 (by decide +kernel) ⟨_, _, _, _, (pS_nil), (pV_cons (List.mem_of_getElem? (i := 0) rfl) (pV_nil)), e_345⟩ (show ∀ u ∈ us_345, pQ_345 u from qb_345_0)
def pQ_346 (u : sCu) : Prop := ∃ (SM : List sIn) (H : gHt) (cu : List sCu) (n : Nat), (∀ I ∈ SM, sInOk pPT I) ∧ (∀ v ∈ cu, v ∈ us_346) ∧ sWhU pPT SM H i_346 (mR pm_193) cu n u = true
theorem q_346_0 : pQ_346 u_346_0 := ⟨_, _, _, _, (pS_nil), (pV_cons (List.mem_of_getElem? (i := 1) rfl) (pV_cons (List.mem_of_getElem? (i := 4) rfl) (pV_cons (List.mem_of_getElem? (i := 5) rfl) (pV_cons (List.mem_of_getElem? (i := 6) rfl) (pV_cons (List.mem_of_getElem? (i := 7) rfl) (pV_cons (List.mem_of_getElem? (i := 8) rfl) (pV_cons (List.mem_of_getElem? (i := 9) rfl) (pV_cons (List.mem_of_getElem? (i := 10) rfl) (pV_cons (List.mem_of_getElem? (i := 3) rfl) (pV_cons (List.mem_of_getElem? (i := 2) rfl) (pV_nil))))))))))), f_346_0⟩
theorem q_346_1 : pQ_346 u_346_1 := ⟨_, _, _, _, (pS_nil), (pV_cons (List.mem_of_getElem? (i := 0) rfl) (pV_nil)), f_346_1⟩
theorem q_346_2 : pQ_346 u_346_2 := ⟨_, _, _, _, (pS_nil), (pV_cons (List.mem_of_getElem? (i := 1) rfl) (pV_nil)), f_346_2⟩
theorem q_346_3 : pQ_346 u_346_3 := ⟨_, _, _, _, (pS_nil), (pV_cons (List.mem_of_getElem? (i := 1) rfl) (pV_nil)), f_346_3⟩
theorem q_346_4 : pQ_346 u_346_4 := ⟨_, _, _, _, (pS_nil), (pV_cons (List.mem_of_getElem? (i := 1) rfl) (pV_nil)), f_346_4⟩
theorem q_346_5 : pQ_346 u_346_5 := ⟨_, _, _, _, (pS_nil), (pV_cons (List.mem_of_getElem? (i := 1) rfl) (pV_nil)), f_346_5⟩
theorem q_346_6 : pQ_346 u_346_6 := ⟨_, _, _, _, (pS_nil), (pV_cons (List.mem_of_getElem? (i := 1) rfl) (pV_nil)), f_346_6⟩
theorem q_346_7 : pQ_346 u_346_7 := ⟨_, _, _, _, (pS_nil), (pV_cons (List.mem_of_getElem? (i := 8) rfl) (pV_nil)), f_346_7⟩
theorem q_346_8 : pQ_346 u_346_8 := ⟨_, _, _, _, (pS_nil), (pV_cons (List.mem_of_getElem? (i := 1) rfl) (pV_nil)), f_346_8⟩
theorem q_346_9 : pQ_346 u_346_9 := ⟨_, _, _, _, (pS_nil), (pV_cons (List.mem_of_getElem? (i := 10) rfl) (pV_nil)), f_346_9⟩
theorem q_346_10 : pQ_346 u_346_10 := ⟨_, _, _, _, (pS_nil), (pV_cons (List.mem_of_getElem? (i := 1) rfl) (pV_nil)), f_346_10⟩
theorem qb_346_0 : ∀ u ∈ [u_346_0, u_346_1, u_346_2, u_346_3, u_346_4, u_346_5, u_346_6, u_346_7, u_346_8, u_346_9], pQ_346 u := pU_cons q_346_0 (pU_cons q_346_1 (pU_cons q_346_2 (pU_cons q_346_3 (pU_cons q_346_4 (pU_cons q_346_5 (pU_cons q_346_6 (pU_cons q_346_7 (pU_cons q_346_8 (pU_cons q_346_9 (pU_nil))))))))))
theorem qb_346_1 : ∀ u ∈ [u_346_10], pQ_346 u := pU_cons q_346_10 (pU_nil)
theorem ok_346 : sInOk pPT i_346 := sInst3 (M := pm_193) (cus := us_346) pOk pg_193 (by decide +kernel) ⟨_, _, _, _, (pS_nil), (pV_cons (List.mem_of_getElem? (i := 0) rfl) (pV_nil)), e_346⟩ (show ∀ u ∈ us_346, pQ_346 u from (pU_app qb_346_0 qb_346_1))
def pQ_347 (u : sCu) : Prop := ∃ (SM : List sIn) (H : gHt) (cu : List sCu) (n : Nat), (∀ I ∈ SM, sInOk pPT I) ∧ (∀ v ∈ cu, v ∈ us_347) ∧ sWhU pPT SM H i_347 (mR pm_152) cu n u = true
theorem q_347_0 : pQ_347 u_347_0 := ⟨_, _, _, _, (pS_nil), (pV_cons (List.mem_of_getElem? (i := 2) rfl) (pV_nil)), f_347_0⟩
theorem q_347_1 : pQ_347 u_347_1 := ⟨_, _, _, _, (pS_nil), (pV_cons (List.mem_of_getElem? (i := 0) rfl) (pV_nil)), f_347_1⟩
theorem q_347_2 : pQ_347 u_347_2 := ⟨_, _, _, _, (pS_nil), (pV_cons (List.mem_of_getElem? (i := 4) rfl) (pV_cons (List.mem_of_getElem? (i := 3) rfl) (pV_nil))), f_347_2⟩
theorem q_347_3 : pQ_347 u_347_3 := ⟨_, _, _, _, (pS_nil), (pV_cons (List.mem_of_getElem? (i := 5) rfl) (pV_nil)), f_347_3⟩
theorem q_347_4 : pQ_347 u_347_4 := ⟨_, _, _, _, (pS_nil), (pV_cons (List.mem_of_getElem? (i := 3) rfl) (pV_nil)), f_347_4⟩
theorem q_347_5 : pQ_347 u_347_5 := ⟨_, _, _, _, (pS_nil), (pV_cons (List.mem_of_getElem? (i := 6) rfl) (pV_nil)), f_347_5⟩
theorem q_347_6 : pQ_347 u_347_6 := ⟨_, _, _, _, (pS_cons ok_346 (pS_nil)), (pV_nil), f_347_6⟩
theorem qb_347_0 : ∀ u ∈ [u_347_0, u_347_1, u_347_2, u_347_3, u_347_4, u_347_5, u_347_6], pQ_347 u := pU_cons q_347_0 (pU_cons q_347_1 (pU_cons q_347_2 (pU_cons q_347_3 (pU_cons q_347_4 (pU_cons q_347_5 (pU_cons q_347_6 (pU_nil)))))))
theorem ok_347 : sInOk pPT i_347 := sInst3 (M := pm_152) (cus := us_347) pOk pg_152 (by decide +kernel) ⟨_, _, _, _, (pS_nil), (pV_cons (List.mem_of_getElem? (i := 0) rfl) (pV_cons (List.mem_of_getElem? (i := 1) rfl) (pV_nil))), e_347⟩ (show ∀ u ∈ us_347, pQ_347 u from qb_347_0)
def pQ_348 (u : sCu) : Prop := ∃ (SM : List sIn) (H : gHt) (cu : List sCu) (n : Nat), (∀ I ∈ SM, sInOk pPT I) ∧ (∀ v ∈ cu, v ∈ us_348) ∧ sWhU pPT SM H i_348 (mR pm_149) cu n u = true
theorem q_348_0 : pQ_348 u_348_0 := ⟨_, _, _, _, (pS_nil), (pV_cons (List.mem_of_getElem? (i := 1) rfl) (pV_nil)), f_348_0⟩
theorem q_348_1 : pQ_348 u_348_1 := ⟨_, _, _, _, (pS_nil), (pV_cons (List.mem_of_getElem? (i := 2) rfl) (pV_cons (List.mem_of_getElem? (i := 3) rfl) (pV_nil))), f_348_1⟩
theorem q_348_2 : pQ_348 u_348_2 := ⟨_, _, _, _, (pS_nil), (pV_cons (List.mem_of_getElem? (i := 3) rfl) (pV_nil)), f_348_2⟩
theorem q_348_3 : pQ_348 u_348_3 := ⟨_, _, _, _, (pS_nil), (pV_cons (List.mem_of_getElem? (i := 4) rfl) (pV_nil)), f_348_3⟩
theorem q_348_4 : pQ_348 u_348_4 := ⟨_, _, _, _, (pS_cons ok_347 (pS_nil)), (pV_nil), f_348_4⟩
theorem qb_348_0 : ∀ u ∈ [u_348_0, u_348_1, u_348_2, u_348_3, u_348_4], pQ_348 u := pU_cons q_348_0 (pU_cons q_348_1 (pU_cons q_348_2 (pU_cons q_348_3 (pU_cons q_348_4 (pU_nil)))))
theorem ok_348 : sInOk pPT i_348 := sInst3 (M := pm_149) (cus := us_348) pOk pg_149 (by decide +kernel) ⟨_, _, _, _, (pS_nil), (pV_cons (List.mem_of_getElem? (i := 0) rfl) (pV_cons (List.mem_of_getElem? (i := 1) rfl) (pV_nil))), e_348⟩ (show ∀ u ∈ us_348, pQ_348 u from qb_348_0)
def pQ_349 (u : sCu) : Prop := ∃ (SM : List sIn) (H : gHt) (cu : List sCu) (n : Nat), (∀ I ∈ SM, sInOk pPT I) ∧ (∀ v ∈ cu, v ∈ us_349) ∧ sWhU pPT SM H i_349 (mR pm_148) cu n u = true
theorem q_349_0 : pQ_349 u_349_0 := ⟨_, _, _, _, (pS_cons ok_348 (pS_nil)), (pV_cons (List.mem_of_getElem? (i := 1) rfl) (pV_nil)), f_349_0⟩
theorem q_349_1 : pQ_349 u_349_1 := ⟨_, _, _, _, (pS_nil), (pV_cons (List.mem_of_getElem? (i := 0) rfl) (pV_nil)), f_349_1⟩
theorem qb_349_0 : ∀ u ∈ [u_349_0, u_349_1], pQ_349 u := pU_cons q_349_0 (pU_cons q_349_1 (pU_nil))
theorem ok_349 : sInOk pPT i_349 := sInst3 (M := pm_148) (cus := us_349) pOk pg_148 (by decide +kernel) ⟨_, _, _, _, (pS_nil), (pV_cons (List.mem_of_getElem? (i := 0) rfl) (pV_nil)), e_349⟩ (show ∀ u ∈ us_349, pQ_349 u from qb_349_0)
def pQ_350 (u : sCu) : Prop := ∃ (SM : List sIn) (H : gHt) (cu : List sCu) (n : Nat), (∀ I ∈ SM, sInOk pPT I) ∧ (∀ v ∈ cu, v ∈ us_350) ∧ sWhU pPT SM H i_350 (mR pm_144) cu n u = true
theorem q_350_0 : pQ_350 u_350_0 := ⟨_, _, _, _, (pS_cons ok_345 (pS_cons ok_349 (pS_nil))), (pV_cons (List.mem_of_getElem? (i := 1) rfl) (pV_nil)), f_350_0⟩
theorem q_350_1 : pQ_350 u_350_1 := ⟨_, _, _, _, (pS_nil), (pV_cons (List.mem_of_getElem? (i := 0) rfl) (pV_nil)), f_350_1⟩
theorem qb_350_0 : ∀ u ∈ [u_350_0, u_350_1], pQ_350 u := pU_cons q_350_0 (pU_cons q_350_1 (pU_nil))
theorem ok_350 : sInOk pPT i_350 := sInst3 (M := pm_144) (cus := us_350) pOk pg_144 (by decide +kernel) ⟨_, _, _, _, (pS_cons ok_344 (pS_nil)), (pV_cons (List.mem_of_getElem? (i := 0) rfl) (pV_nil)), e_350⟩ (show ∀ u ∈ us_350, pQ_350 u from qb_350_0)
def pQ_351 (u : sCu) : Prop := ∃ (SM : List sIn) (H : gHt) (cu : List sCu) (n : Nat), (∀ I ∈ SM, sInOk pPT I) ∧ (∀ v ∈ cu, v ∈ us_351) ∧ sWhU pPT SM H i_351 (mR pm_230) cu n u = true
theorem q_351_0 : pQ_351 u_351_0 := ⟨_, _, _, _, (pS_cons ok_350 (pS_nil)), (pV_cons (List.mem_of_getElem? (i := 1) rfl) (pV_nil)), f_351_0⟩
theorem q_351_1 : pQ_351 u_351_1 := ⟨_, _, _, _, (pS_nil), (pV_cons (List.mem_of_getElem? (i := 0) rfl) (pV_nil)), f_351_1⟩
theorem qb_351_0 : ∀ u ∈ [u_351_0, u_351_1], pQ_351 u := pU_cons q_351_0 (pU_cons q_351_1 (pU_nil))
theorem ok_351 : sInOk pPT i_351 := sInst3 (M := pm_230) (cus := us_351) pOk pg_230 (by decide +kernel) ⟨_, _, _, _, (pS_cons ok_343 (pS_nil)), (pV_cons (List.mem_of_getElem? (i := 0) rfl) (pV_nil)), e_351⟩ (show ∀ u ∈ us_351, pQ_351 u from qb_351_0)
theorem ok_352 : sInOk pPT i_352 := sInst3 (M := pm_266) (cus := []) pOk pg_266 (by decide +kernel) ⟨_, _, _, _, (pS_cons ok_351 (pS_nil)), pV_nil, e_352⟩ pU_nil
theorem ok_353 : sInOk pPT i_353 := sInst3 (M := pm_19) (cus := []) pOk pg_19 (by decide +kernel) ⟨_, _, _, _, (pS_cons ok_352 (pS_nil)), pV_nil, e_353⟩ pU_nil
def pQ_354 (u : sCu) : Prop := ∃ (SM : List sIn) (H : gHt) (cu : List sCu) (n : Nat), (∀ I ∈ SM, sInOk pPT I) ∧ (∀ v ∈ cu, v ∈ us_354) ∧ sWhU pPT SM H i_354 (mR pm_32) cu n u = true
theorem q_354_0 : pQ_354 u_354_0 := ⟨_, _, _, _, (pS_nil), (pV_cons (List.mem_of_getElem? (i := 0) rfl) (pV_nil)), f_354_0⟩
theorem qb_354_0 : ∀ u ∈ [u_354_0], pQ_354 u := pU_cons q_354_0 (pU_nil)
theorem ok_354 : sInOk pPT i_354 := sInst3 (M := pm_32) (cus := us_354) pOk pg_32 (by decide +kernel) ⟨_, _, _, _, (pS_nil), (pV_cons (List.mem_of_getElem? (i := 0) rfl) (pV_nil)), e_354⟩ (show ∀ u ∈ us_354, pQ_354 u from qb_354_0)
def pQ_355 (u : sCu) : Prop := ∃ (SM : List sIn) (H : gHt) (cu : List sCu) (n : Nat), (∀ I ∈ SM, sInOk pPT I) ∧ (∀ v ∈ cu, v ∈ us_355) ∧ sWhU pPT SM H i_355 (mR pm_109) cu n u = true
theorem q_355_0 : pQ_355 u_355_0 := ⟨_, _, _, _, (pS_nil), (pV_nil), f_355_0⟩
theorem q_355_1 : pQ_355 u_355_1 := ⟨_, _, _, _, (pS_nil), (pV_cons (List.mem_of_getElem? (i := 4) rfl) (pV_cons (List.mem_of_getElem? (i := 2) rfl) (pV_cons (List.mem_of_getElem? (i := 3) rfl) (pV_nil)))), f_355_1⟩
theorem q_355_2 : pQ_355 u_355_2 := ⟨_, _, _, _, (pS_nil), (pV_cons (List.mem_of_getElem? (i := 3) rfl) (pV_nil)), f_355_2⟩
theorem q_355_3 : pQ_355 u_355_3 := ⟨_, _, _, _, (pS_nil), (pV_cons (List.mem_of_getElem? (i := 1) rfl) (pV_nil)), f_355_3⟩
theorem q_355_4 : pQ_355 u_355_4 := ⟨_, _, _, _, (pS_cons ok_354 (pS_nil)), (pV_cons (List.mem_of_getElem? (i := 6) rfl) (pV_cons (List.mem_of_getElem? (i := 5) rfl) (pV_nil))), f_355_4⟩
theorem q_355_5 : pQ_355 u_355_5 := ⟨_, _, _, _, (pS_cons ok_309 (pS_nil)), (pV_cons (List.mem_of_getElem? (i := 6) rfl) (pV_nil)), f_355_5⟩
theorem q_355_6 : pQ_355 u_355_6 := ⟨_, _, _, _, (pS_nil), (pV_cons (List.mem_of_getElem? (i := 4) rfl) (pV_nil)), f_355_6⟩
theorem qb_355_0 : ∀ u ∈ [u_355_0, u_355_1, u_355_2, u_355_3, u_355_4, u_355_5, u_355_6], pQ_355 u := pU_cons q_355_0 (pU_cons q_355_1 (pU_cons q_355_2 (pU_cons q_355_3 (pU_cons q_355_4 (pU_cons q_355_5 (pU_cons q_355_6 (pU_nil)))))))
theorem ok_355 : sInOk pPT i_355 := sInst3 (M := pm_109) (cus := us_355) pOk pg_109 (by decide +kernel) ⟨_, _, _, _, (pS_cons ok_305 (pS_nil)), (pV_cons (List.mem_of_getElem? (i := 0) rfl) (pV_cons (List.mem_of_getElem? (i := 1) rfl) (pV_nil))), e_355⟩ (show ∀ u ∈ us_355, pQ_355 u from qb_355_0)
def pQ_356 (u : sCu) : Prop := ∃ (SM : List sIn) (H : gHt) (cu : List sCu) (n : Nat), (∀ I ∈ SM, sInOk pPT I) ∧ (∀ v ∈ cu, v ∈ us_356) ∧ sWhU pPT SM H i_356 (mR pm_145) cu n u = true
theorem q_356_0 : pQ_356 u_356_0 := ⟨_, _, _, _, (pS_cons ok_350 (pS_nil)), (pV_cons (List.mem_of_getElem? (i := 0) rfl) (pV_nil)), f_356_0⟩
theorem qb_356_0 : ∀ u ∈ [u_356_0], pQ_356 u := pU_cons q_356_0 (pU_nil)
theorem ok_356 : sInOk pPT i_356 := sInst3 (M := pm_145) (cus := us_356) pOk pg_145 (by decide +kernel) ⟨_, _, _, _, (pS_nil), (pV_cons (List.mem_of_getElem? (i := 0) rfl) (pV_nil)), e_356⟩ (show ∀ u ∈ us_356, pQ_356 u from qb_356_0)
def pQ_357 (u : sCu) : Prop := ∃ (SM : List sIn) (H : gHt) (cu : List sCu) (n : Nat), (∀ I ∈ SM, sInOk pPT I) ∧ (∀ v ∈ cu, v ∈ us_357) ∧ sWhU pPT SM H i_357 (mR pm_142) cu n u = true
theorem q_357_0 : pQ_357 u_357_0 := ⟨_, _, _, _, (pS_nil), (pV_cons (List.mem_of_getElem? (i := 1) rfl) (pV_cons (List.mem_of_getElem? (i := 2) rfl) (pV_nil))), f_357_0⟩
theorem q_357_1 : pQ_357 u_357_1 := ⟨_, _, _, _, (pS_nil), (pV_cons (List.mem_of_getElem? (i := 0) rfl) (pV_nil)), f_357_1⟩
theorem q_357_2 : pQ_357 u_357_2 := ⟨_, _, _, _, (pS_nil), (pV_cons (List.mem_of_getElem? (i := 1) rfl) (pV_nil)), f_357_2⟩
theorem qb_357_0 : ∀ u ∈ [u_357_0, u_357_1, u_357_2], pQ_357 u := pU_cons q_357_0 (pU_cons q_357_1 (pU_cons q_357_2 (pU_nil)))
theorem ok_357 : sInOk pPT i_357 := sInst3 (M := pm_142) (cus := us_357) pOk pg_142 (by decide +kernel) ⟨_, _, _, _, (pS_nil), (pV_cons (List.mem_of_getElem? (i := 0) rfl) (pV_nil)), e_357⟩ (show ∀ u ∈ us_357, pQ_357 u from qb_357_0)
def pQ_358 (u : sCu) : Prop := ∃ (SM : List sIn) (H : gHt) (cu : List sCu) (n : Nat), (∀ I ∈ SM, sInOk pPT I) ∧ (∀ v ∈ cu, v ∈ us_358) ∧ sWhU pPT SM H i_358 (mR pm_141) cu n u = true
theorem q_358_0 : pQ_358 u_358_0 := ⟨_, _, _, _, (pS_cons ok_357 (pS_nil)), (pV_cons (List.mem_of_getElem? (i := 1) rfl) (pV_nil)), f_358_0⟩
theorem q_358_1 : pQ_358 u_358_1 := ⟨_, _, _, _, (pS_nil), (pV_cons (List.mem_of_getElem? (i := 0) rfl) (pV_nil)), f_358_1⟩
theorem qb_358_0 : ∀ u ∈ [u_358_0, u_358_1], pQ_358 u := pU_cons q_358_0 (pU_cons q_358_1 (pU_nil))
theorem ok_358 : sInOk pPT i_358 := sInst3 (M := pm_141) (cus := us_358) pOk pg_141 (by decide +kernel) ⟨_, _, _, _, (pS_nil), (pV_cons (List.mem_of_getElem? (i := 0) rfl) (pV_nil)), e_358⟩ (show ∀ u ∈ us_358, pQ_358 u from qb_358_0)
theorem ok_359 : sInOk pPT i_359 := sInst3 (M := pm_143) (cus := []) pOk pg_143 (by decide +kernel) ⟨_, _, _, _, (pS_cons ok_299 (pS_cons ok_358 (pS_nil))), pV_nil, e_359⟩ pU_nil
theorem ok_360 : sInOk pPT i_360 := sInst3 (M := pm_222) (cus := []) pOk pg_222 (by decide +kernel) ⟨_, _, _, _, (pS_cons ok_300 (pS_cons ok_356 (pS_cons ok_359 (pS_nil)))), pV_nil, e_360⟩ pU_nil
theorem ok_361 : sInOk pPT i_361 := sInst3 (M := pm_252) (cus := []) pOk pg_252 (by decide +kernel) ⟨_, _, _, _, (pS_cons ok_360 (pS_nil)), pV_nil, e_361⟩ pU_nil
theorem ok_362 : sInOk pPT i_362 := sInst3 (M := pm_12) (cus := []) pOk pg_12 (by decide +kernel) ⟨_, _, _, _, (pS_cons ok_361 (pS_nil)), pV_nil, e_362⟩ pU_nil
theorem ok_363 : sInOk pPT i_363 := sInst3 (M := pm_81) (cus := []) pOk pg_81 (by decide +kernel) ⟨_, _, _, _, (pS_cons ok_310 (pS_cons ok_312 (pS_nil))), pV_nil, e_363⟩ pU_nil
theorem ok_364 : sInOk pPT i_364 := sInst3 (M := pm_80) (cus := []) pOk pg_80 (by decide +kernel) ⟨_, _, _, _, (pS_cons ok_363 (pS_nil)), pV_nil, e_364⟩ pU_nil
def pQ_365 (u : sCu) : Prop := ∃ (SM : List sIn) (H : gHt) (cu : List sCu) (n : Nat), (∀ I ∈ SM, sInOk pPT I) ∧ (∀ v ∈ cu, v ∈ us_365) ∧ sWhU pPT SM H i_365 (mR pm_239) cu n u = true
theorem q_365_0 : pQ_365 u_365_0 := ⟨_, _, _, _, (pS_cons ok_360 (pS_nil)), (pV_cons (List.mem_of_getElem? (i := 1) rfl) (pV_cons (List.mem_of_getElem? (i := 2) rfl) (pV_nil))), f_365_0⟩
theorem q_365_1 : pQ_365 u_365_1 := ⟨_, _, _, _, (pS_nil), (pV_cons (List.mem_of_getElem? (i := 2) rfl) (pV_nil)), f_365_1⟩
theorem q_365_2 : pQ_365 u_365_2 := ⟨_, _, _, _, (pS_nil), (pV_cons (List.mem_of_getElem? (i := 0) rfl) (pV_nil)), f_365_2⟩
theorem qb_365_0 : ∀ u ∈ [u_365_0, u_365_1, u_365_2], pQ_365 u := pU_cons q_365_0 (pU_cons q_365_1 (pU_cons q_365_2 (pU_nil)))
theorem ok_365 : sInOk pPT i_365 := sInst3 (M := pm_239) (cus := us_365) pOk pg_239 (by decide +kernel) ⟨_, _, _, _, (pS_nil), (pV_cons (List.mem_of_getElem? (i := 0) rfl) (pV_nil)), e_365⟩ (show ∀ u ∈ us_365, pQ_365 u from qb_365_0)
def pQ_366 (u : sCu) : Prop := ∃ (SM : List sIn) (H : gHt) (cu : List sCu) (n : Nat), (∀ I ∈ SM, sInOk pPT I) ∧ (∀ v ∈ cu, v ∈ us_366) ∧ sWhU pPT SM H i_366 (mR pm_41) cu n u = true
theorem q_366_0 : pQ_366 u_366_0 := ⟨_, _, _, _, (pS_cons ok_363 (pS_nil)), (pV_cons (List.mem_of_getElem? (i := 1) rfl) (pV_cons (List.mem_of_getElem? (i := 2) rfl) (pV_nil))), f_366_0⟩
theorem q_366_1 : pQ_366 u_366_1 := ⟨_, _, _, _, (pS_nil), (pV_cons (List.mem_of_getElem? (i := 2) rfl) (pV_nil)), f_366_1⟩
theorem q_366_2 : pQ_366 u_366_2 := ⟨_, _, _, _, (pS_nil), (pV_cons (List.mem_of_getElem? (i := 0) rfl) (pV_nil)), f_366_2⟩
theorem qb_366_0 : ∀ u ∈ [u_366_0, u_366_1, u_366_2], pQ_366 u := pU_cons q_366_0 (pU_cons q_366_1 (pU_cons q_366_2 (pU_nil)))
theorem ok_366 : sInOk pPT i_366 := sInst3 (M := pm_41) (cus := us_366) pOk pg_41 (by decide +kernel) ⟨_, _, _, _, (pS_nil), (pV_cons (List.mem_of_getElem? (i := 0) rfl) (pV_nil)), e_366⟩ (show ∀ u ∈ us_366, pQ_366 u from qb_366_0)
theorem ok_367 : sInOk pPT i_367 := sInst3 (M := pm_246) (cus := []) pOk pg_246 (by decide +kernel) ⟨_, _, _, _, (pS_cons ok_315 (pS_nil)), pV_nil, e_367⟩ pU_nil
theorem ok_368 : sInOk pPT i_368 := sInst3 (M := pm_8) (cus := []) pOk pg_8 (by decide +kernel) ⟨_, _, _, _, (pS_cons ok_367 (pS_nil)), pV_nil, e_368⟩ pU_nil
theorem ok_369 : sInOk pPT i_369 := sInst3 (M := pm_53) (cus := []) pOk pg_53 (by decide +kernel) ⟨_, _, _, _, (pS_cons ok_310 (pS_cons ok_318 (pS_nil))), pV_nil, e_369⟩ pU_nil
def pQ_370 (u : sCu) : Prop := ∃ (SM : List sIn) (H : gHt) (cu : List sCu) (n : Nat), (∀ I ∈ SM, sInOk pPT I) ∧ (∀ v ∈ cu, v ∈ us_370) ∧ sWhU pPT SM H i_370 (mR pm_138) cu n u = true
theorem q_370_0 : pQ_370 u_370_0 := ⟨_, _, _, _, (pS_nil), (pV_cons (List.mem_of_getElem? (i := 1) rfl) (pV_nil)), f_370_0⟩
theorem q_370_1 : pQ_370 u_370_1 := ⟨_, _, _, _, (pS_nil), (pV_cons (List.mem_of_getElem? (i := 0) rfl) (pV_nil)), f_370_1⟩
theorem qb_370_0 : ∀ u ∈ [u_370_0, u_370_1], pQ_370 u := pU_cons q_370_0 (pU_cons q_370_1 (pU_nil))
theorem ok_370 : sInOk pPT i_370 := sInst3 (M := pm_138) (cus := us_370) pOk pg_138 (by decide +kernel) ⟨_, _, _, _, (pS_nil), (pV_cons (List.mem_of_getElem? (i := 0) rfl) (pV_nil)), e_370⟩ (show ∀ u ∈ us_370, pQ_370 u from qb_370_0)
def pQ_371 (u : sCu) : Prop := ∃ (SM : List sIn) (H : gHt) (cu : List sCu) (n : Nat), (∀ I ∈ SM, sInOk pPT I) ∧ (∀ v ∈ cu, v ∈ us_371) ∧ sWhU pPT SM H i_371 (mR pm_132) cu n u = true
theorem q_371_0 : pQ_371 u_371_0 := ⟨_, _, _, _, (pS_cons ok_370 (pS_nil)), (pV_cons (List.mem_of_getElem? (i := 0) rfl) (pV_nil)), f_371_0⟩
theorem qb_371_0 : ∀ u ∈ [u_371_0], pQ_371 u := pU_cons q_371_0 (pU_nil)
theorem ok_371 : sInOk pPT i_371 := sInst3 (M := pm_132) (cus := us_371) pOk pg_132 (by decide +kernel) ⟨_, _, _, _, (pS_nil), (pV_cons (List.mem_of_getElem? (i := 0) rfl) (pV_nil)), e_371⟩ (show ∀ u ∈ us_371, pQ_371 u from qb_371_0)
theorem ok_372 : sInOk pPT i_372 := sInst3 (M := pm_226) (cus := []) pOk pg_226 (by decide +kernel) ⟨_, _, _, _, (pS_cons ok_302 (pS_cons ok_356 (pS_cons ok_371 (pS_nil)))), pV_nil, e_372⟩ pU_nil
theorem ok_373 : sInOk pPT i_373 := sInst3 (M := pm_253) (cus := []) pOk pg_253 (by decide +kernel) ⟨_, _, _, _, (pS_cons ok_372 (pS_nil)), pV_nil, e_373⟩ pU_nil
theorem ok_374 : sInOk pPT i_374 := sInst3 (M := pm_13) (cus := []) pOk pg_13 (by decide +kernel) ⟨_, _, _, _, (pS_cons ok_373 (pS_nil)), pV_nil, e_374⟩ pU_nil
def pQ_375 (u : sCu) : Prop := ∃ (SM : List sIn) (H : gHt) (cu : List sCu) (n : Nat), (∀ I ∈ SM, sInOk pPT I) ∧ (∀ v ∈ cu, v ∈ us_375) ∧ sWhU pPT SM H i_375 (mR pm_82) cu n u = true
theorem q_375_0 : pQ_375 u_375_0 := ⟨_, _, _, _, (pS_nil), (pV_nil), f_375_0⟩
theorem qb_375_0 : ∀ u ∈ [u_375_0], pQ_375 u := pU_cons q_375_0 (pU_nil)
theorem ok_375 : sInOk pPT i_375 := sInst3 (M := pm_82) (cus := us_375) pOk pg_82 (by decide +kernel) ⟨_, _, _, _, (pS_cons ok_310 (pS_cons ok_313 (pS_nil))), (pV_cons (List.mem_of_getElem? (i := 0) rfl) (pV_nil)), e_375⟩ (show ∀ u ∈ us_375, pQ_375 u from qb_375_0)
theorem ok_376 : sInOk pPT i_376 := sInst3 (M := pm_218) (cus := []) pOk pg_218 (by decide +kernel) ⟨_, _, _, _, (pS_cons ok_302 (pS_cons ok_356 (pS_cons ok_371 (pS_nil)))), pV_nil, e_376⟩ pU_nil
theorem ok_377 : sInOk pPT i_377 := sInst3 (M := pm_272) (cus := []) pOk pg_272 (by decide +kernel) ⟨_, _, _, _, (pS_cons ok_376 (pS_nil)), pV_nil, e_377⟩ pU_nil
theorem ok_378 : sInOk pPT i_378 := sInst3 (M := pm_22) (cus := []) pOk pg_22 (by decide +kernel) ⟨_, _, _, _, (pS_cons ok_377 (pS_nil)), pV_nil, e_378⟩ pU_nil
theorem ok_379 : sInOk pPT i_379 := sInst3 (M := pm_127) (cus := []) pOk pg_127 (by decide +kernel) ⟨_, _, _, _, (pS_cons ok_310 (pS_cons ok_313 (pS_nil))), pV_nil, e_379⟩ pU_nil
def pQ_380 (u : sCu) : Prop := ∃ (SM : List sIn) (H : gHt) (cu : List sCu) (n : Nat), (∀ I ∈ SM, sInOk pPT I) ∧ (∀ v ∈ cu, v ∈ us_380) ∧ sWhU pPT SM H i_380 (mR pm_262) cu n u = true
theorem q_380_0 : pQ_380 u_380_0 := ⟨_, _, _, _, (pS_nil), (pV_cons (List.mem_of_getElem? (i := 1) rfl) (pV_cons (List.mem_of_getElem? (i := 0) rfl) (pV_nil))), f_380_0⟩
theorem q_380_1 : pQ_380 u_380_1 := ⟨_, _, _, _, (pS_nil), (pV_cons (List.mem_of_getElem? (i := 1) rfl) (pV_nil)), f_380_1⟩
theorem qb_380_0 : ∀ u ∈ [u_380_0, u_380_1], pQ_380 u := pU_cons q_380_0 (pU_cons q_380_1 (pU_nil))
theorem ok_380 : sInOk pPT i_380 := sInst3 (M := pm_262) (cus := us_380) pOk pg_262 (by decide +kernel) ⟨_, _, _, _, (pS_nil), (pV_cons (List.mem_of_getElem? (i := 0) rfl) (pV_nil)), e_380⟩ (show ∀ u ∈ us_380, pQ_380 u from qb_380_0)
def pQ_381 (u : sCu) : Prop := ∃ (SM : List sIn) (H : gHt) (cu : List sCu) (n : Nat), (∀ I ∈ SM, sInOk pPT I) ∧ (∀ v ∈ cu, v ∈ us_381) ∧ sWhU pPT SM H i_381 (mR pm_240) cu n u = true
theorem q_381_0 : pQ_381 u_381_0 := ⟨_, _, _, _, (pS_cons ok_380 (pS_nil)), (pV_cons (List.mem_of_getElem? (i := 0) rfl) (pV_nil)), f_381_0⟩
theorem qb_381_0 : ∀ u ∈ [u_381_0], pQ_381 u := pU_cons q_381_0 (pU_nil)
theorem ok_381 : sInOk pPT i_381 := sInst3 (M := pm_240) (cus := us_381) pOk pg_240 (by decide +kernel) ⟨_, _, _, _, (pS_cons ok_380 (pS_nil)), (pV_cons (List.mem_of_getElem? (i := 0) rfl) (pV_nil)), e_381⟩ (show ∀ u ∈ us_381, pQ_381 u from qb_381_0)
theorem ok_382 : sInOk pPT i_382 := sInst3 (M := pm_6) (cus := []) pOk pg_6 (by decide +kernel) ⟨_, _, _, _, (pS_cons ok_381 (pS_nil)), pV_nil, e_382⟩ pU_nil
def pQ_383 (u : sCu) : Prop := ∃ (SM : List sIn) (H : gHt) (cu : List sCu) (n : Nat), (∀ I ∈ SM, sInOk pPT I) ∧ (∀ v ∈ cu, v ∈ us_383) ∧ sWhU pPT SM H i_383 (mR pm_44) cu n u = true
theorem q_383_0 : pQ_383 u_383_0 := ⟨_, _, _, _, (pS_nil), (pV_cons (List.mem_of_getElem? (i := 1) rfl) (pV_cons (List.mem_of_getElem? (i := 0) rfl) (pV_nil))), f_383_0⟩
theorem q_383_1 : pQ_383 u_383_1 := ⟨_, _, _, _, (pS_nil), (pV_cons (List.mem_of_getElem? (i := 2) rfl) (pV_cons (List.mem_of_getElem? (i := 1) rfl) (pV_nil))), f_383_1⟩
theorem q_383_2 : pQ_383 u_383_2 := ⟨_, _, _, _, (pS_nil), (pV_cons (List.mem_of_getElem? (i := 2) rfl) (pV_nil)), f_383_2⟩
theorem qb_383_0 : ∀ u ∈ [u_383_0, u_383_1, u_383_2], pQ_383 u := pU_cons q_383_0 (pU_cons q_383_1 (pU_cons q_383_2 (pU_nil)))
theorem ok_383 : sInOk pPT i_383 := sInst3 (M := pm_44) (cus := us_383) pOk pg_44 (by decide +kernel) ⟨_, _, _, _, (pS_nil), (pV_cons (List.mem_of_getElem? (i := 0) rfl) (pV_nil)), e_383⟩ (show ∀ u ∈ us_383, pQ_383 u from qb_383_0)
def pQ_384 (u : sCu) : Prop := ∃ (SM : List sIn) (H : gHt) (cu : List sCu) (n : Nat), (∀ I ∈ SM, sInOk pPT I) ∧ (∀ v ∈ cu, v ∈ us_384) ∧ sWhU pPT SM H i_384 (mR pm_43) cu n u = true
theorem q_384_0 : pQ_384 u_384_0 := ⟨_, _, _, _, (pS_cons ok_383 (pS_nil)), (pV_cons (List.mem_of_getElem? (i := 0) rfl) (pV_nil)), f_384_0⟩
theorem qb_384_0 : ∀ u ∈ [u_384_0], pQ_384 u := pU_cons q_384_0 (pU_nil)
theorem ok_384 : sInOk pPT i_384 := sInst3 (M := pm_43) (cus := us_384) pOk pg_43 (by decide +kernel) ⟨_, _, _, _, (pS_nil), (pV_cons (List.mem_of_getElem? (i := 0) rfl) (pV_nil)), e_384⟩ (show ∀ u ∈ us_384, pQ_384 u from qb_384_0)
def pQ_385 (u : sCu) : Prop := ∃ (SM : List sIn) (H : gHt) (cu : List sCu) (n : Nat), (∀ I ∈ SM, sInOk pPT I) ∧ (∀ v ∈ cu, v ∈ us_385) ∧ sWhU pPT SM H i_385 (mR pm_269) cu n u = true
theorem q_385_0 : pQ_385 u_385_0 := ⟨_, _, _, _, (pS_nil), (pV_nil), f_385_0⟩
theorem qb_385_0 : ∀ u ∈ [u_385_0], pQ_385 u := pU_cons q_385_0 (pU_nil)
theorem ok_385 : sInOk pPT i_385 := sInst3 (M := pm_269) (cus := us_385) pOk pg_269 (by decide +kernel) ⟨_, _, _, _, (pS_cons ok_315 (pS_nil)), (pV_cons (List.mem_of_getElem? (i := 0) rfl) (pV_nil)), e_385⟩ (show ∀ u ∈ us_385, pQ_385 u from qb_385_0)
def pQ_386 (u : sCu) : Prop := ∃ (SM : List sIn) (H : gHt) (cu : List sCu) (n : Nat), (∀ I ∈ SM, sInOk pPT I) ∧ (∀ v ∈ cu, v ∈ us_386) ∧ sWhU pPT SM H i_386 (mR pm_270) cu n u = true
theorem q_386_0 : pQ_386 u_386_0 := ⟨_, _, _, _, (pS_nil), (pV_cons (List.mem_of_getElem? (i := 1) rfl) (pV_nil)), f_386_0⟩
theorem q_386_1 : pQ_386 u_386_1 := ⟨_, _, _, _, (pS_cons ok_385 (pS_nil)), (pV_cons (List.mem_of_getElem? (i := 0) rfl) (pV_cons (List.mem_of_getElem? (i := 2) rfl) (pV_nil))), f_386_1⟩
theorem q_386_2 : pQ_386 u_386_2 := ⟨_, _, _, _, (pS_nil), (pV_cons (List.mem_of_getElem? (i := 1) rfl) (pV_nil)), f_386_2⟩
theorem qb_386_0 : ∀ u ∈ [u_386_0, u_386_1, u_386_2], pQ_386 u := pU_cons q_386_0 (pU_cons q_386_1 (pU_cons q_386_2 (pU_nil)))
theorem ok_386 : sInOk pPT i_386 := sInst3 (M := pm_270) (cus := us_386) pOk pg_270 (by decide +kernel) ⟨_, _, _, _, (pS_nil), (pV_cons (List.mem_of_getElem? (i := 0) rfl) (pV_nil)), e_386⟩ (show ∀ u ∈ us_386, pQ_386 u from qb_386_0)
def pQ_387 (u : sCu) : Prop := ∃ (SM : List sIn) (H : gHt) (cu : List sCu) (n : Nat), (∀ I ∈ SM, sInOk pPT I) ∧ (∀ v ∈ cu, v ∈ us_387) ∧ sWhU pPT SM H i_387 (mR pm_124) cu n u = true
theorem q_387_0 : pQ_387 u_387_0 := ⟨_, _, _, _, (pS_nil), (pV_cons (List.mem_of_getElem? (i := 1) rfl) (pV_nil)), f_387_0⟩
theorem q_387_1 : pQ_387 u_387_1 := ⟨_, _, _, _, (pS_cons ok_318 (pS_cons ok_354 (pS_nil))), (pV_cons (List.mem_of_getElem? (i := 0) rfl) (pV_cons (List.mem_of_getElem? (i := 2) rfl) (pV_cons (List.mem_of_getElem? (i := 3) rfl) (pV_nil)))), f_387_1⟩
theorem q_387_2 : pQ_387 u_387_2 := ⟨_, _, _, _, (pS_nil), (pV_cons (List.mem_of_getElem? (i := 3) rfl) (pV_nil)), f_387_2⟩
theorem q_387_3 : pQ_387 u_387_3 := ⟨_, _, _, _, (pS_nil), (pV_cons (List.mem_of_getElem? (i := 1) rfl) (pV_nil)), f_387_3⟩
theorem qb_387_0 : ∀ u ∈ [u_387_0, u_387_1, u_387_2, u_387_3], pQ_387 u := pU_cons q_387_0 (pU_cons q_387_1 (pU_cons q_387_2 (pU_cons q_387_3 (pU_nil))))
theorem ok_387 : sInOk pPT i_387 := sInst3 (M := pm_124) (cus := us_387) pOk pg_124 (by decide +kernel) ⟨_, _, _, _, (pS_cons ok_310 (pS_nil)), (pV_cons (List.mem_of_getElem? (i := 0) rfl) (pV_nil)), e_387⟩ (show ∀ u ∈ us_387, pQ_387 u from qb_387_0)
def pQ_388 (u : sCu) : Prop := ∃ (SM : List sIn) (H : gHt) (cu : List sCu) (n : Nat), (∀ I ∈ SM, sInOk pPT I) ∧ (∀ v ∈ cu, v ∈ us_388) ∧ sWhU pPT SM H i_388 (mR pm_241) cu n u = true
theorem q_388_0 : pQ_388 u_388_0 := ⟨_, _, _, _, (pS_nil), (pV_cons (List.mem_of_getElem? (i := 1) rfl) (pV_nil)), f_388_0⟩
theorem q_388_1 : pQ_388 u_388_1 := ⟨_, _, _, _, (pS_nil), (pV_cons (List.mem_of_getElem? (i := 0) rfl) (pV_cons (List.mem_of_getElem? (i := 1) rfl) (pV_nil))), f_388_1⟩
theorem qb_388_0 : ∀ u ∈ [u_388_0, u_388_1], pQ_388 u := pU_cons q_388_0 (pU_cons q_388_1 (pU_nil))
theorem ok_388 : sInOk pPT i_388 := sInst3 (M := pm_241) (cus := us_388) pOk pg_241 (by decide +kernel) ⟨_, _, _, _, (pS_nil), (pV_cons (List.mem_of_getElem? (i := 0) rfl) (pV_nil)), e_388⟩ (show ∀ u ∈ us_388, pQ_388 u from qb_388_0)
def pQ_389 (u : sCu) : Prop := ∃ (SM : List sIn) (H : gHt) (cu : List sCu) (n : Nat), (∀ I ∈ SM, sInOk pPT I) ∧ (∀ v ∈ cu, v ∈ us_389) ∧ sWhU pPT SM H i_389 (mR pm_47) cu n u = true
theorem q_389_0 : pQ_389 u_389_0 := ⟨_, _, _, _, (pS_nil), (pV_cons (List.mem_of_getElem? (i := 1) rfl) (pV_nil)), f_389_0⟩
theorem q_389_1 : pQ_389 u_389_1 := ⟨_, _, _, _, (pS_nil), (pV_cons (List.mem_of_getElem? (i := 0) rfl) (pV_cons (List.mem_of_getElem? (i := 1) rfl) (pV_nil))), f_389_1⟩
theorem qb_389_0 : ∀ u ∈ [u_389_0, u_389_1], pQ_389 u := pU_cons q_389_0 (pU_cons q_389_1 (pU_nil))
theorem ok_389 : sInOk pPT i_389 := sInst3 (M := pm_47) (cus := us_389) pOk pg_47 (by decide +kernel) ⟨_, _, _, _, (pS_cons ok_310 (pS_nil)), (pV_cons (List.mem_of_getElem? (i := 0) rfl) (pV_nil)), e_389⟩ (show ∀ u ∈ us_389, pQ_389 u from qb_389_0)
def pQ_390 (u : sCu) : Prop := ∃ (SM : List sIn) (H : gHt) (cu : List sCu) (n : Nat), (∀ I ∈ SM, sInOk pPT I) ∧ (∀ v ∈ cu, v ∈ us_390) ∧ sWhU pPT SM H i_390 (mR pm_108) cu n u = true
theorem q_390_0 : pQ_390 u_390_0 := ⟨_, _, _, _, (pS_nil), (pV_nil), f_390_0⟩
theorem q_390_1 : pQ_390 u_390_1 := ⟨_, _, _, _, (pS_nil), (pV_nil), f_390_1⟩
theorem q_390_2 : pQ_390 u_390_2 := ⟨_, _, _, _, (pS_nil), (pV_nil), f_390_2⟩
theorem q_390_3 : pQ_390 u_390_3 := ⟨_, _, _, _, (pS_nil), (pV_nil), f_390_3⟩
theorem q_390_4 : pQ_390 u_390_4 := ⟨_, _, _, _, (pS_nil), (pV_nil), f_390_4⟩
theorem q_390_5 : pQ_390 u_390_5 := ⟨_, _, _, _, (pS_nil), (pV_nil), f_390_5⟩
theorem q_390_6 : pQ_390 u_390_6 := ⟨_, _, _, _, (pS_nil), (pV_nil), f_390_6⟩
theorem q_390_7 : pQ_390 u_390_7 := ⟨_, _, _, _, (pS_nil), (pV_nil), f_390_7⟩
theorem qb_390_0 : ∀ u ∈ [u_390_0, u_390_1, u_390_2, u_390_3, u_390_4, u_390_5, u_390_6, u_390_7], pQ_390 u := pU_cons q_390_0 (pU_cons q_390_1 (pU_cons q_390_2 (pU_cons q_390_3 (pU_cons q_390_4 (pU_cons q_390_5 (pU_cons q_390_6 (pU_cons q_390_7 (pU_nil))))))))
theorem ok_390 : sInOk pPT i_390 := sInst3 (M := pm_108) (cus := us_390) pOk pg_108 (by decide +kernel) ⟨_, _, _, _, (pS_nil), (pV_cons (List.mem_of_getElem? (i := 0) rfl) (pV_cons (List.mem_of_getElem? (i := 1) rfl) (pV_cons (List.mem_of_getElem? (i := 2) rfl) (pV_cons (List.mem_of_getElem? (i := 3) rfl) (pV_cons (List.mem_of_getElem? (i := 4) rfl) (pV_cons (List.mem_of_getElem? (i := 5) rfl) (pV_cons (List.mem_of_getElem? (i := 6) rfl) (pV_cons (List.mem_of_getElem? (i := 7) rfl) (pV_nil))))))))), e_390⟩ (show ∀ u ∈ us_390, pQ_390 u from qb_390_0)
theorem ok_391 : sInOk pPT i_391 := sInst3 (M := pm_231) (cus := []) pOk pg_231 (by decide +kernel) ⟨_, _, _, _, (pS_cons ok_356 (pS_nil)), pV_nil, e_391⟩ pU_nil
def pQ_392 (u : sCu) : Prop := ∃ (SM : List sIn) (H : gHt) (cu : List sCu) (n : Nat), (∀ I ∈ SM, sInOk pPT I) ∧ (∀ v ∈ cu, v ∈ us_392) ∧ sWhU pPT SM H i_392 (mR pm_196) cu n u = true
theorem q_392_0 : pQ_392 u_392_0 := ⟨_, _, _, _, (pS_nil), (pV_cons (List.mem_of_getElem? (i := 1) rfl) (pV_nil)), f_392_0⟩
theorem q_392_1 : pQ_392 u_392_1 := ⟨_, _, _, _, (pS_nil), (pV_cons (List.mem_of_getElem? (i := 0) rfl) (pV_nil)), f_392_1⟩
theorem qb_392_0 : ∀ u ∈ [u_392_0, u_392_1], pQ_392 u := pU_cons q_392_0 (pU_cons q_392_1 (pU_nil))
theorem ok_392 : sInOk pPT i_392 := sInst3 (M := pm_196) (cus := us_392) pOk pg_196 (by decide +kernel) ⟨_, _, _, _, (pS_nil), (pV_cons (List.mem_of_getElem? (i := 0) rfl) (pV_nil)), e_392⟩ (show ∀ u ∈ us_392, pQ_392 u from qb_392_0)
theorem ok_393 : sInOk pPT i_393 := sInst3 (M := pm_213) (cus := []) pOk pg_213 (by decide +kernel) ⟨_, _, _, _, (pS_cons ok_350 (pS_cons ok_392 (pS_nil))), pV_nil, e_393⟩ pU_nil
def pQ_394 (u : sCu) : Prop := ∃ (SM : List sIn) (H : gHt) (cu : List sCu) (n : Nat), (∀ I ∈ SM, sInOk pPT I) ∧ (∀ v ∈ cu, v ∈ us_394) ∧ sWhU pPT SM H i_394 (mR pm_219) cu n u = true
theorem q_394_0 : pQ_394 u_394_0 := ⟨_, _, _, _, (pS_nil), (pV_cons (List.mem_of_getElem? (i := 1) rfl) (pV_nil)), f_394_0⟩
theorem q_394_1 : pQ_394 u_394_1 := ⟨_, _, _, _, (pS_cons ok_393 (pS_nil)), (pV_cons (List.mem_of_getElem? (i := 0) rfl) (pV_cons (List.mem_of_getElem? (i := 1) rfl) (pV_nil))), f_394_1⟩
theorem qb_394_0 : ∀ u ∈ [u_394_0, u_394_1], pQ_394 u := pU_cons q_394_0 (pU_cons q_394_1 (pU_nil))
theorem ok_394 : sInOk pPT i_394 := sInst3 (M := pm_219) (cus := us_394) pOk pg_219 (by decide +kernel) ⟨_, _, _, _, (pS_nil), (pV_cons (List.mem_of_getElem? (i := 0) rfl) (pV_nil)), e_394⟩ (show ∀ u ∈ us_394, pQ_394 u from qb_394_0)
def pQ_395 (u : sCu) : Prop := ∃ (SM : List sIn) (H : gHt) (cu : List sCu) (n : Nat), (∀ I ∈ SM, sInOk pPT I) ∧ (∀ v ∈ cu, v ∈ us_395) ∧ sWhU pPT SM H i_395 (mR pm_216) cu n u = true
theorem q_395_0 : pQ_395 u_395_0 := ⟨_, _, _, _, (pS_nil), (pV_cons (List.mem_of_getElem? (i := 1) rfl) (pV_nil)), f_395_0⟩
theorem q_395_1 : pQ_395 u_395_1 := ⟨_, _, _, _, (pS_cons ok_393 (pS_nil)), (pV_cons (List.mem_of_getElem? (i := 0) rfl) (pV_cons (List.mem_of_getElem? (i := 2) rfl) (pV_nil))), f_395_1⟩
theorem q_395_2 : pQ_395 u_395_2 := ⟨_, _, _, _, (pS_nil), (pV_cons (List.mem_of_getElem? (i := 1) rfl) (pV_nil)), f_395_2⟩
theorem qb_395_0 : ∀ u ∈ [u_395_0, u_395_1, u_395_2], pQ_395 u := pU_cons q_395_0 (pU_cons q_395_1 (pU_cons q_395_2 (pU_nil)))
theorem ok_395 : sInOk pPT i_395 := sInst3 (M := pm_216) (cus := us_395) pOk pg_216 (by decide +kernel) ⟨_, _, _, _, (pS_nil), (pV_cons (List.mem_of_getElem? (i := 0) rfl) (pV_nil)), e_395⟩ (show ∀ u ∈ us_395, pQ_395 u from qb_395_0)
def pQ_396 (u : sCu) : Prop := ∃ (SM : List sIn) (H : gHt) (cu : List sCu) (n : Nat), (∀ I ∈ SM, sInOk pPT I) ∧ (∀ v ∈ cu, v ∈ us_396) ∧ sWhU pPT SM H i_396 (mR pm_196) cu n u = true
theorem q_396_0 : pQ_396 u_396_0 := ⟨_, _, _, _, (pS_nil), (pV_cons (List.mem_of_getElem? (i := 1) rfl) (pV_nil)), f_396_0⟩
theorem q_396_1 : pQ_396 u_396_1 := ⟨_, _, _, _, (pS_nil), (pV_cons (List.mem_of_getElem? (i := 0) rfl) (pV_nil)), f_396_1⟩
theorem qb_396_0 : ∀ u ∈ [u_396_0, u_396_1], pQ_396 u := pU_cons q_396_0 (pU_cons q_396_1 (pU_nil))
theorem ok_396 : sInOk pPT i_396 := sInst3 (M := pm_196) (cus := us_396) pOk pg_196 (by decide +kernel) ⟨_, _, _, _, (pS_nil), (pV_cons (List.mem_of_getElem? (i := 0) rfl) (pV_nil)), e_396⟩ (show ∀ u ∈ us_396, pQ_396 u from qb_396_0)
theorem ok_397 : sInOk pPT i_397 := sInst3 (M := pm_271) (cus := []) pOk pg_271 (by decide +kernel) ⟨_, _, _, _, (pS_cons ok_391 (pS_cons ok_394 (pS_cons ok_395 (pS_cons ok_396 (pS_nil))))), pV_nil, e_397⟩ pU_nil
theorem ok_398 : sInOk pPT i_398 := sInst3 (M := pm_21) (cus := []) pOk pg_21 (by decide +kernel) ⟨_, _, _, _, (pS_cons ok_397 (pS_nil)), pV_nil, e_398⟩ pU_nil
def pQ_399 (u : sCu) : Prop := ∃ (SM : List sIn) (H : gHt) (cu : List sCu) (n : Nat), (∀ I ∈ SM, sInOk pPT I) ∧ (∀ v ∈ cu, v ∈ us_399) ∧ sWhU pPT SM H i_399 (mR pm_60) cu n u = true
theorem q_399_0 : pQ_399 u_399_0 := ⟨_, _, _, _, (pS_nil), (pV_cons (List.mem_of_getElem? (i := 1) rfl) (pV_nil)), f_399_0⟩
theorem q_399_1 : pQ_399 u_399_1 := ⟨_, _, _, _, (pS_nil), (pV_cons (List.mem_of_getElem? (i := 0) rfl) (pV_nil)), f_399_1⟩
theorem qb_399_0 : ∀ u ∈ [u_399_0, u_399_1], pQ_399 u := pU_cons q_399_0 (pU_cons q_399_1 (pU_nil))
theorem ok_399 : sInOk pPT i_399 := sInst3 (M := pm_60) (cus := us_399) pOk pg_60 (by decide +kernel) ⟨_, _, _, _, (pS_cons ok_310 (pS_nil)), (pV_cons (List.mem_of_getElem? (i := 0) rfl) (pV_nil)), e_399⟩ (show ∀ u ∈ us_399, pQ_399 u from qb_399_0)
def pQ_400 (u : sCu) : Prop := ∃ (SM : List sIn) (H : gHt) (cu : List sCu) (n : Nat), (∀ I ∈ SM, sInOk pPT I) ∧ (∀ v ∈ cu, v ∈ us_400) ∧ sWhU pPT SM H i_400 (mR pm_115) cu n u = true
theorem q_400_0 : pQ_400 u_400_0 := ⟨_, _, _, _, (pS_nil), (pV_cons (List.mem_of_getElem? (i := 1) rfl) (pV_cons (List.mem_of_getElem? (i := 0) rfl) (pV_nil))), f_400_0⟩
theorem q_400_1 : pQ_400 u_400_1 := ⟨_, _, _, _, (pS_nil), (pV_cons (List.mem_of_getElem? (i := 2) rfl) (pV_nil)), f_400_1⟩
theorem q_400_2 : pQ_400 u_400_2 := ⟨_, _, _, _, (pS_nil), (pV_cons (List.mem_of_getElem? (i := 1) rfl) (pV_nil)), f_400_2⟩
theorem qb_400_0 : ∀ u ∈ [u_400_0, u_400_1, u_400_2], pQ_400 u := pU_cons q_400_0 (pU_cons q_400_1 (pU_cons q_400_2 (pU_nil)))
theorem ok_400 : sInOk pPT i_400 := sInst3 (M := pm_115) (cus := us_400) pOk pg_115 (by decide +kernel) ⟨_, _, _, _, (pS_nil), (pV_cons (List.mem_of_getElem? (i := 0) rfl) (pV_nil)), e_400⟩ (show ∀ u ∈ us_400, pQ_400 u from qb_400_0)
def pQ_401 (u : sCu) : Prop := ∃ (SM : List sIn) (H : gHt) (cu : List sCu) (n : Nat), (∀ I ∈ SM, sInOk pPT I) ∧ (∀ v ∈ cu, v ∈ us_401) ∧ sWhU pPT SM H i_401 (mR pm_123) cu n u = true
theorem q_401_0 : pQ_401 u_401_0 := ⟨_, _, _, _, (pS_nil), (pV_cons (List.mem_of_getElem? (i := 2) rfl) (pV_cons (List.mem_of_getElem? (i := 3) rfl) (pV_cons (List.mem_of_getElem? (i := 1) rfl) (pV_nil)))), f_401_0⟩
theorem q_401_1 : pQ_401 u_401_1 := ⟨_, _, _, _, (pS_nil), (pV_cons (List.mem_of_getElem? (i := 2) rfl) (pV_nil)), f_401_1⟩
theorem q_401_2 : pQ_401 u_401_2 := ⟨_, _, _, _, (pS_nil), (pV_cons (List.mem_of_getElem? (i := 0) rfl) (pV_nil)), f_401_2⟩
theorem q_401_3 : pQ_401 u_401_3 := ⟨_, _, _, _, (pS_nil), (pV_cons (List.mem_of_getElem? (i := 2) rfl) (pV_nil)), f_401_3⟩
theorem qb_401_0 : ∀ u ∈ [u_401_0, u_401_1, u_401_2, u_401_3], pQ_401 u := pU_cons q_401_0 (pU_cons q_401_1 (pU_cons q_401_2 (pU_cons q_401_3 (pU_nil))))
theorem ok_401 : sInOk pPT i_401 := sInst3 (M := pm_123) (cus := us_401) pOk pg_123 (by decide +kernel) ⟨_, _, _, _, (pS_nil), (pV_cons (List.mem_of_getElem? (i := 0) rfl) (pV_nil)), e_401⟩ (show ∀ u ∈ us_401, pQ_401 u from qb_401_0)
def pQ_402 (u : sCu) : Prop := ∃ (SM : List sIn) (H : gHt) (cu : List sCu) (n : Nat), (∀ I ∈ SM, sInOk pPT I) ∧ (∀ v ∈ cu, v ∈ us_402) ∧ sWhU pPT SM H i_402 (mR pm_117) cu n u = true
theorem q_402_0 : pQ_402 u_402_0 := ⟨_, _, _, _, (pS_nil), (pV_cons (List.mem_of_getElem? (i := 1) rfl) (pV_cons (List.mem_of_getElem? (i := 2) rfl) (pV_nil))), f_402_0⟩
theorem q_402_1 : pQ_402 u_402_1 := ⟨_, _, _, _, (pS_nil), (pV_cons (List.mem_of_getElem? (i := 2) rfl) (pV_nil)), f_402_1⟩
theorem q_402_2 : pQ_402 u_402_2 := ⟨_, _, _, _, (pS_nil), (pV_cons (List.mem_of_getElem? (i := 3) rfl) (pV_nil)), f_402_2⟩
theorem q_402_3 : pQ_402 u_402_3 := ⟨_, _, _, _, (pS_nil), (pV_cons (List.mem_of_getElem? (i := 4) rfl) (pV_nil)), f_402_3⟩
theorem q_402_4 : pQ_402 u_402_4 := ⟨_, _, _, _, (pS_nil), (pV_cons (List.mem_of_getElem? (i := 5) rfl) (pV_nil)), f_402_4⟩
theorem q_402_5 : pQ_402 u_402_5 := ⟨_, _, _, _, (pS_cons ok_401 (pS_nil)), (pV_nil), f_402_5⟩
theorem qb_402_0 : ∀ u ∈ [u_402_0, u_402_1, u_402_2, u_402_3, u_402_4, u_402_5], pQ_402 u := pU_cons q_402_0 (pU_cons q_402_1 (pU_cons q_402_2 (pU_cons q_402_3 (pU_cons q_402_4 (pU_cons q_402_5 (pU_nil))))))
theorem ok_402 : sInOk pPT i_402 := sInst3 (M := pm_117) (cus := us_402) pOk pg_117 (by decide +kernel) ⟨_, _, _, _, (pS_nil), (pV_cons (List.mem_of_getElem? (i := 0) rfl) (pV_nil)), e_402⟩ (show ∀ u ∈ us_402, pQ_402 u from qb_402_0)
def pQ_403 (u : sCu) : Prop := ∃ (SM : List sIn) (H : gHt) (cu : List sCu) (n : Nat), (∀ I ∈ SM, sInOk pPT I) ∧ (∀ v ∈ cu, v ∈ us_403) ∧ sWhU pPT SM H i_403 (mR pm_55) cu n u = true
theorem q_403_0 : pQ_403 u_403_0 := ⟨_, _, _, _, (pS_nil), (pV_nil), f_403_0⟩
theorem qb_403_0 : ∀ u ∈ [u_403_0], pQ_403 u := pU_cons q_403_0 (pU_nil)
theorem ok_403 : sInOk pPT i_403 := sInst3 (M := pm_55) (cus := us_403) pOk pg_55 (by decide +kernel) ⟨_, _, _, _, (pS_cons ok_402 (pS_nil)), (pV_cons (List.mem_of_getElem? (i := 0) rfl) (pV_nil)), e_403⟩ (show ∀ u ∈ us_403, pQ_403 u from qb_403_0)
def pQ_404 (u : sCu) : Prop := ∃ (SM : List sIn) (H : gHt) (cu : List sCu) (n : Nat), (∀ I ∈ SM, sInOk pPT I) ∧ (∀ v ∈ cu, v ∈ us_404) ∧ sWhU pPT SM H i_404 (mR pm_116) cu n u = true
theorem q_404_0 : pQ_404 u_404_0 := ⟨_, _, _, _, (pS_nil), (pV_cons (List.mem_of_getElem? (i := 1) rfl) (pV_cons (List.mem_of_getElem? (i := 0) rfl) (pV_nil))), f_404_0⟩
theorem q_404_1 : pQ_404 u_404_1 := ⟨_, _, _, _, (pS_nil), (pV_cons (List.mem_of_getElem? (i := 2) rfl) (pV_nil)), f_404_1⟩
theorem q_404_2 : pQ_404 u_404_2 := ⟨_, _, _, _, (pS_nil), (pV_cons (List.mem_of_getElem? (i := 5) rfl) (pV_cons (List.mem_of_getElem? (i := 3) rfl) (pV_cons (List.mem_of_getElem? (i := 4) rfl) (pV_nil)))), f_404_2⟩
theorem q_404_3 : pQ_404 u_404_3 := ⟨_, _, _, _, (pS_nil), (pV_cons (List.mem_of_getElem? (i := 2) rfl) (pV_nil)), f_404_3⟩
theorem q_404_4 : pQ_404 u_404_4 := ⟨_, _, _, _, (pS_nil), (pV_cons (List.mem_of_getElem? (i := 3) rfl) (pV_nil)), f_404_4⟩
theorem q_404_5 : pQ_404 u_404_5 := ⟨_, _, _, _, (pS_cons ok_403 (pS_nil)), (pV_cons (List.mem_of_getElem? (i := 6) rfl) (pV_cons (List.mem_of_getElem? (i := 7) rfl) (pV_nil))), f_404_5⟩
theorem q_404_6 : pQ_404 u_404_6 := ⟨_, _, _, _, (pS_nil), (pV_cons (List.mem_of_getElem? (i := 1) rfl) (pV_nil)), f_404_6⟩
theorem q_404_7 : pQ_404 u_404_7 := ⟨_, _, _, _, (pS_nil), (pV_cons (List.mem_of_getElem? (i := 5) rfl) (pV_nil)), f_404_7⟩
theorem qb_404_0 : ∀ u ∈ [u_404_0, u_404_1, u_404_2, u_404_3, u_404_4, u_404_5, u_404_6, u_404_7], pQ_404 u := pU_cons q_404_0 (pU_cons q_404_1 (pU_cons q_404_2 (pU_cons q_404_3 (pU_cons q_404_4 (pU_cons q_404_5 (pU_cons q_404_6 (pU_cons q_404_7 (pU_nil))))))))
theorem ok_404 : sInOk pPT i_404 := sInst3 (M := pm_116) (cus := us_404) pOk pg_116 (by decide +kernel) ⟨_, _, _, _, (pS_cons ok_400 (pS_nil)), (pV_cons (List.mem_of_getElem? (i := 0) rfl) (pV_nil)), e_404⟩ (show ∀ u ∈ us_404, pQ_404 u from qb_404_0)
def pQ_405 (u : sCu) : Prop := ∃ (SM : List sIn) (H : gHt) (cu : List sCu) (n : Nat), (∀ I ∈ SM, sInOk pPT I) ∧ (∀ v ∈ cu, v ∈ us_405) ∧ sWhU pPT SM H i_405 (mR pm_113) cu n u = true
theorem q_405_0 : pQ_405 u_405_0 := ⟨_, _, _, _, (pS_cons ok_404 (pS_nil)), (pV_cons (List.mem_of_getElem? (i := 1) rfl) (pV_nil)), f_405_0⟩
theorem q_405_1 : pQ_405 u_405_1 := ⟨_, _, _, _, (pS_nil), (pV_cons (List.mem_of_getElem? (i := 0) rfl) (pV_cons (List.mem_of_getElem? (i := 2) rfl) (pV_nil))), f_405_1⟩
theorem q_405_2 : pQ_405 u_405_2 := ⟨_, _, _, _, (pS_nil), (pV_cons (List.mem_of_getElem? (i := 3) rfl) (pV_nil)), f_405_2⟩
theorem q_405_3 : pQ_405 u_405_3 := ⟨_, _, _, _, (pS_nil), (pV_cons (List.mem_of_getElem? (i := 1) rfl) (pV_nil)), f_405_3⟩
theorem qb_405_0 : ∀ u ∈ [u_405_0, u_405_1, u_405_2, u_405_3], pQ_405 u := pU_cons q_405_0 (pU_cons q_405_1 (pU_cons q_405_2 (pU_cons q_405_3 (pU_nil))))
theorem ok_405 : sInOk pPT i_405 := sInst3 (M := pm_113) (cus := us_405) pOk pg_113 (by decide +kernel) ⟨_, _, _, _, (pS_nil), (pV_cons (List.mem_of_getElem? (i := 0) rfl) (pV_nil)), e_405⟩ (show ∀ u ∈ us_405, pQ_405 u from qb_405_0)
def pQ_406 (u : sCu) : Prop := ∃ (SM : List sIn) (H : gHt) (cu : List sCu) (n : Nat), (∀ I ∈ SM, sInOk pPT I) ∧ (∀ v ∈ cu, v ∈ us_406) ∧ sWhU pPT SM H i_406 (mR pm_60) cu n u = true
theorem q_406_0 : pQ_406 u_406_0 := ⟨_, _, _, _, (pS_nil), (pV_cons (List.mem_of_getElem? (i := 1) rfl) (pV_nil)), f_406_0⟩
theorem q_406_1 : pQ_406 u_406_1 := ⟨_, _, _, _, (pS_nil), (pV_cons (List.mem_of_getElem? (i := 0) rfl) (pV_nil)), f_406_1⟩
theorem qb_406_0 : ∀ u ∈ [u_406_0, u_406_1], pQ_406 u := pU_cons q_406_0 (pU_cons q_406_1 (pU_nil))
theorem ok_406 : sInOk pPT i_406 := sInst3 (M := pm_60) (cus := us_406) pOk pg_60 (by decide +kernel) ⟨_, _, _, _, (pS_cons ok_405 (pS_nil)), (pV_cons (List.mem_of_getElem? (i := 0) rfl) (pV_nil)), e_406⟩ (show ∀ u ∈ us_406, pQ_406 u from qb_406_0)
def pQ_407 (u : sCu) : Prop := ∃ (SM : List sIn) (H : gHt) (cu : List sCu) (n : Nat), (∀ I ∈ SM, sInOk pPT I) ∧ (∀ v ∈ cu, v ∈ us_407) ∧ sWhU pPT SM H i_407 (mR pm_126) cu n u = true
theorem q_407_0 : pQ_407 u_407_0 := ⟨_, _, _, _, (pS_nil), (pV_nil), f_407_0⟩
theorem q_407_1 : pQ_407 u_407_1 := ⟨_, _, _, _, (pS_nil), (pV_cons (List.mem_of_getElem? (i := 2) rfl) (pV_nil)), f_407_1⟩
theorem q_407_2 : pQ_407 u_407_2 := ⟨_, _, _, _, (pS_cons ok_406 (pS_nil)), (pV_cons (List.mem_of_getElem? (i := 1) rfl) (pV_cons (List.mem_of_getElem? (i := 3) rfl) (pV_cons (List.mem_of_getElem? (i := 4) rfl) (pV_nil)))), f_407_2⟩
theorem q_407_3 : pQ_407 u_407_3 := ⟨_, _, _, _, (pS_nil), (pV_cons (List.mem_of_getElem? (i := 4) rfl) (pV_nil)), f_407_3⟩
theorem q_407_4 : pQ_407 u_407_4 := ⟨_, _, _, _, (pS_nil), (pV_cons (List.mem_of_getElem? (i := 2) rfl) (pV_nil)), f_407_4⟩
theorem qb_407_0 : ∀ u ∈ [u_407_0, u_407_1, u_407_2, u_407_3, u_407_4], pQ_407 u := pU_cons q_407_0 (pU_cons q_407_1 (pU_cons q_407_2 (pU_cons q_407_3 (pU_cons q_407_4 (pU_nil)))))
theorem ok_407 : sInOk pPT i_407 := sInst3 (M := pm_126) (cus := us_407) pOk pg_126 (by decide +kernel) ⟨_, _, _, _, (pS_cons ok_399 (pS_nil)), (pV_cons (List.mem_of_getElem? (i := 0) rfl) (pV_cons (List.mem_of_getElem? (i := 1) rfl) (pV_nil))), e_407⟩ (show ∀ u ∈ us_407, pQ_407 u from qb_407_0)
def pQ_408 (u : sCu) : Prop := ∃ (SM : List sIn) (H : gHt) (cu : List sCu) (n : Nat), (∀ I ∈ SM, sInOk pPT I) ∧ (∀ v ∈ cu, v ∈ us_408) ∧ sWhU pPT SM H i_408 (mR pm_135) cu n u = true
theorem q_408_0 : pQ_408 u_408_0 := ⟨_, _, _, _, (pS_cons ok_357 (pS_nil)), (pV_cons (List.mem_of_getElem? (i := 1) rfl) (pV_cons (List.mem_of_getElem? (i := 2) rfl) (pV_nil))), f_408_0⟩
theorem q_408_1 : pQ_408 u_408_1 := ⟨_, _, _, _, (pS_nil), (pV_cons (List.mem_of_getElem? (i := 0) rfl) (pV_nil)), f_408_1⟩
theorem q_408_2 : pQ_408 u_408_2 := ⟨_, _, _, _, (pS_nil), (pV_cons (List.mem_of_getElem? (i := 1) rfl) (pV_nil)), f_408_2⟩
theorem qb_408_0 : ∀ u ∈ [u_408_0, u_408_1, u_408_2], pQ_408 u := pU_cons q_408_0 (pU_cons q_408_1 (pU_cons q_408_2 (pU_nil)))
theorem ok_408 : sInOk pPT i_408 := sInst3 (M := pm_135) (cus := us_408) pOk pg_135 (by decide +kernel) ⟨_, _, _, _, (pS_nil), (pV_cons (List.mem_of_getElem? (i := 0) rfl) (pV_nil)), e_408⟩ (show ∀ u ∈ us_408, pQ_408 u from qb_408_0)
def pQ_409 (u : sCu) : Prop := ∃ (SM : List sIn) (H : gHt) (cu : List sCu) (n : Nat), (∀ I ∈ SM, sInOk pPT I) ∧ (∀ v ∈ cu, v ∈ us_409) ∧ sWhU pPT SM H i_409 (mR pm_228) cu n u = true
theorem q_409_0 : pQ_409 u_409_0 := ⟨_, _, _, _, (pS_nil), (pV_cons (List.mem_of_getElem? (i := 1) rfl) (pV_nil)), f_409_0⟩
theorem q_409_1 : pQ_409 u_409_1 := ⟨_, _, _, _, (pS_cons ok_356 (pS_cons ok_408 (pS_nil))), (pV_cons (List.mem_of_getElem? (i := 0) rfl) (pV_cons (List.mem_of_getElem? (i := 2) rfl) (pV_nil))), f_409_1⟩
theorem q_409_2 : pQ_409 u_409_2 := ⟨_, _, _, _, (pS_nil), (pV_cons (List.mem_of_getElem? (i := 1) rfl) (pV_nil)), f_409_2⟩
theorem qb_409_0 : ∀ u ∈ [u_409_0, u_409_1, u_409_2], pQ_409 u := pU_cons q_409_0 (pU_cons q_409_1 (pU_cons q_409_2 (pU_nil)))
theorem ok_409 : sInOk pPT i_409 := sInst3 (M := pm_228) (cus := us_409) pOk pg_228 (by decide +kernel) ⟨_, _, _, _, (pS_nil), (pV_cons (List.mem_of_getElem? (i := 0) rfl) (pV_nil)), e_409⟩ (show ∀ u ∈ us_409, pQ_409 u from qb_409_0)
def pQ_410 (u : sCu) : Prop := ∃ (SM : List sIn) (H : gHt) (cu : List sCu) (n : Nat), (∀ I ∈ SM, sInOk pPT I) ∧ (∀ v ∈ cu, v ∈ us_410) ∧ sWhU pPT SM H i_410 (mR pm_229) cu n u = true
theorem q_410_0 : pQ_410 u_410_0 := ⟨_, _, _, _, (pS_nil), (pV_cons (List.mem_of_getElem? (i := 2) rfl) (pV_nil)), f_410_0⟩
theorem q_410_1 : pQ_410 u_410_1 := ⟨_, _, _, _, (pS_nil), (pV_nil), f_410_1⟩
theorem q_410_2 : pQ_410 u_410_2 := ⟨_, _, _, _, (pS_nil), (pV_cons (List.mem_of_getElem? (i := 3) rfl) (pV_nil)), f_410_2⟩
theorem q_410_3 : pQ_410 u_410_3 := ⟨_, _, _, _, (pS_nil), (pV_cons (List.mem_of_getElem? (i := 0) rfl) (pV_nil)), f_410_3⟩
theorem qb_410_0 : ∀ u ∈ [u_410_0, u_410_1, u_410_2, u_410_3], pQ_410 u := pU_cons q_410_0 (pU_cons q_410_1 (pU_cons q_410_2 (pU_cons q_410_3 (pU_nil))))
theorem ok_410 : sInOk pPT i_410 := sInst3 (M := pm_229) (cus := us_410) pOk pg_229 (by decide +kernel) ⟨_, _, _, _, (pS_nil), (pV_cons (List.mem_of_getElem? (i := 0) rfl) (pV_cons (List.mem_of_getElem? (i := 1) rfl) (pV_nil))), e_410⟩ (show ∀ u ∈ us_410, pQ_410 u from qb_410_0)
def pQ_411 (u : sCu) : Prop := ∃ (SM : List sIn) (H : gHt) (cu : List sCu) (n : Nat), (∀ I ∈ SM, sInOk pPT I) ∧ (∀ v ∈ cu, v ∈ us_411) ∧ sWhU pPT SM H i_411 (mR pm_220) cu n u = true
theorem q_411_0 : pQ_411 u_411_0 := ⟨_, _, _, _, (pS_nil), (pV_cons (List.mem_of_getElem? (i := 1) rfl) (pV_nil)), f_411_0⟩
theorem q_411_1 : pQ_411 u_411_1 := ⟨_, _, _, _, (pS_cons ok_410 (pS_nil)), (pV_cons (List.mem_of_getElem? (i := 0) rfl) (pV_cons (List.mem_of_getElem? (i := 1) rfl) (pV_nil))), f_411_1⟩
theorem qb_411_0 : ∀ u ∈ [u_411_0, u_411_1], pQ_411 u := pU_cons q_411_0 (pU_cons q_411_1 (pU_nil))
theorem ok_411 : sInOk pPT i_411 := sInst3 (M := pm_220) (cus := us_411) pOk pg_220 (by decide +kernel) ⟨_, _, _, _, (pS_nil), (pV_cons (List.mem_of_getElem? (i := 0) rfl) (pV_nil)), e_411⟩ (show ∀ u ∈ us_411, pQ_411 u from qb_411_0)
def pQ_412 (u : sCu) : Prop := ∃ (SM : List sIn) (H : gHt) (cu : List sCu) (n : Nat), (∀ I ∈ SM, sInOk pPT I) ∧ (∀ v ∈ cu, v ∈ us_412) ∧ sWhU pPT SM H i_412 (mR pm_217) cu n u = true
theorem q_412_0 : pQ_412 u_412_0 := ⟨_, _, _, _, (pS_nil), (pV_cons (List.mem_of_getElem? (i := 1) rfl) (pV_nil)), f_412_0⟩
theorem q_412_1 : pQ_412 u_412_1 := ⟨_, _, _, _, (pS_cons ok_410 (pS_nil)), (pV_cons (List.mem_of_getElem? (i := 0) rfl) (pV_cons (List.mem_of_getElem? (i := 2) rfl) (pV_nil))), f_412_1⟩
theorem q_412_2 : pQ_412 u_412_2 := ⟨_, _, _, _, (pS_nil), (pV_cons (List.mem_of_getElem? (i := 1) rfl) (pV_nil)), f_412_2⟩
theorem qb_412_0 : ∀ u ∈ [u_412_0, u_412_1, u_412_2], pQ_412 u := pU_cons q_412_0 (pU_cons q_412_1 (pU_cons q_412_2 (pU_nil)))
theorem ok_412 : sInOk pPT i_412 := sInst3 (M := pm_217) (cus := us_412) pOk pg_217 (by decide +kernel) ⟨_, _, _, _, (pS_nil), (pV_cons (List.mem_of_getElem? (i := 0) rfl) (pV_nil)), e_412⟩ (show ∀ u ∈ us_412, pQ_412 u from qb_412_0)
def pQ_413 (u : sCu) : Prop := ∃ (SM : List sIn) (H : gHt) (cu : List sCu) (n : Nat), (∀ I ∈ SM, sInOk pPT I) ∧ (∀ v ∈ cu, v ∈ us_413) ∧ sWhU pPT SM H i_413 (mR pm_245) cu n u = true
theorem q_413_0 : pQ_413 u_413_0 := ⟨_, _, _, _, (pS_cons ok_409 (pS_cons ok_411 (pS_cons ok_412 (pS_nil)))), (pV_nil), f_413_0⟩
theorem qb_413_0 : ∀ u ∈ [u_413_0], pQ_413 u := pU_cons q_413_0 (pU_nil)
theorem ok_413 : sInOk pPT i_413 := sInst3 (M := pm_245) (cus := us_413) pOk pg_245 (by decide +kernel) ⟨_, _, _, _, (pS_nil), (pV_cons (List.mem_of_getElem? (i := 0) rfl) (pV_nil)), e_413⟩ (show ∀ u ∈ us_413, pQ_413 u from qb_413_0)
theorem ok_414 : sInOk pPT i_414 := sInst3 (M := pm_7) (cus := []) pOk pg_7 (by decide +kernel) ⟨_, _, _, _, (pS_cons ok_413 (pS_nil)), pV_nil, e_414⟩ pU_nil
def pQ_415 (u : sCu) : Prop := ∃ (SM : List sIn) (H : gHt) (cu : List sCu) (n : Nat), (∀ I ∈ SM, sInOk pPT I) ∧ (∀ v ∈ cu, v ∈ us_415) ∧ sWhU pPT SM H i_415 (mR pm_51) cu n u = true
theorem q_415_0 : pQ_415 u_415_0 := ⟨_, _, _, _, (pS_nil), (pV_cons (List.mem_of_getElem? (i := 1) rfl) (pV_nil)), f_415_0⟩
theorem q_415_1 : pQ_415 u_415_1 := ⟨_, _, _, _, (pS_cons ok_310 (pS_cons ok_312 (pS_nil))), (pV_nil), f_415_1⟩
theorem qb_415_0 : ∀ u ∈ [u_415_0, u_415_1], pQ_415 u := pU_cons q_415_0 (pU_cons q_415_1 (pU_nil))
theorem ok_415 : sInOk pPT i_415 := sInst3 (M := pm_51) (cus := us_415) pOk pg_51 (by decide +kernel) ⟨_, _, _, _, (pS_nil), (pV_cons (List.mem_of_getElem? (i := 0) rfl) (pV_nil)), e_415⟩ (show ∀ u ∈ us_415, pQ_415 u from qb_415_0)
def pQ_416 (u : sCu) : Prop := ∃ (SM : List sIn) (H : gHt) (cu : List sCu) (n : Nat), (∀ I ∈ SM, sInOk pPT I) ∧ (∀ v ∈ cu, v ∈ us_416) ∧ sWhU pPT SM H i_416 (mR pm_102) cu n u = true
theorem q_416_0 : pQ_416 u_416_0 := ⟨_, _, _, _, (pS_cons ok_415 (pS_nil)), (pV_cons (List.mem_of_getElem? (i := 1) rfl) (pV_nil)), f_416_0⟩
theorem q_416_1 : pQ_416 u_416_1 := ⟨_, _, _, _, (pS_cons ok_415 (pS_nil)), (pV_cons (List.mem_of_getElem? (i := 2) rfl) (pV_nil)), f_416_1⟩
theorem q_416_2 : pQ_416 u_416_2 := ⟨_, _, _, _, (pS_nil), (pV_cons (List.mem_of_getElem? (i := 0) rfl) (pV_nil)), f_416_2⟩
theorem qb_416_0 : ∀ u ∈ [u_416_0, u_416_1, u_416_2], pQ_416 u := pU_cons q_416_0 (pU_cons q_416_1 (pU_cons q_416_2 (pU_nil)))
theorem ok_416 : sInOk pPT i_416 := sInst3 (M := pm_102) (cus := us_416) pOk pg_102 (by decide +kernel) ⟨_, _, _, _, (pS_cons ok_415 (pS_nil)), (pV_cons (List.mem_of_getElem? (i := 0) rfl) (pV_nil)), e_416⟩ (show ∀ u ∈ us_416, pQ_416 u from qb_416_0)
def pQ_417 (u : sCu) : Prop := ∃ (SM : List sIn) (H : gHt) (cu : List sCu) (n : Nat), (∀ I ∈ SM, sInOk pPT I) ∧ (∀ v ∈ cu, v ∈ us_417) ∧ sWhU pPT SM H i_417 (mR pm_52) cu n u = true
theorem q_417_0 : pQ_417 u_417_0 := ⟨_, _, _, _, (pS_nil), (pV_nil), f_417_0⟩
theorem q_417_1 : pQ_417 u_417_1 := ⟨_, _, _, _, (pS_nil), (pV_cons (List.mem_of_getElem? (i := 2) rfl) (pV_nil)), f_417_1⟩
theorem q_417_2 : pQ_417 u_417_2 := ⟨_, _, _, _, (pS_cons ok_416 (pS_nil)), (pV_cons (List.mem_of_getElem? (i := 1) rfl) (pV_cons (List.mem_of_getElem? (i := 3) rfl) (pV_cons (List.mem_of_getElem? (i := 4) rfl) (pV_nil)))), f_417_2⟩
theorem q_417_3 : pQ_417 u_417_3 := ⟨_, _, _, _, (pS_nil), (pV_cons (List.mem_of_getElem? (i := 4) rfl) (pV_nil)), f_417_3⟩
theorem q_417_4 : pQ_417 u_417_4 := ⟨_, _, _, _, (pS_nil), (pV_cons (List.mem_of_getElem? (i := 2) rfl) (pV_nil)), f_417_4⟩
theorem qb_417_0 : ∀ u ∈ [u_417_0, u_417_1, u_417_2, u_417_3, u_417_4], pQ_417 u := pU_cons q_417_0 (pU_cons q_417_1 (pU_cons q_417_2 (pU_cons q_417_3 (pU_cons q_417_4 (pU_nil)))))
theorem ok_417 : sInOk pPT i_417 := sInst3 (M := pm_52) (cus := us_417) pOk pg_52 (by decide +kernel) ⟨_, _, _, _, (pS_nil), (pV_cons (List.mem_of_getElem? (i := 0) rfl) (pV_cons (List.mem_of_getElem? (i := 1) rfl) (pV_nil))), e_417⟩ (show ∀ u ∈ us_417, pQ_417 u from qb_417_0)
def pQ_418 (u : sCu) : Prop := ∃ (SM : List sIn) (H : gHt) (cu : List sCu) (n : Nat), (∀ I ∈ SM, sInOk pPT I) ∧ (∀ v ∈ cu, v ∈ us_418) ∧ sWhU pPT SM H i_418 (mR pm_224) cu n u = true
theorem q_418_0 : pQ_418 u_418_0 := ⟨_, _, _, _, (pS_nil), (pV_cons (List.mem_of_getElem? (i := 1) rfl) (pV_nil)), f_418_0⟩
theorem q_418_1 : pQ_418 u_418_1 := ⟨_, _, _, _, (pS_cons ok_299 (pS_cons ok_356 (pS_cons ok_358 (pS_nil)))), (pV_cons (List.mem_of_getElem? (i := 2) rfl) (pV_nil)), f_418_1⟩
theorem q_418_2 : pQ_418 u_418_2 := ⟨_, _, _, _, (pS_nil), (pV_cons (List.mem_of_getElem? (i := 3) rfl) (pV_nil)), f_418_2⟩
theorem q_418_3 : pQ_418 u_418_3 := ⟨_, _, _, _, (pS_nil), (pV_cons (List.mem_of_getElem? (i := 0) rfl) (pV_nil)), f_418_3⟩
theorem qb_418_0 : ∀ u ∈ [u_418_0, u_418_1, u_418_2, u_418_3], pQ_418 u := pU_cons q_418_0 (pU_cons q_418_1 (pU_cons q_418_2 (pU_cons q_418_3 (pU_nil))))
theorem ok_418 : sInOk pPT i_418 := sInst3 (M := pm_224) (cus := us_418) pOk pg_224 (by decide +kernel) ⟨_, _, _, _, (pS_nil), (pV_cons (List.mem_of_getElem? (i := 0) rfl) (pV_nil)), e_418⟩ (show ∀ u ∈ us_418, pQ_418 u from qb_418_0)
theorem ok_419 : sInOk pPT i_419 := sInst3 (M := pm_273) (cus := []) pOk pg_273 (by decide +kernel) ⟨_, _, _, _, (pS_cons ok_418 (pS_nil)), pV_nil, e_419⟩ pU_nil
theorem ok_420 : sInOk pPT i_420 := sInst3 (M := pm_23) (cus := []) pOk pg_23 (by decide +kernel) ⟨_, _, _, _, (pS_cons ok_419 (pS_nil)), pV_nil, e_420⟩ pU_nil
def pQ_421 (u : sCu) : Prop := ∃ (SM : List sIn) (H : gHt) (cu : List sCu) (n : Nat), (∀ I ∈ SM, sInOk pPT I) ∧ (∀ v ∈ cu, v ∈ us_421) ∧ sWhU pPT SM H i_421 (mR pm_129) cu n u = true
theorem q_421_0 : pQ_421 u_421_0 := ⟨_, _, _, _, (pS_cons ok_310 (pS_cons ok_312 (pS_nil))), (pV_cons (List.mem_of_getElem? (i := 1) rfl) (pV_nil)), f_421_0⟩
theorem q_421_1 : pQ_421 u_421_1 := ⟨_, _, _, _, (pS_cons ok_311 (pS_nil)), (pV_cons (List.mem_of_getElem? (i := 2) rfl) (pV_nil)), f_421_1⟩
theorem q_421_2 : pQ_421 u_421_2 := ⟨_, _, _, _, (pS_nil), (pV_cons (List.mem_of_getElem? (i := 0) rfl) (pV_nil)), f_421_2⟩
theorem qb_421_0 : ∀ u ∈ [u_421_0, u_421_1, u_421_2], pQ_421 u := pU_cons q_421_0 (pU_cons q_421_1 (pU_cons q_421_2 (pU_nil)))
theorem ok_421 : sInOk pPT i_421 := sInst3 (M := pm_129) (cus := us_421) pOk pg_129 (by decide +kernel) ⟨_, _, _, _, (pS_nil), (pV_cons (List.mem_of_getElem? (i := 0) rfl) (pV_nil)), e_421⟩ (show ∀ u ∈ us_421, pQ_421 u from qb_421_0)
def pQ_422 (u : sCu) : Prop := ∃ (SM : List sIn) (H : gHt) (cu : List sCu) (n : Nat), (∀ I ∈ SM, sInOk pPT I) ∧ (∀ v ∈ cu, v ∈ us_422) ∧ sWhU pPT SM H i_422 (mR pm_31) cu n u = true
theorem q_422_0 : pQ_422 u_422_0 := ⟨_, _, _, _, (pS_nil), (pV_cons (List.mem_of_getElem? (i := 0) rfl) (pV_nil)), f_422_0⟩
theorem qb_422_0 : ∀ u ∈ [u_422_0], pQ_422 u := pU_cons q_422_0 (pU_nil)
theorem ok_422 : sInOk pPT i_422 := sInst3 (M := pm_31) (cus := us_422) pOk pg_31 (by decide +kernel) ⟨_, _, _, _, (pS_nil), (pV_cons (List.mem_of_getElem? (i := 0) rfl) (pV_nil)), e_422⟩ (show ∀ u ∈ us_422, pQ_422 u from qb_422_0)
def pQ_423 (u : sCu) : Prop := ∃ (SM : List sIn) (H : gHt) (cu : List sCu) (n : Nat), (∀ I ∈ SM, sInOk pPT I) ∧ (∀ v ∈ cu, v ∈ us_423) ∧ sWhU pPT SM H i_423 (mR pm_31) cu n u = true
theorem q_423_0 : pQ_423 u_423_0 := ⟨_, _, _, _, (pS_nil), (pV_cons (List.mem_of_getElem? (i := 0) rfl) (pV_nil)), f_423_0⟩
theorem qb_423_0 : ∀ u ∈ [u_423_0], pQ_423 u := pU_cons q_423_0 (pU_nil)
theorem ok_423 : sInOk pPT i_423 := sInst3 (M := pm_31) (cus := us_423) pOk pg_31 (by decide +kernel) ⟨_, _, _, _, (pS_nil), (pV_cons (List.mem_of_getElem? (i := 0) rfl) (pV_nil)), e_423⟩ (show ∀ u ∈ us_423, pQ_423 u from qb_423_0)
def pQ_424 (u : sCu) : Prop := ∃ (SM : List sIn) (H : gHt) (cu : List sCu) (n : Nat), (∀ I ∈ SM, sInOk pPT I) ∧ (∀ v ∈ cu, v ∈ us_424) ∧ sWhU pPT SM H i_424 (mR pm_31) cu n u = true
theorem q_424_0 : pQ_424 u_424_0 := ⟨_, _, _, _, (pS_nil), (pV_cons (List.mem_of_getElem? (i := 0) rfl) (pV_nil)), f_424_0⟩
theorem qb_424_0 : ∀ u ∈ [u_424_0], pQ_424 u := pU_cons q_424_0 (pU_nil)
theorem ok_424 : sInOk pPT i_424 := sInst3 (M := pm_31) (cus := us_424) pOk pg_31 (by decide +kernel) ⟨_, _, _, _, (pS_nil), (pV_cons (List.mem_of_getElem? (i := 0) rfl) (pV_nil)), e_424⟩ (show ∀ u ∈ us_424, pQ_424 u from qb_424_0)
def pQ_425 (u : sCu) : Prop := ∃ (SM : List sIn) (H : gHt) (cu : List sCu) (n : Nat), (∀ I ∈ SM, sInOk pPT I) ∧ (∀ v ∈ cu, v ∈ us_425) ∧ sWhU pPT SM H i_425 (mR pm_31) cu n u = true
theorem q_425_0 : pQ_425 u_425_0 := ⟨_, _, _, _, (pS_nil), (pV_cons (List.mem_of_getElem? (i := 0) rfl) (pV_nil)), f_425_0⟩
theorem qb_425_0 : ∀ u ∈ [u_425_0], pQ_425 u := pU_cons q_425_0 (pU_nil)
theorem ok_425 : sInOk pPT i_425 := sInst3 (M := pm_31) (cus := us_425) pOk pg_31 (by decide +kernel) ⟨_, _, _, _, (pS_nil), (pV_cons (List.mem_of_getElem? (i := 0) rfl) (pV_nil)), e_425⟩ (show ∀ u ∈ us_425, pQ_425 u from qb_425_0)
def pQ_426 (u : sCu) : Prop := ∃ (SM : List sIn) (H : gHt) (cu : List sCu) (n : Nat), (∀ I ∈ SM, sInOk pPT I) ∧ (∀ v ∈ cu, v ∈ us_426) ∧ sWhU pPT SM H i_426 (mR pm_31) cu n u = true
theorem q_426_0 : pQ_426 u_426_0 := ⟨_, _, _, _, (pS_nil), (pV_cons (List.mem_of_getElem? (i := 0) rfl) (pV_nil)), f_426_0⟩
theorem qb_426_0 : ∀ u ∈ [u_426_0], pQ_426 u := pU_cons q_426_0 (pU_nil)
theorem ok_426 : sInOk pPT i_426 := sInst3 (M := pm_31) (cus := us_426) pOk pg_31 (by decide +kernel) ⟨_, _, _, _, (pS_nil), (pV_cons (List.mem_of_getElem? (i := 0) rfl) (pV_nil)), e_426⟩ (show ∀ u ∈ us_426, pQ_426 u from qb_426_0)
def pQ_427 (u : sCu) : Prop := ∃ (SM : List sIn) (H : gHt) (cu : List sCu) (n : Nat), (∀ I ∈ SM, sInOk pPT I) ∧ (∀ v ∈ cu, v ∈ us_427) ∧ sWhU pPT SM H i_427 (mR pm_31) cu n u = true
theorem q_427_0 : pQ_427 u_427_0 := ⟨_, _, _, _, (pS_nil), (pV_cons (List.mem_of_getElem? (i := 0) rfl) (pV_nil)), f_427_0⟩
theorem qb_427_0 : ∀ u ∈ [u_427_0], pQ_427 u := pU_cons q_427_0 (pU_nil)
theorem ok_427 : sInOk pPT i_427 := sInst3 (M := pm_31) (cus := us_427) pOk pg_31 (by decide +kernel) ⟨_, _, _, _, (pS_nil), (pV_cons (List.mem_of_getElem? (i := 0) rfl) (pV_nil)), e_427⟩ (show ∀ u ∈ us_427, pQ_427 u from qb_427_0)
def pQ_428 (u : sCu) : Prop := ∃ (SM : List sIn) (H : gHt) (cu : List sCu) (n : Nat), (∀ I ∈ SM, sInOk pPT I) ∧ (∀ v ∈ cu, v ∈ us_428) ∧ sWhU pPT SM H i_428 (mR pm_31) cu n u = true
theorem q_428_0 : pQ_428 u_428_0 := ⟨_, _, _, _, (pS_nil), (pV_cons (List.mem_of_getElem? (i := 0) rfl) (pV_nil)), f_428_0⟩
theorem qb_428_0 : ∀ u ∈ [u_428_0], pQ_428 u := pU_cons q_428_0 (pU_nil)
theorem ok_428 : sInOk pPT i_428 := sInst3 (M := pm_31) (cus := us_428) pOk pg_31 (by decide +kernel) ⟨_, _, _, _, (pS_nil), (pV_cons (List.mem_of_getElem? (i := 0) rfl) (pV_nil)), e_428⟩ (show ∀ u ∈ us_428, pQ_428 u from qb_428_0)
def pQ_429 (u : sCu) : Prop := ∃ (SM : List sIn) (H : gHt) (cu : List sCu) (n : Nat), (∀ I ∈ SM, sInOk pPT I) ∧ (∀ v ∈ cu, v ∈ us_429) ∧ sWhU pPT SM H i_429 (mR pm_31) cu n u = true
theorem q_429_0 : pQ_429 u_429_0 := ⟨_, _, _, _, (pS_nil), (pV_cons (List.mem_of_getElem? (i := 0) rfl) (pV_nil)), f_429_0⟩
theorem qb_429_0 : ∀ u ∈ [u_429_0], pQ_429 u := pU_cons q_429_0 (pU_nil)
theorem ok_429 : sInOk pPT i_429 := sInst3 (M := pm_31) (cus := us_429) pOk pg_31 (by decide +kernel) ⟨_, _, _, _, (pS_nil), (pV_cons (List.mem_of_getElem? (i := 0) rfl) (pV_nil)), e_429⟩ (show ∀ u ∈ us_429, pQ_429 u from qb_429_0)
def pQ_430 (u : sCu) : Prop := ∃ (SM : List sIn) (H : gHt) (cu : List sCu) (n : Nat), (∀ I ∈ SM, sInOk pPT I) ∧ (∀ v ∈ cu, v ∈ us_430) ∧ sWhU pPT SM H i_430 (mR pm_31) cu n u = true
theorem q_430_0 : pQ_430 u_430_0 := ⟨_, _, _, _, (pS_nil), (pV_cons (List.mem_of_getElem? (i := 0) rfl) (pV_nil)), f_430_0⟩
theorem qb_430_0 : ∀ u ∈ [u_430_0], pQ_430 u := pU_cons q_430_0 (pU_nil)
theorem ok_430 : sInOk pPT i_430 := sInst3 (M := pm_31) (cus := us_430) pOk pg_31 (by decide +kernel) ⟨_, _, _, _, (pS_nil), (pV_cons (List.mem_of_getElem? (i := 0) rfl) (pV_nil)), e_430⟩ (show ∀ u ∈ us_430, pQ_430 u from qb_430_0)
def pQ_431 (u : sCu) : Prop := ∃ (SM : List sIn) (H : gHt) (cu : List sCu) (n : Nat), (∀ I ∈ SM, sInOk pPT I) ∧ (∀ v ∈ cu, v ∈ us_431) ∧ sWhU pPT SM H i_431 (mR pm_31) cu n u = true
theorem q_431_0 : pQ_431 u_431_0 := ⟨_, _, _, _, (pS_nil), (pV_cons (List.mem_of_getElem? (i := 0) rfl) (pV_nil)), f_431_0⟩
theorem qb_431_0 : ∀ u ∈ [u_431_0], pQ_431 u := pU_cons q_431_0 (pU_nil)
theorem ok_431 : sInOk pPT i_431 := sInst3 (M := pm_31) (cus := us_431) pOk pg_31 (by decide +kernel) ⟨_, _, _, _, (pS_nil), (pV_cons (List.mem_of_getElem? (i := 0) rfl) (pV_nil)), e_431⟩ (show ∀ u ∈ us_431, pQ_431 u from qb_431_0)
def pQ_432 (u : sCu) : Prop := ∃ (SM : List sIn) (H : gHt) (cu : List sCu) (n : Nat), (∀ I ∈ SM, sInOk pPT I) ∧ (∀ v ∈ cu, v ∈ us_432) ∧ sWhU pPT SM H i_432 (mR pm_31) cu n u = true
theorem q_432_0 : pQ_432 u_432_0 := ⟨_, _, _, _, (pS_nil), (pV_cons (List.mem_of_getElem? (i := 0) rfl) (pV_nil)), f_432_0⟩
theorem qb_432_0 : ∀ u ∈ [u_432_0], pQ_432 u := pU_cons q_432_0 (pU_nil)
theorem ok_432 : sInOk pPT i_432 := sInst3 (M := pm_31) (cus := us_432) pOk pg_31 (by decide +kernel) ⟨_, _, _, _, (pS_nil), (pV_cons (List.mem_of_getElem? (i := 0) rfl) (pV_nil)), e_432⟩ (show ∀ u ∈ us_432, pQ_432 u from qb_432_0)
def pQ_433 (u : sCu) : Prop := ∃ (SM : List sIn) (H : gHt) (cu : List sCu) (n : Nat), (∀ I ∈ SM, sInOk pPT I) ∧ (∀ v ∈ cu, v ∈ us_433) ∧ sWhU pPT SM H i_433 (mR pm_31) cu n u = true
theorem q_433_0 : pQ_433 u_433_0 := ⟨_, _, _, _, (pS_nil), (pV_cons (List.mem_of_getElem? (i := 0) rfl) (pV_nil)), f_433_0⟩
theorem qb_433_0 : ∀ u ∈ [u_433_0], pQ_433 u := pU_cons q_433_0 (pU_nil)
theorem ok_433 : sInOk pPT i_433 := sInst3 (M := pm_31) (cus := us_433) pOk pg_31 (by decide +kernel) ⟨_, _, _, _, (pS_nil), (pV_cons (List.mem_of_getElem? (i := 0) rfl) (pV_nil)), e_433⟩ (show ∀ u ∈ us_433, pQ_433 u from qb_433_0)
