noncomputable section
/-! ===== the law's calls, one by one; and the whole ===== -/
theorem lk_0 : ∃ (SM : List sIn) (Hh : gHt) (n : Nat), (∀ I ∈ SM, sInOk pPT I) ∧ sCas pPT SM Hh n 500 lU lF (lwPc.getD 0 0) = true := ⟨_, _, _, fun _ h => absurd h List.not_mem_nil, cs_0⟩
theorem lk_32 : ∃ (SM : List sIn) (Hh : gHt) (n : Nat), (∀ I ∈ SM, sInOk pPT I) ∧ sCas pPT SM Hh n 500 lU lG (lwPc.getD 0 0) = true := ⟨_, _, _, fun _ h => absurd h List.not_mem_nil, cs_32⟩
theorem lk_1 : ∃ (SM : List sIn) (Hh : gHt) (n : Nat), (∀ I ∈ SM, sInOk pPT I) ∧ sCas pPT SM Hh n 500 lU lC (lwPc.getD 1 0) = true := ⟨_, _, _, List.forall_mem_cons.mpr ⟨ok_295, List.forall_mem_cons.mpr ⟨ok_296, List.forall_mem_cons.mpr ⟨ok_294, List.forall_mem_cons.mpr ⟨ok_293, List.forall_mem_cons.mpr ⟨ok_112, fun _ h => absurd h List.not_mem_nil⟩⟩⟩⟩⟩, cs_1⟩
theorem lk_2 : ∃ (SM : List sIn) (Hh : gHt) (n : Nat), (∀ I ∈ SM, sInOk pPT I) ∧ sCas pPT SM Hh n 500 lU lC (lwPc.getD 2 0) = true := ⟨_, _, _, fun _ h => absurd h List.not_mem_nil, cs_2⟩
theorem lk_3 : ∃ (SM : List sIn) (Hh : gHt) (n : Nat), (∀ I ∈ SM, sInOk pPT I) ∧ sCas pPT SM Hh n 500 lU lC (lwPc.getD 3 0) = true := ⟨_, _, _, List.forall_mem_cons.mpr ⟨ok_304, List.forall_mem_cons.mpr ⟨ok_314, fun _ h => absurd h List.not_mem_nil⟩⟩, cs_3⟩
theorem lk_4 : ∃ (SM : List sIn) (Hh : gHt) (n : Nat), (∀ I ∈ SM, sInOk pPT I) ∧ sCas pPT SM Hh n 500 lU lC (lwPc.getD 4 0) = true := ⟨_, _, _, List.forall_mem_cons.mpr ⟨ok_317, List.forall_mem_cons.mpr ⟨ok_319, fun _ h => absurd h List.not_mem_nil⟩⟩, cs_4⟩
theorem lk_5 : ∃ (SM : List sIn) (Hh : gHt) (n : Nat), (∀ I ∈ SM, sInOk pPT I) ∧ sCas pPT SM Hh n 500 lU lC (lwPc.getD 5 0) = true := ⟨_, _, _, List.forall_mem_cons.mpr ⟨ok_322, List.forall_mem_cons.mpr ⟨ok_324, fun _ h => absurd h List.not_mem_nil⟩⟩, cs_5⟩
theorem lk_6 : ∃ (SM : List sIn) (Hh : gHt) (n : Nat), (∀ I ∈ SM, sInOk pPT I) ∧ sCas pPT SM Hh n 500 lU lC (lwPc.getD 6 0) = true := ⟨_, _, _, List.forall_mem_cons.mpr ⟨ok_327, List.forall_mem_cons.mpr ⟨ok_328, fun _ h => absurd h List.not_mem_nil⟩⟩, cs_6⟩
theorem lk_7 : ∃ (SM : List sIn) (Hh : gHt) (n : Nat), (∀ I ∈ SM, sInOk pPT I) ∧ sCas pPT SM Hh n 500 lU lC (lwPc.getD 7 0) = true := ⟨_, _, _, List.forall_mem_cons.mpr ⟨ok_331, List.forall_mem_cons.mpr ⟨ok_333, fun _ h => absurd h List.not_mem_nil⟩⟩, cs_7⟩
theorem lk_8 : ∃ (SM : List sIn) (Hh : gHt) (n : Nat), (∀ I ∈ SM, sInOk pPT I) ∧ sCas pPT SM Hh n 500 lU lC (lwPc.getD 8 0) = true := ⟨_, _, _, List.forall_mem_cons.mpr ⟨ok_336, List.forall_mem_cons.mpr ⟨ok_337, fun _ h => absurd h List.not_mem_nil⟩⟩, cs_8⟩
theorem lk_9 : ∃ (SM : List sIn) (Hh : gHt) (n : Nat), (∀ I ∈ SM, sInOk pPT I) ∧ sCas pPT SM Hh n 500 lU lC (lwPc.getD 9 0) = true := ⟨_, _, _, List.forall_mem_cons.mpr ⟨ok_339, List.forall_mem_cons.mpr ⟨ok_340, fun _ h => absurd h List.not_mem_nil⟩⟩, cs_9⟩
theorem lk_10 : ∃ (SM : List sIn) (Hh : gHt) (n : Nat), (∀ I ∈ SM, sInOk pPT I) ∧ sCas pPT SM Hh n 500 lU lC (lwPc.getD 10 0) = true := ⟨_, _, _, List.forall_mem_cons.mpr ⟨ok_110, List.forall_mem_cons.mpr ⟨ok_341, List.forall_mem_cons.mpr ⟨ok_342, List.forall_mem_cons.mpr ⟨ok_434, fun _ h => absurd h List.not_mem_nil⟩⟩⟩⟩, cs_10⟩
theorem lk_11 : ∃ (SM : List sIn) (Hh : gHt) (n : Nat), (∀ I ∈ SM, sInOk pPT I) ∧ sCas pPT SM Hh n 500 lU lC (lwPc.getD 11 0) = true := ⟨_, _, _, List.forall_mem_cons.mpr ⟨ok_110, List.forall_mem_cons.mpr ⟨ok_341, List.forall_mem_cons.mpr ⟨ok_342, List.forall_mem_cons.mpr ⟨ok_434, fun _ h => absurd h List.not_mem_nil⟩⟩⟩⟩, cs_11⟩
theorem lk_12 : ∃ (SM : List sIn) (Hh : gHt) (n : Nat), (∀ I ∈ SM, sInOk pPT I) ∧ sCas pPT SM Hh n 500 lU lC (lwPc.getD 12 0) = true := ⟨_, _, _, List.forall_mem_cons.mpr ⟨ok_110, List.forall_mem_cons.mpr ⟨ok_341, List.forall_mem_cons.mpr ⟨ok_342, List.forall_mem_cons.mpr ⟨ok_434, fun _ h => absurd h List.not_mem_nil⟩⟩⟩⟩, cs_12⟩
theorem lk_13 : ∃ (SM : List sIn) (Hh : gHt) (n : Nat), (∀ I ∈ SM, sInOk pPT I) ∧ sCas pPT SM Hh n 500 lU lC (lwPc.getD 13 0) = true := ⟨_, _, _, List.forall_mem_cons.mpr ⟨ok_110, List.forall_mem_cons.mpr ⟨ok_341, List.forall_mem_cons.mpr ⟨ok_342, List.forall_mem_cons.mpr ⟨ok_434, fun _ h => absurd h List.not_mem_nil⟩⟩⟩⟩, cs_13⟩
theorem lk_14 : ∃ (SM : List sIn) (Hh : gHt) (n : Nat), (∀ I ∈ SM, sInOk pPT I) ∧ sCas pPT SM Hh n 500 lU lC (lwPc.getD 14 0) = true := ⟨_, _, _, List.forall_mem_cons.mpr ⟨ok_110, List.forall_mem_cons.mpr ⟨ok_341, List.forall_mem_cons.mpr ⟨ok_342, List.forall_mem_cons.mpr ⟨ok_434, fun _ h => absurd h List.not_mem_nil⟩⟩⟩⟩, cs_14⟩
theorem lk_15 : ∃ (SM : List sIn) (Hh : gHt) (n : Nat), (∀ I ∈ SM, sInOk pPT I) ∧ sCas pPT SM Hh n 500 lU lC (lwPc.getD 15 0) = true := ⟨_, _, _, List.forall_mem_cons.mpr ⟨ok_110, fun _ h => absurd h List.not_mem_nil⟩, cs_15⟩
theorem lk_16 : ∃ (SM : List sIn) (Hh : gHt) (n : Nat), (∀ I ∈ SM, sInOk pPT I) ∧ sCas pPT SM Hh n 500 lU lC (lwPc.getD 16 0) = true := ⟨_, _, _, List.forall_mem_cons.mpr ⟨ok_353, List.forall_mem_cons.mpr ⟨ok_355, fun _ h => absurd h List.not_mem_nil⟩⟩, cs_16⟩
theorem lk_17 : ∃ (SM : List sIn) (Hh : gHt) (n : Nat), (∀ I ∈ SM, sInOk pPT I) ∧ sCas pPT SM Hh n 500 lU lC (lwPc.getD 17 0) = true := ⟨_, _, _, List.forall_mem_cons.mpr ⟨ok_362, List.forall_mem_cons.mpr ⟨ok_364, fun _ h => absurd h List.not_mem_nil⟩⟩, cs_17⟩
theorem lk_18 : ∃ (SM : List sIn) (Hh : gHt) (n : Nat), (∀ I ∈ SM, sInOk pPT I) ∧ sCas pPT SM Hh n 500 lU lC (lwPc.getD 18 0) = true := ⟨_, _, _, List.forall_mem_cons.mpr ⟨ok_365, List.forall_mem_cons.mpr ⟨ok_366, fun _ h => absurd h List.not_mem_nil⟩⟩, cs_18⟩
theorem lk_19 : ∃ (SM : List sIn) (Hh : gHt) (n : Nat), (∀ I ∈ SM, sInOk pPT I) ∧ sCas pPT SM Hh n 500 lU lC (lwPc.getD 19 0) = true := ⟨_, _, _, List.forall_mem_cons.mpr ⟨ok_368, List.forall_mem_cons.mpr ⟨ok_369, fun _ h => absurd h List.not_mem_nil⟩⟩, cs_19⟩
theorem lk_20 : ∃ (SM : List sIn) (Hh : gHt) (n : Nat), (∀ I ∈ SM, sInOk pPT I) ∧ sCas pPT SM Hh n 500 lU lC (lwPc.getD 20 0) = true := ⟨_, _, _, List.forall_mem_cons.mpr ⟨ok_374, List.forall_mem_cons.mpr ⟨ok_375, fun _ h => absurd h List.not_mem_nil⟩⟩, cs_20⟩
theorem lk_21 : ∃ (SM : List sIn) (Hh : gHt) (n : Nat), (∀ I ∈ SM, sInOk pPT I) ∧ sCas pPT SM Hh n 500 lU lC (lwPc.getD 21 0) = true := ⟨_, _, _, List.forall_mem_cons.mpr ⟨ok_378, List.forall_mem_cons.mpr ⟨ok_379, fun _ h => absurd h List.not_mem_nil⟩⟩, cs_21⟩
theorem lk_22 : ∃ (SM : List sIn) (Hh : gHt) (n : Nat), (∀ I ∈ SM, sInOk pPT I) ∧ sCas pPT SM Hh n 500 lU lC (lwPc.getD 22 0) = true := ⟨_, _, _, List.forall_mem_cons.mpr ⟨ok_382, List.forall_mem_cons.mpr ⟨ok_384, fun _ h => absurd h List.not_mem_nil⟩⟩, cs_22⟩
theorem lk_23 : ∃ (SM : List sIn) (Hh : gHt) (n : Nat), (∀ I ∈ SM, sInOk pPT I) ∧ sCas pPT SM Hh n 500 lU lC (lwPc.getD 23 0) = true := ⟨_, _, _, List.forall_mem_cons.mpr ⟨ok_386, List.forall_mem_cons.mpr ⟨ok_387, fun _ h => absurd h List.not_mem_nil⟩⟩, cs_23⟩
theorem lk_24 : ∃ (SM : List sIn) (Hh : gHt) (n : Nat), (∀ I ∈ SM, sInOk pPT I) ∧ sCas pPT SM Hh n 500 lU lC (lwPc.getD 24 0) = true := ⟨_, _, _, List.forall_mem_cons.mpr ⟨ok_388, List.forall_mem_cons.mpr ⟨ok_389, fun _ h => absurd h List.not_mem_nil⟩⟩, cs_24⟩
theorem lk_25 : ∃ (SM : List sIn) (Hh : gHt) (n : Nat), (∀ I ∈ SM, sInOk pPT I) ∧ sCas pPT SM Hh n 500 lU lC (lwPc.getD 25 0) = true := ⟨_, _, _, List.forall_mem_cons.mpr ⟨ok_390, fun _ h => absurd h List.not_mem_nil⟩, cs_25⟩
theorem lk_26 : ∃ (SM : List sIn) (Hh : gHt) (n : Nat), (∀ I ∈ SM, sInOk pPT I) ∧ sCas pPT SM Hh n 500 lU lC (lwPc.getD 26 0) = true := ⟨_, _, _, List.forall_mem_cons.mpr ⟨ok_398, List.forall_mem_cons.mpr ⟨ok_407, fun _ h => absurd h List.not_mem_nil⟩⟩, cs_26⟩
theorem lk_27 : ∃ (SM : List sIn) (Hh : gHt) (n : Nat), (∀ I ∈ SM, sInOk pPT I) ∧ sCas pPT SM Hh n 500 lU lC (lwPc.getD 27 0) = true := ⟨_, _, _, fun _ h => absurd h List.not_mem_nil, cs_27⟩
theorem lk_28 : ∃ (SM : List sIn) (Hh : gHt) (n : Nat), (∀ I ∈ SM, sInOk pPT I) ∧ sCas pPT SM Hh n 500 lU lC (lwPc.getD 28 0) = true := ⟨_, _, _, List.forall_mem_cons.mpr ⟨ok_414, List.forall_mem_cons.mpr ⟨ok_417, fun _ h => absurd h List.not_mem_nil⟩⟩, cs_28⟩
theorem lk_29 : ∃ (SM : List sIn) (Hh : gHt) (n : Nat), (∀ I ∈ SM, sInOk pPT I) ∧ sCas pPT SM Hh n 500 lU lC (lwPc.getD 29 0) = true := ⟨_, _, _, List.forall_mem_cons.mpr ⟨ok_420, List.forall_mem_cons.mpr ⟨ok_421, fun _ h => absurd h List.not_mem_nil⟩⟩, cs_29⟩
theorem lk_30 : ∃ (SM : List sIn) (Hh : gHt) (n : Nat), (∀ I ∈ SM, sInOk pPT I) ∧ sCas pPT SM Hh n 500 lU lC (lwPc.getD 30 0) = true := ⟨_, _, _, List.forall_mem_cons.mpr ⟨ok_422, List.forall_mem_cons.mpr ⟨ok_423, List.forall_mem_cons.mpr ⟨ok_424, List.forall_mem_cons.mpr ⟨ok_425, List.forall_mem_cons.mpr ⟨ok_426, List.forall_mem_cons.mpr ⟨ok_427, fun _ h => absurd h List.not_mem_nil⟩⟩⟩⟩⟩⟩, cs_30⟩
theorem lk_31 : ∃ (SM : List sIn) (Hh : gHt) (n : Nat), (∀ I ∈ SM, sInOk pPT I) ∧ sCas pPT SM Hh n 500 lU lC (lwPc.getD 31 0) = true := ⟨_, _, _, List.forall_mem_cons.mpr ⟨ok_110, List.forall_mem_cons.mpr ⟨ok_428, List.forall_mem_cons.mpr ⟨ok_429, List.forall_mem_cons.mpr ⟨ok_430, List.forall_mem_cons.mpr ⟨ok_431, List.forall_mem_cons.mpr ⟨ok_432, List.forall_mem_cons.mpr ⟨ok_433, fun _ h => absurd h List.not_mem_nil⟩⟩⟩⟩⟩⟩⟩, cs_31⟩
theorem lk : ∀ k, k < 32 → k ≠ 0 → ∃ (SM : List sIn) (Hh : gHt) (n : Nat), (∀ I ∈ SM, sInOk pPT I) ∧ sCas pPT SM Hh n 500 lU lC (lwPc.getD k 0) = true := by
  intro k hk h0
  match k, hk, h0 with
  | 0, _, h0 => exact absurd rfl h0
  | 1, _, _ => exact lk_1
  | 2, _, _ => exact lk_2
  | 3, _, _ => exact lk_3
  | 4, _, _ => exact lk_4
  | 5, _, _ => exact lk_5
  | 6, _, _ => exact lk_6
  | 7, _, _ => exact lk_7
  | 8, _, _ => exact lk_8
  | 9, _, _ => exact lk_9
  | 10, _, _ => exact lk_10
  | 11, _, _ => exact lk_11
  | 12, _, _ => exact lk_12
  | 13, _, _ => exact lk_13
  | 14, _, _ => exact lk_14
  | 15, _, _ => exact lk_15
  | 16, _, _ => exact lk_16
  | 17, _, _ => exact lk_17
  | 18, _, _ => exact lk_18
  | 19, _, _ => exact lk_19
  | 20, _, _ => exact lk_20
  | 21, _, _ => exact lk_21
  | 22, _, _ => exact lk_22
  | 23, _, _ => exact lk_23
  | 24, _, _ => exact lk_24
  | 25, _, _ => exact lk_25
  | 26, _, _ => exact lk_26
  | 27, _, _ => exact lk_27
  | 28, _, _ => exact lk_28
  | 29, _, _ => exact lk_29
  | 30, _, _ => exact lk_30
  | 31, _, _ => exact lk_31
  | k + 32, hk, _ => omega
/-- from the entry, for every script of at most 3072 ints, the law comes to its end with true -/
theorem whole_start {p : Program} {e : Env} {s : State} {m : MethodId} {below : List Frame} {meth : Method} {c : Code} (l : Launch) {b L : Nat} {xs : Nat → Int32} (hst : l.stackTraces = false) (hnm : meth.name = "law") (htab : c.exceptionTable.toList = tableOf []) (hL : L ≤ 3072) (C0 : lw_At p s m meth c b L xs) : W p l e room_1 s m #[Value.ref b] below meth c s.heap [] 0 0 (lw_Z below #[Value.ref b] s) (entryFrame m ([Value.ref b] : List Value).toArray 7) := by
  obtain ⟨hexec, hcode, hret, hml, hown, hts, hX, hbl, hlk, hgv⟩ := C0
  obtain ⟨ex, g, hb0, hC⟩ := we_ctx hts hX hbl hgv
  have hF : sFix p l room_1 s m #[Value.ref b] meth c pm_0 500 ex g s.heap.size L xs := ⟨hexec, hcode, hml, hown, fun w hw => hts w (List.mem_filter.mp hw).1, hnm, hlk, htab, by decide, by decide, hst, hC, hret⟩
  rw [lg_entry_eq]
  have hl := lv_entry [Value.ref b] (n := 7) (Nat.le_of_ble_eq_true rfl)
  have hF' := gFix_to (sc' := fun i => if i < L then xs i else 0) hF (fun j hj => if_pos hj)
  refine sSta_ok pOk st_run rfl hF' (by decide) (by decide) hl ⟨⟨rfl, by rw [← hb0]; rfl⟩, trivial⟩ (fun j _ => gZ_T) (fun ρ' ws' H' locs' ls' lc' k1 k2 k3 k4 k5 => ?_)
  exact lw_loop pOk rfl rfl rfl hb0 hL hret lk lk_0 lk_32 3073 124 7216 _ hF' ρ' ws' H' locs' ls' lc' k1 k2 k3 k4 k5 (lw_mu k1) (by decide) (by decide)
end
