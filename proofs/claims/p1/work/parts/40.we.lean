def R_law : String := "WavingDesksLaw"
def lw_P (b : Addr) (xs : List Int32) (args : Array Value) (s : State) : Prop := args = #[.ref b] ∧ s.IntsAt b xs ∧ xs.length ≤ 6 ∧ (Jvm.Cond.and given_1 narrow_1).before args s = true
def lw_Q (_ : Array Value) (s : State) (o : Outcome) (t : State) : Prop := o = .returned (some (.int 1)) ∧ Framed s o t [] 600002 7302232
def lw_Z (below : List Frame) (a : Array Value) (s : State) : State → Prop := fun t => ∃ o, t.status = .running ∧ Ended t below o ∧ lw_Q a s o t
/-- the law's own end, with 1 on the stack, nothing written that was there before, its room as the claim has it -/
theorem lw_ret {p : Program} {l : Launch} {e : Env} {s : State} {m : MethodId} {below : List Frame} {meth : Method} {c : Code} {b : Nat} (hx : p.tables.exec = Jvm.exec) (hb : c.code = code) (hr : meth.sig.returnType = ret) (hlocks : meth.locks = false) {pc : Nat} {H : Heap} {ls : Array Slot} (hdg : decode code pc = .ok (.ireturn, 1)) : W p l e room_1 s m #[Value.ref b] below meth c H [] 600002 7302232 (lw_Z below #[Value.ref b] s) (F0 m pc ls [.int 1]) := by
  intro T hT X
  obtain ⟨fs, hret, hrun, hended, hW, hframe⟩ := X.leave (v := some (.int 1)) (hlocks := hlocks) (fun h => by rw [hr] at h; cases h)
  have hmeth' : T.vm.method? m = some meth := X.method'
  refine ⟨T.setFrames fs, ?_, .returned (some (.int 1)), hrun, hended, rfl, ⟨_, rfl⟩, hW, hframe⟩
  jvm_step X.here [X.here.top, hx, hb, hdg, hmeth', hr, ret, narrow_b1]
  (try refine ⟨rfl, ?_⟩); (try refine ⟨rfl, ?_⟩)
  first | (intro acts; rw [hret _ acts rfl rfl rfl]) | rw [hret _ _ rfl rfl rfl]
  exact Steps.refl _
/-- what holds at the law's entry: the machine, the code, the tables' words (any of lw_tbl by 'hts w (by decide +kernel)'), the script of L ints xs at the cell b, what the Statement gives of the start (any of its parts by flat_of_before) -/
def lw_At (p : Program) (s : State) (m : MethodId) (meth : Method) (c : Code) (b L : Nat) (xs : Nat → Int32) : Prop :=
  p.tables.exec = Jvm.exec ∧ c.code = code ∧ meth.sig.returnType = ret ∧ c.maxLocals = 7 ∧ s.vm.findClass R_law = some m.cls ∧ (∀ w ∈ lw_tbl, w.before #[Value.ref b] s = true) ∧ va_X b L xs s s.heap ∧ b < s.heap.size ∧ meth.locks = false ∧ (Jvm.Cond.and given_1 narrow_1).before #[Value.ref b] s = true
/-! ===== what stands at the law's entry ===== -/
theorem wAllAt {ws : List Cond} : ∀ {ps : List Nat}, ws.length ≤ ps.length → (ws.zip ps).all (fun q => decide (lw_tbl[q.2]? = some q.1)) = true → ∀ w ∈ ws, w ∈ lw_tbl := by
  induction ws with
  | nil => intro ps _ _ w h; cases h
  | cons a t ih =>
    intro ps hl h w hw
    cases ps with
    | nil => simp at hl
    | cons p q =>
      simp only [List.zip_cons_cons, List.all_cons, Bool.and_eq_true, decide_eq_true_eq] at h
      rcases List.mem_cons.mp hw with rfl | hw
      · exact List.mem_of_getElem? h.1
      · exact ih (by simpa using hl) h.2 w hw
set_option maxRecDepth 100000 in
theorem we_sr : ∀ w ∈ sStr.map (fun q => Cond.stringRef q.1 q.2.1 q.2.2), w ∈ lw_tbl := wAllAt (ps := [732, 786, 876, 877, 878, 879, 880, 934, 947, 952, 961, 975, 1003, 1004, 1005, 1006, 1007, 1008, 1009, 1010, 1011, 1012, 1062, 1080, 1094, 1111, 1141, 1153, 1245, 1360, 1384, 1385, 1386, 1387, 1388, 1389, 1390, 1391, 1392, 1393, 1394, 1395, 1396, 1633, 1654, 1683, 1684, 1693, 1706, 1711]) (by decide +kernel) (by decide +kernel)
set_option maxRecDepth 100000 in
theorem we_nest : ∀ w ∈ sNest.map (fun q => Cond.methodLinkNest q.1 q.2.1 q.2.2.1 q.2.2.2), w ∈ lw_tbl := wAllAt (ps := [136, 142, 264, 297, 303, 357, 377, 445, 594, 673, 678, 679, 1021]) (by decide +kernel) (by decide +kernel)
set_option maxRecDepth 100000 in
theorem we_ex : ∀ w ∈ sStr.map (fun q => Cond.exactly (.string q.1 q.2.1) "java/lang/String"), w ∈ flatC (Jvm.Cond.and given_1 narrow_1) := by
  have h : (sStr.map (fun q => Cond.exactly (.string q.1 q.2.1) "java/lang/String")).all (fun w => decide (w ∈ flatC (Jvm.Cond.and given_1 narrow_1))) = true := by decide +kernel
  intro w hw
  exact of_decide_eq_true (List.all_eq_true.mp h w hw)
theorem we_ctx {s : State} {b L : Nat} {xs : Nat → Int32} (hL : L ≤ 6) (hts : ∀ w ∈ lw_tbl, w.before #[Value.ref b] s = true) (hX : va_X b L xs s s.heap) (hbl : b < s.heap.size) (hgv : (Jvm.Cond.and given_1 narrow_1).before #[Value.ref b] s = true) : ∃ (ex : Nat → Nat) (g : sG), ex 0 = b ∧ sCtx (weR xs L) ex g s.heap.size s := by
  have hB : ∀ w ∈ sB, w.before #[Value.ref b] s = true := fun w hw => hts w (List.mem_filter.mp hw).1
  have hfl := flat_of_before _ hgv
  have hk : ∀ ci : Nat, ∃ D : ClassId × (Nat → Nat), ∀ q, vwCl[ci]? = some q → u_Kn s q.1 q.2.1 q.2.2 D.1 D.2 := by
    intro ci
    cases hq : vwCl[ci]? with
    | none => exact ⟨(0, fun _ => 0), fun q h => by cases h⟩
    | some q =>
      obtain ⟨ty, h1, h2, h3, h4, h5, h6⟩ := sCls ci q hq
      obtain ⟨cC, iS, h⟩ := u_known (ws := sB) hB h3 (hB _ h5)
      exact ⟨(cC, iS), fun q' e => by cases e; exact h⟩
  obtain ⟨D, hD⟩ := Classical.axiomOfChoice hk
  obtain ⟨cI, kI, pI, i1, i2, i3⟩ := Cond.arrayClass_spec (hB _ sArr_int)
  obtain ⟨cB, kB, pB, b1, b2, b3⟩ := Cond.arrayClass_spec (hB _ sArr_byte)
  obtain ⟨cJ, kJ, pJ, j1, j2, j3⟩ := Cond.arrayClass_spec (hB _ sArr_long)
  have hao : (Cond.arrayOver (.object "java/lang/String")).before #[Value.ref b] s = true := hts _ (List.mem_of_getElem? (i := 1383) (by decide +kernel))
  obtain ⟨pS, cS, kS, s1, s2, s3, s4, s5⟩ := Cond.arrayOver_spec hao
  have hst : ∀ j : Nat, ∃ a : Nat, ∀ q : String × Nat × String, sStr[j]? = some q → vk_R q.1 q.2.1 q.2.2 a s ∧ va_Any "java/lang/String" s s.heap a ∧ a < s.heap.size := by
    intro j
    cases hq : sStr[j]? with
    | none => exact ⟨0, fun q h => by cases h⟩
    | some q =>
      have hm := List.mem_of_getElem? hq
      have hr : (Cond.stringRef q.1 q.2.1 q.2.2).before #[Value.ref b] s = true := hts _ (we_sr _ (List.mem_map.mpr ⟨q, hm, rfl⟩))
      have he : (Cond.exactly (.string q.1 q.2.1) "java/lang/String").before #[Value.ref b] s = true := hfl _ (we_ex _ (List.mem_map.mpr ⟨q, hm, rfl⟩))
      obtain ⟨a, c, cell, k, q1, q2, q3, q4, q5, q6, -⟩ := Cond.exactly_spec (args := #[Value.ref b]) (first := s) (o := none) (s := s) (idx := []) (t := .string q.1 q.2.1) (cls := "java/lang/String") he
      refine ⟨a, fun q' e => ?_⟩
      cases e
      refine ⟨vk_R.of hr q1, ⟨cell, q3, q5, ⟨k, by rw [q6]; exact q4⟩, fun comp hc => ?_⟩, (Array.getElem?_eq_some_iff.mp q3).1⟩
      cases Option.some.inj (q2.symm.trans hc)
      rw [q6]
      exact va_asg _ _
  obtain ⟨ad, had⟩ := Classical.axiomOfChoice hst
  have hAA : ∀ a : Nat, a < s.heap.size → ¬ s.heap.size ≤ a := fun a h => Nat.not_le.mpr h
  refine ⟨fun j => Nat.casesOn j b (fun k => ad k), ((fun c => (D c).1, fun c => (D c).2), cI, cB, cJ, cS), rfl, ⟨fun c q hq => hD c q hq, fun k q hk => ?_⟩, fun j q hq => had j q hq, fun q hq => va_Nw.of rfl (hts _ (we_nest _ (List.mem_map.mpr ⟨q, hq, rfl⟩))), ?_, va_AO.of hao, vx_Zqof (hts _ (List.mem_of_getElem? (i := 719) (by decide +kernel))) (hts _ (List.mem_of_getElem? (i := 113) (by decide +kernel))) (hfl _ (by decide +kernel)) hAA, vx_Zqof (hts _ (List.mem_of_getElem? (i := 721) (by decide +kernel))) (hts _ (List.mem_of_getElem? (i := 113) (by decide +kernel))) (hfl _ (by decide +kernel)) hAA, ?_, hbl, Nat.le_refl _, va_Nc.of (hfl _ (by decide +kernel)), ?_⟩
  · match k, hk with
    | 0, hk => cases hk; exact ⟨fun N z => ⟨(fun k h => by cases h), kI, i2, pI, i3⟩, i1⟩
    | 1, hk => cases hk; exact ⟨fun N z => ⟨(fun k h => by cases h), kB, b2, pB, b3⟩, b1⟩
    | 2, hk => cases hk; exact ⟨fun N z => ⟨(fun k h => by cases h), kJ, j2, pJ, j3⟩, j1⟩
    | 3, hk => cases hk; exact ⟨fun N z => ⟨(fun k h => by cases h), kS, s3, pS, s4⟩, ⟨kS, pS, s3, s4, s1, s5⟩⟩
    | k + 4, hk => simp [sTy] at hk
  · intro E hE
    rcases List.mem_cons.mp hE with rfl | hE
    · exact va_Nw.of rfl (hts _ (List.mem_of_getElem? (i := 694) (by decide +kernel)))
    · rw [List.mem_singleton] at hE
      subst hE
      exact va_Nw.of rfl (hts _ (List.mem_of_getElem? (i := 1055) (by decide +kernel)))
  · obtain ⟨scr, h1, h2, h3, h4, h5⟩ := hX
    refine ⟨L, ⟨scr, h1, h2, h3, h4, fun j hj => ?_⟩, we_L hL⟩
    rw [show weR xs L j = xs j from if_pos (by omega)]
    exact h5 j hj
  · intro y hy
    rcases List.mem_cons.mp hy with rfl | hy
    · exact va_Nw.of rfl (hts _ (List.mem_of_getElem? (i := 696) (by decide +kernel)))
    · rcases List.mem_cons.mp hy with rfl | hy
      · exact va_Nw.of rfl (hts _ (List.mem_of_getElem? (i := 698) (by decide +kernel)))
      · rw [List.mem_singleton] at hy
        subst hy
        exact va_Nw.of rfl (hts _ (List.mem_of_getElem? (i := 700) (by decide +kernel)))
theorem we_ir {ins : Instr} (h : sRetI ins (some .boolean) = true) : ins = .ireturn := by
  unfold sRetI at h
  split at h
  · rfl
  · cases h
  · cases h
/-- from the entry, for every script of at most 6 ints, the law comes to its end with true -/
theorem whole_start {p : Program} {e : Env} {s : State} {m : MethodId} {below : List Frame} {meth : Method} {c : Code} (l : Launch) {b L : Nat} {xs : Nat → Int32} (hst : l.stackTraces = false) (hnm : meth.name = "law") (htab : c.exceptionTable.toList = tableOf []) (hL : L ≤ 6) (C0 : lw_At p s m meth c b L xs) : W p l e room_1 s m #[Value.ref b] below meth c s.heap [] 0 0 (lw_Z below #[Value.ref b] s) (entryFrame m ([Value.ref b] : List Value).toArray 7) := by
  obtain ⟨hexec, hcode, hret, hml, hown, hts, hX, hbl, hlk, hgv⟩ := C0
  obtain ⟨ex, g, hb0, hC⟩ := we_ctx hL hts hX hbl hgv
  obtain ⟨n, env, hs, hy⟩ := we_run hL xs
  obtain ⟨os, mc, ms, hrun, hos, hmc, hms⟩ := sYes_ok hy
  have hG := fGoN_ok pOk pFT_ok n 12 0 100000 _ _ hrun
  have hF : sFix p l room_1 s m #[Value.ref b] meth c pm_0 12 (weR xs L) ex g s.heap.size := ⟨hexec, hcode, hml, hown, fun w hw => hts w (List.mem_filter.mp hw).1, hnm, hlk, htab, by decide, by decide, hst, hC, rfl, hret⟩
  rw [lg_entry_eq]
  have hl := lv_entry [Value.ref b] (n := 7) (Nat.le_of_ble_eq_true rfl)
  have r1 : (124 : Nat) ≤ room_1.cells := by decide
  have r2 : (7216 : Nat) ≤ room_1.slots := by decide
  refine hG.2.2.2 pm_0 rfl (weR xs L) ex g s.heap.size p l e room_1 s m #[Value.ref b] below meth c _ hF (Nat.le_trans hmc r1) (Nat.le_trans hms r2) [] s.heap [] _ _ [] hs ⟨trivial, (fun k q h => by simp at h), ⟨(fun i j p q h => by simp at h), (fun k q h => by simp at h)⟩, va_S.rf⟩ hl ⟨⟨rfl, by rw [← hb0]; rfl⟩, trivial⟩ trivial (fun o ho => ?_)
  obtain ⟨h0, hstk⟩ := hos o ho
  intro ws' H' locs' ls' lc' vs' hp hsat hpt hl' hL' hS'
  refine ⟨fun _ => ?_, fun h2 => absurd (h0.symm.trans h2) (by decide)⟩
  rw [hstk] at hS'
  have hv : vs' = [.int 1] := by
    rcases vs' with _ | ⟨v, _ | ⟨w, t⟩⟩
    · exact hS'.elim
    · have h1 : v = .int (Int32.ofInt 1) := hS'.1
      rw [h1]
      rfl
    · exact hS'.2.elim
  subst hv
  obtain ⟨ins, r, hdec, hri, hrv⟩ := ((hG.2.2.1 o ho).2 pm_0 rfl).1 h0
  cases we_ir hri
  have c1 := (hG.2.2.1 o ho).1.1
  have c2 := (hG.2.2.1 o ho).1.2.1
  exact va_forget (fun q hq => hpt.2.2.2.2.2 q hq) (W.widen (k := 600002) (n := 7302232) (Nat.le_trans c1 (Nat.le_trans hmc (by decide))) (Nat.le_trans c2 (Nat.le_trans hms (by decide))) (lw_ret hexec hcode hret hlk hdec))
