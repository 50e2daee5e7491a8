noncomputable section
/-! ===== what stands at the law's entry ===== -/
theorem wAllAt {ws : List Cond} : ∀ {ps : List Nat}, ws.length ≤ ps.length → (ws.zip ps).all (fun q => decide (lw_tbl[q.2]? = some q.1)) = true → ∀ w ∈ ws, w ∈ lw_tbl := by
  induction ws with
  | nil => intro ps _ _ w h; cases h
  | cons a t ih =>
    intro ps hl h w hw
    cases ps with
    | nil => simp at hl
    | cons p q =>
      simp only [List.zip_cons_cons, List.all_cons, Bool.and_eq_true, decide_eq_true_eq] at h
      rcases List.mem_cons.mp hw with rfl | hw
      · exact List.mem_of_getElem? h.1
      · exact ih (by simpa using hl) h.2 w hw
set_option maxRecDepth 100000 in
theorem we_sr : ∀ w ∈ sStr.map (fun q => Cond.stringRef q.1 q.2.1 q.2.2), w ∈ lw_tbl := wAllAt (ps := [732, 786, 876, 877, 878, 879, 880, 934, 947, 952, 961, 975, 1003, 1004, 1005, 1006, 1007, 1008, 1009, 1010, 1011, 1012, 1062, 1080, 1094, 1111, 1141, 1153, 1245, 1360, 1384, 1385, 1386, 1387, 1388, 1389, 1390, 1391, 1392, 1393, 1394, 1395, 1396, 1633, 1654, 1683, 1684, 1693, 1706, 1711]) (by decide +kernel) (by decide +kernel)
set_option maxRecDepth 100000 in
theorem we_nest : ∀ w ∈ sNest.map (fun q => Cond.methodLinkNest q.1 q.2.1 q.2.2.1 q.2.2.2), w ∈ lw_tbl := wAllAt (ps := [136, 142, 264, 297, 303, 357, 377, 445, 594, 673, 678, 679, 1021]) (by decide +kernel) (by decide +kernel)
/-- the bytes of the constant texts -/
def weB : List (List Int32) := [[116, 104, 101, 32, 116, 97, 112, 101, 32, 104, 97, 115, 32, 110, 111, 116, 32, 115, 111, 32, 109, 97, 110, 121, 32, 98, 121, 116, 101, 115], [59, 40, 41, 43, 45, 42, 47, 60, 61], [99, 108, 101, 114, 107], [99, 104, 105, 101, 102], [99, 111, 100, 105, 115, 116], [100, 111, 117, 98, 108, 101], [117, 110, 109, 111, 118, 101, 100], [108, 105, 110, 101], [115, 101, 99, 114, 101, 116], [103, 114, 117, 100, 103, 101], [116, 101, 108, 108, 115], [110, 111, 116], [119, 111, 114, 116, 104], [102, 114, 111, 109], [116, 111], [115, 97, 109, 101], [108, 111, 121, 97, 108], [107, 105, 110], [100, 97, 121], [111, 119, 110], [97, 110, 100], [111, 114], [110, 111, 32, 115, 117, 99, 104, 32, 119, 104, 97, 116], [110, 111, 32, 115, 117, 99, 104, 32, 97, 103, 101, 110, 116], [110, 111, 32, 115, 117, 99, 104, 32, 108, 105, 110, 101], [110, 111, 32, 115, 117, 99, 104, 32, 115, 101, 99, 114, 101, 116], [110, 111, 32, 115, 117, 99, 104, 32, 111, 110, 101, 32, 105, 110, 32, 116, 104, 101, 32, 99, 104, 97, 105, 110], [110, 111, 32, 115, 117, 99, 104, 32, 115, 105, 100, 101], [110, 111, 32, 108, 105, 110, 101, 32, 103, 111, 101, 115, 32, 102, 114, 111, 109, 32, 111, 110, 101, 32, 116, 111, 32, 104, 105, 109, 115, 101, 108, 102], [110, 111, 116, 32, 115, 111, 32, 109, 97, 110, 121, 32, 121, 101, 97, 114, 115], [99, 108, 101, 114, 107], [99, 104, 105, 101, 102], [99, 111, 100, 105, 115, 116], [100, 111, 117, 98, 108, 101], [117, 110, 109, 111, 118, 101, 100], [119, 111, 114, 116, 104], [102, 114, 111, 109], [116, 111], [115, 97, 109, 101], [108, 111, 121, 97, 108], [107, 105, 110], [100, 97, 121], [111, 119, 110], [116, 101, 108, 108, 115], [110, 111, 116], [97, 110, 100], [111, 114], [108, 105, 110, 101], [115, 101, 99, 114, 101, 116], [103, 114, 117, 100, 103, 101]]
def weT1 (q : String × Nat × String) (n : Nat) (bs : List Int32) : List Cond := Cond.exactly (.string q.1 q.2.1) "java/lang/String" :: Cond.eq (.field (.string q.1 q.2.1) "java/lang/String" "coder" "B") (.int 0) :: Cond.arrayOf (.field (.string q.1 q.2.1) "java/lang/String" "value" "[B") .byte :: Cond.eq (.length (.field (.string q.1 q.2.1) "java/lang/String" "value" "[B")) (.int (Int32.ofNat n)) :: (List.range n).map fun j => Cond.eq (.elem (.field (.string q.1 q.2.1) "java/lang/String" "value" "[B") (.int (Int32.ofNat j))) (.int (bs.getD j 0))
def weSub : List Cond → List Cond → Bool
  | [], _ => true
  | _ :: _, [] => false
  | a :: as, b :: bs => if a = b then weSub as bs else weSub (a :: as) bs
theorem weSub_ok : ∀ (bs as : List Cond), weSub as bs = true → ∀ w ∈ as, w ∈ bs
  | _, [], _, w, hw => by cases hw
  | [], _ :: _, h, _, _ => by simp [weSub] at h
  | b :: bs, a :: as, h, w, hw => by
    unfold weSub at h
    split at h
    · rename_i e
      subst e
      rcases List.mem_cons.mp hw with rfl | hw
      · exact List.mem_cons_self
      · exact List.mem_cons_of_mem _ (weSub_ok bs as h w hw)
    · exact List.mem_cons_of_mem _ (weSub_ok bs (a :: as) h w hw)
set_option maxRecDepth 100000 in
theorem we_txt : ∀ w ∈ (sStr.zip (sSln.zip weB)).flatMap (fun q => weT1 q.1 q.2.1 q.2.2), w ∈ flatC (Jvm.Cond.and given_1 narrow_1) := weSub_ok _ _ (by decide +kernel)
theorem we_by : (weB.all fun bs => bs.all fun z => decide (-128 ≤ z.toInt) && decide (z.toInt ≤ 127)) = true := by decide +kernel
theorem we_byt {bs : List Int32} (h : bs ∈ weB) (k : Nat) : -128 ≤ (bs.getD k 0).toInt ∧ (bs.getD k 0).toInt ≤ 127 := by
  rw [List.getD_eq_getElem?_getD]
  cases hk : bs[k]? with
  | none => exact ⟨by decide, by decide⟩
  | some z =>
    have q := List.all_eq_true.mp (List.all_eq_true.mp we_by bs h) z (List.mem_of_getElem? hk)
    simp only [Bool.and_eq_true, decide_eq_true_eq] at q
    exact q
theorem we_E : weB.map (fun bs => bs.map Int32.toInt) = sSby := by decide +kernel
theorem we_sby {j : Nat} {bs : List Int32} (hb : weB[j]? = some bs) (bs' : List Int) (k : Nat) (b : Int) (h1 : sSby[j]? = some bs') (h2 : bs'[k]? = some b) : (bs.getD k 0).toInt = b := by
  rw [← we_E, List.getElem?_map, hb] at h1
  have e1 : bs.map Int32.toInt = bs' := Option.some.inj h1
  rw [← e1, List.getElem?_map] at h2
  obtain ⟨z, hz, rfl⟩ := Option.map_eq_some_iff.mp h2
  rw [List.getD_eq_getElem?_getD, hz]
  rfl
theorem we_len : sStr.length = 50 ∧ sSln.length = 50 ∧ weB.length = 50 := ⟨by decide +kernel, by decide +kernel, by decide +kernel⟩
theorem we_ln : (sSln.all fun n => decide (n < 2 ^ 31)) = true := by decide +kernel
theorem we_one {s : State} {b : Nat} (hts : ∀ w ∈ lw_tbl, w.before #[Value.ref b] s = true) (hfl : ∀ w ∈ flatC (Jvm.Cond.and given_1 narrow_1), w.before #[Value.ref b] s = true) {A : Nat → Prop} (hAA : ∀ a : Nat, a < s.heap.size → ¬ A a) (j : Nat) (q : String × Nat × String) (hq : sStr[j]? = some q) : ∃ (a r n : Nat), sSln[j]? = some n ∧ (vk_R q.1 q.2.1 q.2.2 a s ∧ va_Any "java/lang/String" s s.heap a ∧ a < s.heap.size) ∧ va_O "java/lang/String" a A s s.heap ∧ va_OF "java/lang/String" "coder" "B" (.int 0) a A s s.heap ∧ va_OF "java/lang/String" "value" "[B" (.ref r) a A s s.heap ∧ ∃ f : Nat → Int32, va_T .byte r n (fun k => .int (f k)) A s s.heap ∧ (∀ k, -128 ≤ (f k).toInt ∧ (f k).toInt ≤ 127) ∧ ∀ (bs : List Int) (k : Nat) (b : Int), sSby[j]? = some bs → bs[k]? = some b → (f k).toInt = b := by
  have hj : j < 50 := by
    have := (List.getElem?_eq_some_iff.mp hq).1
    rw [we_len.1] at this
    exact this
  have hn : sSln[j]? = some (sSln[j]'(by rw [we_len.2.1]; exact hj)) := List.getElem?_eq_getElem _
  have hb : weB[j]? = some (weB[j]'(by rw [we_len.2.2]; exact hj)) := List.getElem?_eq_getElem _
  generalize sSln[j]'(by rw [we_len.2.1]; exact hj) = n at hn
  generalize weB[j]'(by rw [we_len.2.2]; exact hj) = bs at hb
  have hz : (q, (n, bs)) ∈ sStr.zip (sSln.zip weB) := by
    refine List.mem_of_getElem? (i := j) ?_
    rw [List.getElem?_zip_eq_some]
    refine ⟨hq, ?_⟩
    rw [List.getElem?_zip_eq_some]
    exact ⟨hn, hb⟩
  have hw : ∀ w ∈ weT1 q n bs, w.before #[Value.ref b] s = true := fun w hw => hfl w (we_txt w (List.mem_flatMap.mpr ⟨_, hz, hw⟩))
  have hr : (Cond.stringRef q.1 q.2.1 q.2.2).before #[Value.ref b] s = true := hts _ (we_sr _ (List.mem_map.mpr ⟨q, List.mem_of_getElem? hq, rfl⟩))
  have he := hw _ (List.mem_cons_self)
  have hco := hw _ (List.mem_cons_of_mem _ List.mem_cons_self)
  have har := hw _ (List.mem_cons_of_mem _ (List.mem_cons_of_mem _ List.mem_cons_self))
  have hle := hw _ (List.mem_cons_of_mem _ (List.mem_cons_of_mem _ (List.mem_cons_of_mem _ List.mem_cons_self)))
  have hel : ∀ k : Nat, k < n → (Cond.eq (.elem (.field (.string q.1 q.2.1) "java/lang/String" "value" "[B") (.int (Int32.ofNat k))) (.int (bs.getD k 0))).before #[Value.ref b] s = true := fun k hk =>
    hw _ (List.mem_cons_of_mem _ (List.mem_cons_of_mem _ (List.mem_cons_of_mem _ (List.mem_cons_of_mem _ (List.mem_map.mpr ⟨k, List.mem_range.mpr hk, rfl⟩)))))
  obtain ⟨a, c, cell, k, q1, q2, q3, q4, q5, q6, -⟩ := Cond.exactly_spec (args := #[Value.ref b]) (first := s) (o := none) (s := s) (idx := []) (t := .string q.1 q.2.1) (cls := "java/lang/String") he
  have hN : n < 2 ^ 31 := of_decide_eq_true (List.all_eq_true.mp we_ln n (List.mem_of_getElem? hn))
  obtain ⟨r, ht, hT⟩ := va_Tof (f := fun k => .int (bs.getD k 0)) (A := A) hN har (va_eqt hle) (fun k hk => va_eqt (hel k hk)) hAA
  refine ⟨a, r, n, hn, ⟨vk_R.of hr q1, ⟨cell, q3, q5, ⟨k, by rw [q6]; exact q4⟩, fun comp hc => ?_⟩, (Array.getElem?_eq_some_iff.mp q3).1⟩, ⟨cell, q3, q5, by rw [q6]; exact q2, hAA a (Array.getElem?_eq_some_iff.mp q3).1⟩, vk_OFof q1 (va_eqt hco) hAA, vk_OFof q1 ht hAA, _, hT, we_byt (List.mem_of_getElem? hb), we_sby hb⟩
  cases Option.some.inj (q2.symm.trans hc)
  rw [q6]
  exact va_asg _ _
set_option maxRecDepth 100000 in
set_option maxHeartbeats 4000000 in
theorem we_ctx {s : State} {b L : Nat} {xs : Nat → Int32} (hts : ∀ w ∈ lw_tbl, w.before #[Value.ref b] s = true) (hX : va_X b L xs s s.heap) (hbl : b < s.heap.size) (hgv : (Jvm.Cond.and given_1 narrow_1).before #[Value.ref b] s = true) : ∃ (ex : Nat → Nat) (g : sG), ex 0 = b ∧ sCtx xs L ex g s.heap.size s := by
  have hB : ∀ w ∈ sB, w.before #[Value.ref b] s = true := fun w hw => hts w (List.mem_filter.mp hw).1
  have hfl := flat_of_before _ hgv
  have hk : ∀ ci : Nat, ∃ D : ClassId × (Nat → Nat), ∀ q, vwCl[ci]? = some q → u_Kn s q.1 q.2.1 q.2.2 D.1 D.2 := by
    intro ci
    cases hq : vwCl[ci]? with
    | none => exact ⟨(0, fun _ => 0), fun q h => by cases h⟩
    | some q =>
      obtain ⟨ty, h1, h2, h3, h4, h5, h6⟩ := sCls ci q hq
      obtain ⟨cC, iS, h⟩ := u_known (ws := sB) hB h3 (hB _ h5)
      exact ⟨(cC, iS), fun q' e => by cases e; exact h⟩
  obtain ⟨D, hD⟩ := Classical.axiomOfChoice hk
  obtain ⟨cI, kI, pI, i1, i2, i3⟩ := Cond.arrayClass_spec (hB _ sArr_int)
  obtain ⟨cB, kB, pB, b1, b2, b3⟩ := Cond.arrayClass_spec (hB _ sArr_byte)
  obtain ⟨cJ, kJ, pJ, j1, j2, j3⟩ := Cond.arrayClass_spec (hB _ sArr_long)
  have hao : (Cond.arrayOver (.object "java/lang/String")).before #[Value.ref b] s = true := hts _ (List.mem_of_getElem? (i := 1383) (by decide +kernel))
  obtain ⟨pS, cS, kS, s1, s2, s3, s4, s5⟩ := Cond.arrayOver_spec hao
  have hAA : ∀ a : Nat, a < s.heap.size → ¬ s.heap.size ≤ a := fun a h => Nat.not_le.mpr h
  have hst : ∀ j : Nat, ∃ a : Nat × Nat, ∀ q : String × Nat × String, sStr[j]? = some q → ∃ n, sSln[j]? = some n ∧ (vk_R q.1 q.2.1 q.2.2 a.1 s ∧ va_Any "java/lang/String" s s.heap a.1 ∧ a.1 < s.heap.size) ∧ va_O "java/lang/String" a.1 (fun q => s.heap.size ≤ q) s s.heap ∧ va_OF "java/lang/String" "coder" "B" (.int 0) a.1 (fun q => s.heap.size ≤ q) s s.heap ∧ va_OF "java/lang/String" "value" "[B" (.ref a.2) a.1 (fun q => s.heap.size ≤ q) s s.heap ∧ ∃ f : Nat → Int32, va_T .byte a.2 n (fun k => .int (f k)) (fun q => s.heap.size ≤ q) s s.heap ∧ (∀ k, -128 ≤ (f k).toInt ∧ (f k).toInt ≤ 127) ∧ ∀ (bs : List Int) (k : Nat) (b : Int), sSby[j]? = some bs → bs[k]? = some b → (f k).toInt = b := by
    intro j
    cases hq : sStr[j]? with
    | none => exact ⟨(0, 0), fun q h => by cases h⟩
    | some q =>
      obtain ⟨a, r, n, h⟩ := we_one hts hfl hAA j q hq
      exact ⟨(a, r), fun q' e => by cases e; exact ⟨n, h⟩⟩
  obtain ⟨ad, had⟩ := Classical.axiomOfChoice hst
  have hb1 : ∀ (j : Nat) (q : String × Nat × String), sStr[j]? = some q → j < 50 := fun j q hq => by
    have := (List.getElem?_eq_some_iff.mp hq).1
    rw [we_len.1] at this
    exact this
  obtain ⟨ex, hx0, hx1, hx2⟩ : ∃ ex : Nat → Nat, ex 0 = b ∧ (∀ j : Nat, j < 50 → ex (j + 1) = (ad j).1) ∧ ∀ j : Nat, ex (j + 1000) = (ad j).2 := by
    refine ⟨fun k : Nat => if k = 0 then b else if k < 1000 then (ad (k - 1)).1 else (ad (k - 1000)).2, rfl, fun j hj => ?_, fun j => ?_⟩
    · show (if j + 1 = 0 then b else if j + 1 < 1000 then (ad (j + 1 - 1)).1 else (ad (j + 1 - 1000)).2) = _
      rw [if_neg (by omega), if_pos (by omega), Nat.add_sub_cancel]
    · show (if j + 1000 = 0 then b else if j + 1000 < 1000 then (ad (j + 1000 - 1)).1 else (ad (j + 1000 - 1000)).2) = _
      rw [if_neg (by omega), if_neg (by omega), Nat.add_sub_cancel]
  refine ⟨ex, ((fun c => (D c).1, fun c => (D c).2), cI, cB, cJ, cS), hx0, ⟨fun c q hq => hD c q hq, fun k q hk => ?_⟩, fun j q hq => by rw [hx1 j (hb1 j q hq)]; exact (had j q hq).choose_spec.2.1, fun q hq => va_Nw.of rfl (hts _ (we_nest _ (List.mem_map.mpr ⟨q, hq, rfl⟩))), ?_, va_AO.of hao, vx_Zqof (hts _ (List.mem_of_getElem? (i := 719) (by decide +kernel))) (hts _ (List.mem_of_getElem? (i := 113) (by decide +kernel))) (hfl _ (by decide +kernel)) hAA, vx_Zqof (hts _ (List.mem_of_getElem? (i := 721) (by decide +kernel))) (hts _ (List.mem_of_getElem? (i := 113) (by decide +kernel))) (hfl _ (by decide +kernel)) hAA, by rw [hx0]; exact hX, by rw [hx0]; exact hbl, Nat.le_refl _, va_Nc.of (hfl _ (by decide +kernel)), ?_, ⟨fun j n hj => ?_, va_Zof (hts _ (by decide +kernel)) (hts _ (by decide +kernel)) (va_eqt (hfl _ (by decide +kernel))) hAA, va_Zqof (hts _ (by decide +kernel)) (hts _ (by decide +kernel)) (hfl _ (by decide +kernel)) hAA⟩⟩
  · match k, hk with
    | 0, hk => cases hk; exact ⟨fun N z => ⟨(fun k h => by cases h), kI, i2, pI, i3⟩, i1⟩
    | 1, hk => cases hk; exact ⟨fun N z => ⟨(fun k h => by cases h), kB, b2, pB, b3⟩, b1⟩
    | 2, hk => cases hk; exact ⟨fun N z => ⟨(fun k h => by cases h), kJ, j2, pJ, j3⟩, j1⟩
    | 3, hk => cases hk; exact ⟨fun N z => ⟨(fun k h => by cases h), kS, s3, pS, s4⟩, ⟨kS, pS, s3, s4, s1, s5⟩⟩
    | k + 4, hk => simp [sTy] at hk
  · intro E hE
    rcases List.mem_cons.mp hE with rfl | hE
    · exact va_Nw.of rfl (hts _ (List.mem_of_getElem? (i := 694) (by decide +kernel)))
    · rw [List.mem_singleton] at hE
      subst hE
      exact va_Nw.of rfl (hts _ (List.mem_of_getElem? (i := 1055) (by decide +kernel)))
  · intro y hy
    rcases List.mem_cons.mp hy with rfl | hy
    · exact va_Nw.of rfl (hts _ (List.mem_of_getElem? (i := 696) (by decide +kernel)))
    · rcases List.mem_cons.mp hy with rfl | hy
      · exact va_Nw.of rfl (hts _ (List.mem_of_getElem? (i := 698) (by decide +kernel)))
      · rw [List.mem_singleton] at hy
        subst hy
        exact va_Nw.of rfl (hts _ (List.mem_of_getElem? (i := 700) (by decide +kernel)))
  · have hj50 : j < 50 := by
      have := (List.getElem?_eq_some_iff.mp hj).1
      rw [we_len.2.1] at this
      exact this
    have hq : sStr[j]? = some (sStr[j]'(by rw [we_len.1]; exact hj50)) := List.getElem?_eq_getElem _
    obtain ⟨n', h1, -, h2⟩ := had j _ hq
    cases Option.some.inj (h1.symm.trans hj)
    rw [hx1 j hj50, hx2 j]
    exact h2
end
