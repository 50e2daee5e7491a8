noncomputable section
/-! ===== new cells; all instructions on cells ===== -/
section SHY
variable {p : Program} {l : Launch} {e : Env} {R : Room} {s : State} {m : MethodId} {args : Array Value} {below : List Frame} {meth : Method} {c : Code} {H : Heap} {locs : List Loc} {cells slots : Nat} {Q : State → Prop}
variable {cc : ByteArray} {pc : Nat} {ls : Array Slot} {ρ : List Int} {ex : Nat → Nat} {κ : sCx} {G : List sFc} {g : sG} {n0 L : Nat} {sc : Nat → Int32} {wd : List sC} {ws : va_W} {st : List sV} {vs : List Value} {n dc ds : Nat} {os : List sH4} {own mn : String} {ax : List Nat}
theorem sNewA_inv {tg len : Nat} (hs : sCok ρ κ) (hS : sA2 (sRep ρ (ws.map Prod.fst) ex) st vs) (h : sNewA κ G wd st tg len = some (n, os, dc, ds)) :
    ∃ (t : List sV) (rest : List Value) (z : Int32), vs = .int z :: rest ∧ sA2 (sRep ρ (ws.map Prod.fst) ex) t rest ∧ ¬ z < 0 ∧ z.toNatClampNeg = ds ∧ ds ≤ 100000 ∧ n = len ∧ os = [(κ, [], wd ++ [.inr (tg, ds, [])], (3, (wd.length : Int)) :: t)] ∧ dc = 1 ∧ G = [] := by
  unfold sNewA at h
  split at h
  · rename_i x t
    obtain ⟨v, rest, rfl, hxv, hS1⟩ := sA2_cons hS
    have hxn := sN_ok hs.1 hxv
    split at h
    · rename_i z hz
      rw [hz] at hxn
      split at h
      · rename_i hb
        obtain ⟨hb1, hb2, hb3⟩ := hb
        subst hb3
        cases h
        simp only [sRep] at hxn
        subst hxn
        have e1 : (Int32.ofInt z).toInt = z := Int32.toInt_ofInt_of_le (by omega) (by omega)
        refine ⟨t, rest, _, rfl, hS1, fun q => ?_, ?_, by omega, rfl, rfl, rfl, rfl⟩
        · have := Int32.lt_iff_toInt_lt.mp q
          rw [e1] at this
          have h0 : (0 : Int32).toInt = 0 := rfl
          omega
        · show (Int32.ofInt z).toInt.toNat = z.toNat
          rw [e1]
      · cases h
    · cases h
  · cases h
theorem sNoG {A : Nat → Nat → Int32} {L : Nat} {sc : Nat → Int32} {ρ : List Int} : ∀ f ∈ ([] : List sFc), sWf A L sc ρ f := fun f h => by cases h
/-- the new cell's place -/
theorem sNewRef (hrw : sRW ρ ex g wd ws) (q : Nat) (e0 : va_E) : sRep ρ ((ws ++ [(q, e0)]).map Prod.fst) ex (3, (wd.length : Int)) (.ref q) := by
  refine ⟨q, ?_, rfl⟩
  have hl := sA2_len _ _ hrw
  rw [List.map_append, Int.toNat_natCast, hl]
  simp
theorem sPfx (ws : va_W) (q : Nat × va_E) : ws.map Prod.fst <+: (ws ++ [q]).map Prod.fst := by rw [List.map_append]; exact List.prefix_append _ _
theorem sNewI_ok {atype : ArrayType} {tg : Nat} {ty : FieldType} {cA0 : ClassId} {t0 : Nat} {a0 : Nat → vp_A} (hx : p.tables.exec = Jvm.exec) (hb : c.code = cc) (hts : ∀ w ∈ sB, w.before args s = true) (hc : sCtx sc L ex g n0 s) (hs : sCok ρ κ) (hpt : sPt ρ ex g (fun q => n0 ≤ q) wd ws H s.heap locs) (hS : sA2 (sRep ρ (ws.map Prod.fst) ex) st vs)
    (hty : newarray.typeOf atype = ty) (harr : Cond.arrayClass ty ∈ sB) (ht0 : (sTy g)[t0]? = some (cA0, ty)) (hpr : ∀ (U : State) (cA : ClassId), va_RA U cA ty → U.vm.findClass ("[" ++ ty.toString) = some cA) (hcb : componentBytes ty ≤ 8)
    (ha : ∀ (N : Nat) (cA : ClassId), vp_cell cA (a0 N) = arrV cA N (fun _ => defaultValue ty)) (hrep : ∀ (N : Nat) (ads : List Nat), sRepC ρ ads ex g (.inr (tg, N, [])) (.inl (cA0, a0 N)))
    (hd : decode cc pc = .ok (.newarray atype, n)) (h : sNewA κ G wd st tg 2 = some (n, os, dc, ds)) (hroom : cells + dc ≤ R.cells ∧ slots + ds ≤ R.slots) (k : sGo p l e R s m args below meth c Q ls ρ ex g n0 L sc ws os (cells + dc) (slots + ds) (pc + n)) : W p l e R s m args below meth c H locs cells slots Q (F0 m pc ls vs) := by
  obtain ⟨t, rest, z, rfl, hS1, hz, hN, hNb, rfl, rfl, rfl, -⟩ := sNewA_inv hs hS h
  have hn0 := hc.2.2.2.2.2.2.2.2.2.1
  refine va_newa (a0 := a0 ds) hx hb (by rw [hty]; exact hts _ harr) hty hc.1 hpt.2.1 hpt.2.2.1 hpt.2.2.2 (fun q hq => Nat.le_trans hn0 hq) (fun cA => ha ds cA) hz hN (Nat.le_trans (Nat.mul_le_mul hNb hcb) (by decide)) hroom.1 hroom.2 hd (fun q cA H1 hK1 q1 q2 q3 => ?_)
  have e1 : cA = cA0 := by
    have h1 := hpr s cA ((hK1.2 (sTy g).length (cA, ty) (by simp)).2)
    have h2 := hpr s cA0 ((hc.1.2 t0 _ ht0).2)
    exact Option.some.inj (h1.symm.trans h2)
  subst e1
  exact k _ List.mem_cons_self ρ _ H1 locs _ List.prefix_rfl (sPfx _ _) hs sNoG ⟨sRW_push hpt.1 (hrep ds _), q1, q2, q3⟩ ⟨sNewRef hpt.1 _ _, sA2_imp (fun _ _ w => sRep_mono List.prefix_rfl (sPfx _ _) w) _ _ hS1⟩
theorem sNewS_ok {i : Nat} (hx : p.tables.exec = Jvm.exec) (hb : c.code = cc) (hts : ∀ w ∈ sB, w.before args s = true) (hown : s.vm.findClass own = some m.cls) (hc : sCtx sc L ex g n0 s) (hs : sCok ρ κ) (hpt : sPt ρ ex g (fun q => n0 ≤ q) wd ws H s.heap locs) (hS : sA2 (sRep ρ (ws.map Prod.fst) ex) st vs)
    (hd : decode cc pc = .ok (.anewarray i, n)) (he : sEntH own mn (.anewarray i) ax = true) (h : sNewA κ G wd st 3 3 = some (n, os, dc, ds)) (hroom : cells + dc ≤ R.cells ∧ slots + ds ≤ R.slots) (k : sGo p l e R s m args below meth c Q ls ρ ex g n0 L sc ws os (cells + dc) (slots + ds) (pc + n)) : W p l e R s m args below meth c H locs cells slots Q (F0 m pc ls vs) := by
  obtain ⟨t, rest, z, rfl, hS1, hz, hN, hNb, rfl, rfl, rfl, -⟩ := sNewA_inv hs hS h
  have hn0 := hc.2.2.2.2.2.2.2.2.2.1
  simp only [sEntH] at he
  split at he
  · rename_i pos
    refine va_newq hx hb hown (hts _ (sAt_ok he)) hc.2.2.2.2.1 hc.1 hpt.2.1 hpt.2.2.1 hpt.2.2.2 (fun q hq => Nat.le_trans hn0 hq) hz hN (by omega) hroom.1 hroom.2 hd (fun q cA H1 hK1 q1 q2 q3 => ?_)
    have e1 : cA = g.2.2.2.2 := by
      obtain ⟨_, _, -, -, -, h1⟩ := (hK1.2 (sTy g).length (cA, .object "java/lang/String") (by simp)).2
      obtain ⟨_, _, -, -, -, h2⟩ := (hc.1.2 3 (g.2.2.2.2, .object "java/lang/String") rfl).2
      exact Option.some.inj (h1.symm.trans h2)
    subst e1
    exact k _ List.mem_cons_self ρ _ H1 locs _ List.prefix_rfl (sPfx _ _) hs sNoG ⟨sRW_push hpt.1 (show sRepC _ _ _ _ (.inr (3, ds, [])) (.inl (g.2.2.2.2, ds, .inr (.inr (.inr (.inr (fun _ => none)))))) from ⟨rfl, rfl, fun j _ => Or.inl rfl⟩), q1, q2, q3⟩ ⟨sNewRef hpt.1 _ _, sA2_imp (fun _ _ w => sRep_mono List.prefix_rfl (sPfx _ _) w) _ _ hS1⟩
  · cases he
theorem va_ldcSw {tx : String} {index q : Nat} {rest : List Value} (hexec : p.tables.exec = Jvm.exec) (hb : c.code = cc) (hown : s.vm.findClass own = some m.cls) (hZ : vk_R own index tx q s) (hdg : decode cc pc = .ok (.ldc_w index, 3))
    (k : W p l e R s m args below meth c H locs cells slots Q (F0 m (pc + 3) ls (.ref q :: rest))) : W p l e R s m args below meth c H locs cells slots Q (F0 m pc ls rest) := by
  intro T hT X
  obtain ⟨t, a1, b1⟩ := k T hT X
  exact ⟨t, X.ldcStringW hexec hown (text := tx) (a := q) hZ.1 hZ.2 (g := F0 m pc ls rest) rfl (by rw [hb]; exact hdg) t a1, b1⟩
theorem sLdcS {j i len : Nat} (hx : p.tables.exec = Jvm.exec) (hb : c.code = cc) (hown : s.vm.findClass own = some m.cls) (hc : sCtx sc L ex g n0 s) {rest : List Value} (he2 : (match sStr[j]? with | some q => decide (q.1 = own) && decide (q.2.1 = i) | none => false) = true) (hd : (len = 2 ∧ decode cc pc = .ok (.ldc i, 2)) ∨ (len = 3 ∧ decode cc pc = .ok (.ldc_w i, 3)))
    (k : W p l e R s m args below meth c H locs cells slots Q (F0 m (pc + len) ls (.ref (ex (j + 1)) :: rest))) : W p l e R s m args below meth c H locs cells slots Q (F0 m pc ls rest) := by
  split at he2
  · rename_i q hq
    simp only [Bool.and_eq_true, decide_eq_true_eq] at he2
    obtain ⟨e1, e2⟩ := he2
    subst e1; subst e2
    rcases hd with ⟨rfl, hd⟩ | ⟨rfl, hd⟩
    · exact va_ldcS hx hb hown (hc.2.1 _ _ hq).1 hd k
    · exact va_ldcSw hx hb hown (hc.2.1 _ _ hq).1 hd k
  · cases he2
set_option maxHeartbeats 4000000 in
theorem sHp_ok (hx : p.tables.exec = Jvm.exec) (hb : c.code = cc) (hts : ∀ w ∈ sB, w.before args s = true) (hown : s.vm.findClass own = some m.cls) (hmn : meth.name = mn) (hc : sCtx sc L ex g n0 s) (hs : sCok ρ κ) (hG : ∀ f ∈ G, sWf (sAc ws) L sc ρ f) (hpt : sPt ρ ex g (fun q => n0 ≤ q) wd ws H s.heap locs) (hS : sA2 (sRep ρ (ws.map Prod.fst) ex) st vs)
    {ins : Instr} (hd : decode cc pc = .ok (ins, n)) (he : sEntH own mn ins ax = true) (h : sHp κ G wd ins ax st = some (n, os, dc, ds)) (hroom : cells + dc ≤ R.cells ∧ slots + ds ≤ R.slots) (k : sGo p l e R s m args below meth c Q ls ρ ex g n0 L sc ws os (cells + dc) (slots + ds) (pc + n)) : W p l e R s m args below meth c H locs cells slots Q (F0 m pc ls vs) := by
  cases ins
  case getfield i => exact sGetF_ok hx hb hts hown hc hs hG hpt hS hd he h k
  case putfield i => exact sPutF_ok hx hb hts hown hmn hc.1 hs hG hpt hS hd he h k
  case getstatic i =>
    simp only [sHp] at h
    split at h
    · rename_i pos
      cases h
      have he2 : sAt pos (.fieldLink own i "java/lang/String" "COMPACT_STRINGS" "Z") = true := he
      exact va_gets hx hb hc.2.2.2.2.2.2.2.2.2.2.2.2.2.1 hpt.2.2.2 hown (hts _ (sAt_ok he2)) (fun _ z => z) hd (k _ List.mem_cons_self ρ ws H locs _ List.prefix_rfl List.prefix_rfl hs hG hpt ⟨rfl, hS⟩)
    · rename_i pos
      cases h
      have he2 : sAt pos (.fieldLink own i "jdk/internal/util/Preconditions" "SIOOBE_FORMATTER" "Ljava/util/function/BiFunction;") = true := he
      rcases hc.2.2.2.2.2.2.2.2.2.2.2.2.2.2 with hz | ⟨tt, hz⟩
      · exact va_gets hx hb hz hpt.2.2.2 hown (hts _ (sAt_ok he2)) (fun _ z => z) hd (k _ List.mem_cons_self ρ ws H locs _ List.prefix_rfl List.prefix_rfl hs hG hpt ⟨Or.inl rfl, hS⟩)
      · exact va_gets hx hb hz hpt.2.2.2 hown (hts _ (sAt_ok he2)) (fun _ z => z) hd (k _ List.mem_cons_self ρ ws H locs _ List.prefix_rfl List.prefix_rfl hs hG hpt ⟨Or.inr ⟨rfl, tt, rfl⟩, hS⟩)
    · cases h
  case arraylength => exact sLen_ok hx hb hc hs hG hpt hS hd h k
  case iaload => exact sIald_ok hx hb hc hs hG hpt hS hd h k
  case baload => exact sBald_ok hx hb hc hs hG hpt hS hd h k
  case aaload => exact sAald_ok hx hb hc hs hG hpt hS hd h k
  case laload => exact sLald_ok hx hb hc hs hG hpt hS hd h k
  case iastore => exact sIast_ok hx hb hc hs hG hpt hS hd h k
  case bastore => exact sBast_ok hx hb hc hs hG hpt hS hd h k
  case lastore => exact sLast_ok hx hb hc hs hG hpt hS hd h k
  case aastore => exact sAstS_ok hx hb hc hs hG hpt hS hd h k
  case newarray at0 =>
    cases at0
    case int => exact sNewI_ok (atype := .int) (ty := .int) (tg := 0) (t0 := 0) (cA0 := g.2.1) (a0 := fun N => (N, .inl (fun _ => 0))) hx hb hts hc hs hpt hS rfl sArr_int rfl (fun _ _ q => q) (by decide) (fun _ _ => rfl) (fun N ads => ⟨rfl, rfl, fun j _ => rfl⟩) hd h hroom k
    case byte => exact sNewI_ok (atype := .byte) (ty := .byte) (tg := 1) (t0 := 1) (cA0 := g.2.2.1) (a0 := fun N => (N, .inl (fun _ => 0))) hx hb hts hc hs hpt hS rfl sArr_byte rfl (fun _ _ q => q) (by decide) (fun _ _ => rfl) (fun N ads => ⟨rfl, rfl, fun j _ => rfl⟩) hd h hroom k
    case long => exact sNewI_ok (atype := .long) (ty := .long) (tg := 2) (t0 := 2) (cA0 := g.2.2.2.1) (a0 := fun N => (N, .inr (.inl (fun _ => 0)))) hx hb hts hc hs hpt hS rfl sArr_long rfl (fun _ _ q => q) (by decide) (fun _ _ => rfl) (fun N ads => ⟨rfl, rfl, fun j _ => rfl⟩) hd h hroom k
    all_goals exact absurd h (by simp [sHp])
  case anewarray i => exact sNewS_ok hx hb hts hown hc hs hpt hS hd he h hroom k
  case new i =>
    simp only [sHp] at h
    simp only [sEntH] at he
    split at h
    · rename_i ci pos
      split at h
      · rename_i q hq
        simp only [hq] at he
        split at h
        · rename_i hGn
          subst hGn
          cases h
          obtain ⟨C, T, N⟩ := q
          obtain ⟨ty, hty, hnm, hin, hdf, hinst, hini⟩ := sCls _ _ hq
          have hn0 := hc.2.2.2.2.2.2.2.2.2.1
          exact va_new hx hb hts hin ty hty hown (hts _ (sAt_ok he)) (hts _ hinst) (hts _ hini) hc.1 hpt.2.1 hpt.2.2.1 hpt.2.2.2 (fun q hq => Nat.le_trans hn0 hq) hq (fs := sDv (C, T, N)) (fun j hj => (hdf j hj).trans (sDv_get (C, T, N) hj).symm) hroom.1 hroom.2 hd (fun q0 H1 q1 q2 q3 =>
            k _ List.mem_cons_self ρ _ H1 locs _ List.prefix_rfl (sPfx _ _) hs sNoG ⟨sRW_push hpt.1 (show sRepC _ _ _ _ (.inl (ci, sDf (C, T, N))) (.inr (ci, sDv (C, T, N))) from ⟨rfl, sDf_ok _ _ _ _⟩), q1, q2, q3⟩ ⟨sNewRef hpt.1 _ _, sA2_imp (fun _ _ w => sRep_mono List.prefix_rfl (sPfx _ _) w) _ _ hS⟩)
        · cases h
      · cases h
    · cases h
  case ldc i =>
    simp only [sHp] at h
    simp only [sEntH] at he
    split at h
    · rename_i pos v
      split at h
      · cases h
        exact lv_ldc hx hb hown (hts _ (sAt_ok he)) hd (k _ List.mem_cons_self ρ ws H locs _ List.prefix_rfl List.prefix_rfl hs hG hpt ⟨by show Value.int _ = Value.int _; rw [Int32.ofInt_eq_ofNat], hS⟩)
      · cases h
    · rename_i j
      cases h
      exact sLdcS (len := 2) hx hb hown hc he (Or.inl ⟨rfl, hd⟩) (k _ List.mem_cons_self ρ ws H locs _ List.prefix_rfl List.prefix_rfl hs hG hpt ⟨by show Value.ref _ = Value.ref _; congr 2, hS⟩)
    · cases h
  case ldc_w i =>
    simp only [sHp] at h
    simp only [sEntH] at he
    split at h
    · rename_i pos v
      split at h
      · cases h
        exact lv_ldcw hx hb hown (hts _ (sAt_ok he)) hd (k _ List.mem_cons_self ρ ws H locs _ List.prefix_rfl List.prefix_rfl hs hG hpt ⟨by show Value.int _ = Value.int _; rw [Int32.ofInt_eq_ofNat], hS⟩)
      · cases h
    · rename_i j
      cases h
      exact sLdcS (len := 3) hx hb hown hc he (Or.inr ⟨rfl, hd⟩) (k _ List.mem_cons_self ρ ws H locs _ List.prefix_rfl List.prefix_rfl hs hG hpt ⟨by show Value.ref _ = Value.ref _; congr 2, hS⟩)
    · cases h
  case ldc2_w i =>
    simp only [sHp] at h
    simp only [sEntH] at he
    split at h
    · rename_i pos v
      cases h
      exact lv_ldc2 hx hb hown (hts _ (sAt_ok he)) hd (k _ List.mem_cons_self ρ ws H locs _ List.prefix_rfl List.prefix_rfl hs hG hpt ⟨by show Value.long _ = Value.long _; rw [Int64.ofInt_eq_ofNat], hS⟩)
    · cases h
  all_goals exact absurd h (by simp [sHp])
end SHY
end
