noncomputable section
/-! ===== a method's contract out of its walk ===== -/
theorem sNarC {v : Int32} (h0 : 0 ≤ v.toInt) (h1 : v.toInt ≤ 65535) : narrow .char (.int v) = .int v := by
  show Value.int v.toUInt32.toUInt16.toUInt32.toInt32 = .int v
  congr 1
  obtain ⟨a1, a2⟩ := sTn h0
  apply Int32.toInt_inj.mp
  have e : (v.toUInt32.toUInt16.toUInt32.toInt32).toBitVec.toNat = v.toBitVec.toNat % 65536 := by
    show (v.toUInt32.toUInt16.toUInt32).toNat = v.toUInt32.toNat % 65536
    rw [UInt16.toNat_toUInt32, UInt32.toNat_toUInt16]
  rw [Nat.mod_eq_of_lt (by omega)] at e
  rw [sNt (by omega), e, a1]
theorem sNarB {v : Int32} (h0 : -128 ≤ v.toInt) (h1 : v.toInt ≤ 127) : narrow .byte (.int v) = .int v := by
  show Value.int v.toInt8.toInt32 = .int v
  congr 1
  apply Int32.toInt_inj.mp
  rw [Int8.toInt_toInt32, Int32.toInt_toInt8]
  exact Int.bmod_eq_of_le (by omega) (by omega)
section SMT
def sQc (ρ : List Int) (ex : Nat → Nat) (g : sG) (n0 L : Nat) (sc : Nat → Int32) (ws : va_W) (outs : List sOc) : Array Value → State → Outcome → State → Prop := fun _ st oc t =>
  ∃ (o : sOc) (ρ' : List Int) (ws' : va_W) (v : Option Value), o ∈ outs ∧ o.1 = 0 ∧ ρ <+: ρ' ∧ sCok ρ' o.2.1 ∧ (∀ f ∈ o.2.2.1, sWf (sAc ws') L sc ρ' f) ∧ ws.map Prod.fst <+: ws'.map Prod.fst ∧ sRW ρ' ex g o.2.2.2.1 ws' ∧ va_P g.1 vwCl ws' t.heap ∧ va_D (fun q => n0 ≤ q) ws' ∧ va_F (fun q => n0 ≤ q) st t ∧ oc = .returned v ∧ sA2 (sRep ρ' (ws'.map Prod.fst) ex) o.2.2.2.2.1 v.toList
def sXc (ρ : List Int) (ex : Nat → Nat) (g : sG) (n0 L : Nat) (sc : Nat → Int32) (ws : va_W) (outs : List sOc) : String → State → State → Prop := fun E st t =>
  ∃ (o : sOc) (ρ' : List Int) (ws' : va_W), o ∈ outs ∧ o.1 ≠ 0 ∧ E = sEx o.2.2.2.2.2 ∧ ρ <+: ρ' ∧ sCok ρ' o.2.1 ∧ (∀ f ∈ o.2.2.1, sWf (sAc ws') L sc ρ' f) ∧ ws.map Prod.fst <+: ws'.map Prod.fst ∧ sRW ρ' ex g o.2.2.2.1 ws' ∧ va_P g.1 vwCl ws' t.heap ∧ va_D (fun q => n0 ≤ q) ws' ∧ va_F (fun q => n0 ≤ q) st t
/-- what holds at an end is one of the outs -/
def sTo (ρ0 : List Int) (ex : Nat → Nat) (g : sG) (L : Nat) (sc : Nat → Int32) (outs : List sOc) (kd x : Nat) (κ : sCx) (G : List sFc) (wd : List sC) (r : List sV) : Prop :=
  ∀ (ρ : List Int) (ws : va_W) (vr : List Value), ρ0 <+: ρ → sCok ρ κ → (∀ f ∈ G, sWf (sAc ws) L sc ρ f) → sRW ρ ex g wd ws → sA2 (sRep ρ (ws.map Prod.fst) ex) r vr → ∃ (o : sOc) (ρ' : List Int), o ∈ outs ∧ (kd = 0 ↔ o.1 = 0) ∧ (kd ≠ 0 → o.2.2.2.2.2 = x) ∧ ρ0 <+: ρ' ∧ sCok ρ' o.2.1 ∧ (∀ f ∈ o.2.2.1, sWf (sAc ws) L sc ρ' f) ∧ sRW ρ' ex g o.2.2.2.1 ws ∧ (kd = 0 → sA2 (sRep ρ' (ws.map Prod.fst) ex) o.2.2.2.2.1 vr)
theorem sArgs_ok {ρ : List Int} {ads : List Nat} {ex : Nat → Nat} : ∀ (i : Nat) (xs : List sV) (vs : List Value), sA2 (sRep ρ ads ex) xs vs → sA2 (sRL ρ ads ex) (sArgs i xs) (lv_args i vs)
  | _, [], [], _ => trivial
  | i, x :: xs, v :: vs, ⟨h1, h2⟩ => by
    refine ⟨⟨rfl, h1⟩, ?_⟩
    have e1 : (if v.category = 2 then i + 2 else i + 1) = (if sK x = 1 then i + 2 else i + 1) := by
      rw [sRep_cat h1]
      by_cases e : sK x = 1
      · simp [e]
      · simp [e]
    rw [e1]
    exact sArgs_ok _ xs vs h2
  | _, [], _ :: _, q => q.elim
  | _, _ :: _, [], q => q.elim
theorem sSl_len : ∀ vs : List Value, (lg_sl vs).length = (vs.map fun v => v.category).sum
  | [] => rfl
  | v :: t => by
    have ih := sSl_len t
    unfold lg_sl at ih ⊢
    rw [List.flatMap_cons, List.length_append, ih, List.map_cons, List.sum_cons]
    rcases lv_cat v with h | h <;> simp [h]
theorem sWin_ok {ρ : List Int} {ads : List Nat} {ex : Nat → Nat} {nx : Nat} {env : sE} (hs : sOk ρ nx env) {x : sV} {v : Value} {a b : Int} (h : sRep ρ ads ex x v) (hw : sWin env x a b = true) : ∃ y : Int32, v = .int y ∧ a ≤ y.toInt ∧ y.toInt ≤ b := by
  simp only [sWin, Bool.and_eq_true, decide_eq_true_eq] at hw
  obtain ⟨hk, hw⟩ := hw
  split at hw
  · rename_i lo hi hr
    simp only [Bool.and_eq_true, decide_eq_true_eq] at hw
    obtain ⟨y, rfl, h1, h2, -⟩ := sRg_ok hs h hk hr
    exact ⟨y, rfl, by omega, by omega⟩
  · cases hw
theorem sRv_inv {ρ : List Int} {ads : List Nat} {ex : Nat → Nat} {nx : Nat} {env : sE} (hs : sOk ρ nx env) {ret : Option FieldType} {st r : List sV} {vs : List Value} (hS : sA2 (sRep ρ ads ex) st vs) (h : sRv ret env st = some r) :
    (ret = none ∧ r = [] ∧ vs = []) ∨ (ret = some .int ∧ ∃ y : Int32, vs = [.int y] ∧ sA2 (sRep ρ ads ex) r [.int y]) ∨ (∃ ty, ret = some ty ∧ (ty = .boolean ∨ ty = .char ∨ ty = .byte) ∧ ∃ y : Int32, vs = [.int y] ∧ narrow ty (.int y) = .int y ∧ sA2 (sRep ρ ads ex) r [.int y]) ∨ (∃ n, ret = some (.object n) ∧ ∃ a : Nat, vs = [.ref a] ∧ sA2 (sRep ρ ads ex) r [.ref a]) := by
  unfold sRv at h
  split at h
  · split at h
    · cases h
      exact Or.inl ⟨rfl, rfl, sA2_nil hS⟩
    · cases h
  · split at h
    · rename_i x
      split at h
      · rename_i hk
        cases h
        obtain ⟨v, vs1, rfl, h1, h2⟩ := sA2_cons hS
        have := sA2_nil h2
        subst this
        obtain ⟨y, rfl⟩ := sRep_iv h1 hk
        exact Or.inr (Or.inl ⟨rfl, y, rfl, sN_ok hs h1, trivial⟩)
      · cases h
    · cases h
  · split at h
    · rename_i x
      split at h
      · rename_i hk
        cases h
        obtain ⟨v, vs1, rfl, h1, h2⟩ := sA2_cons hS
        have := sA2_nil h2
        subst this
        have h3 := sN_ok hs h1
        rcases sB01_ok hs h3 hk with rfl | rfl
        · exact Or.inr (Or.inr (Or.inl ⟨.boolean, rfl, Or.inl rfl, _, rfl, rfl, h3, trivial⟩))
        · exact Or.inr (Or.inr (Or.inl ⟨.boolean, rfl, Or.inl rfl, _, rfl, rfl, h3, trivial⟩))
      · cases h
    · cases h
  · split at h
    · rename_i x
      split at h
      · rename_i hk
        cases h
        obtain ⟨v, vs1, rfl, h1, h2⟩ := sA2_cons hS
        have := sA2_nil h2
        subst this
        obtain ⟨y, rfl, y1, y2⟩ := sWin_ok hs h1 hk
        exact Or.inr (Or.inr (Or.inl ⟨.char, rfl, Or.inr (Or.inl rfl), _, rfl, sNarC y1 y2, sN_ok hs h1, trivial⟩))
      · cases h
    · cases h
  · split at h
    · rename_i x
      split at h
      · rename_i hk
        cases h
        obtain ⟨v, vs1, rfl, h1, h2⟩ := sA2_cons hS
        have := sA2_nil h2
        subst this
        obtain ⟨y, rfl, y1, y2⟩ := sWin_ok hs h1 hk
        exact Or.inr (Or.inr (Or.inl ⟨.byte, rfl, Or.inr (Or.inr rfl), _, rfl, sNarB y1 y2, sN_ok hs h1, trivial⟩))
      · cases h
    · cases h
  · split at h
    · rename_i n x
      split at h
      · rename_i hk
        cases h
        obtain ⟨v, vs1, rfl, h1, h2⟩ := sA2_cons hS
        have := sA2_nil h2
        subst this
        obtain ⟨a, rfl⟩ := sRep_ref h1 hk
        exact Or.inr (Or.inr (Or.inr ⟨_, rfl, a, rfl, h1, trivial⟩))
      · cases h
    · cases h
  · cases h
variable {p : Program} {l : Launch} {e : Env} {Rm : Room} {s : State} {m : MethodId} {args : Array Value} {below : List Frame} {meth : Method} {c : Code} {ρ0 ρ : List Int} {ex : Nat → Nat} {g : sG} {n0 L d mi mc ms : Nat} {sc : Nat → Int32} {ws : va_W} {M : sMd} {PT : List sMd} {outs : List sOc} {cuts : List Nat}
theorem sRet_ok {o : sO} (hF : sFix p l Rm s m args meth c M d ex g n0 L sc) (h0 : o.1 = 0) (hcm : sCm o mc ms) (hoi : sOi PT mi cuts o) (hM : PT[mi]? = some M) (hto : ∀ r, sRv (mR M) o.2.1.1.2.1 o.2.1.2.2.2.2.2.1 = some r → sTo ρ0 ex g L sc outs 0 0 o.2.1.1 o.2.1.2.1 o.2.1.2.2.1 r) {ws' : va_W} {H' : Heap} {locs' : List Loc} {ls' : Array Slot} {vs' : List Value} (hr0 : ρ0 <+: ρ) (hp : ws.map Prod.fst <+: ws'.map Prod.fst) (hs : sCok ρ o.2.1.1) (hG : ∀ f ∈ o.2.1.2.1, sWf (sAc ws') L sc ρ f) (hpt : sPt ρ ex g (fun q => n0 ≤ q) o.2.1.2.2.1 ws' H' s.heap locs') (hS : sA2 (sRep ρ (ws'.map Prod.fst) ex) o.2.1.2.2.2.2.2.1 vs') :
    W p l e Rm s m args below meth c H' locs' o.2.1.2.2.2.2.2.2.1 o.2.1.2.2.2.2.2.2.2 (vx_MQ below (sQc ρ0 ex g n0 L sc ws outs) (sXc ρ0 ex g n0 L sc ws outs) args s mc ms (fun q => n0 ≤ q)) (F0 m o.2.1.2.2.2.1 ls' vs') := by
  obtain ⟨hx, hb, hml, hown, hts, hmn, hlk, htb, hfr, hlo, hst, hc, hrt⟩ := hF
  obtain ⟨ins, r, hd, hri, hrv⟩ := (hoi M hM).1 h0
  have hQ : ∀ (v : Option Value) (t : State), sA2 (sRep ρ (ws'.map Prod.fst) ex) r v.toList → t.heap = H' → sQc ρ0 ex g n0 L sc ws outs args s (.returned v) t := fun v t hr ht => by
    obtain ⟨o', ρ', ho', hk, -, hr', hs', hG', hrw', hrr⟩ := hto r hrv ρ ws' v.toList hr0 hs hG hpt.1 hr
    exact ⟨o', ρ', ws', v, ho', hk.mp rfl, hr', hs', hG', hp, hrw', by rw [ht]; exact hpt.2.1, hpt.2.2.1, hpt.2.2.2.F ht, rfl, hrr rfl⟩
  have hf : ∀ q ∈ locs', n0 ≤ q.base := hpt.2.2.2.2.2
  refine W.widen hcm.1 hcm.2.1 (vx_ret ?_)
  rcases sRv_inv hs.1 hS hrv with ⟨e1, rfl, rfl⟩ | ⟨e1, y, rfl, hr⟩ | ⟨ty, e1, hty, y, rfl, hn, hr⟩ | ⟨n, e1, a, rfl, hr⟩
  · rw [e1] at hri
    cases ins <;> simp [sRetI] at hri
    exact W.vret hx hb (hrt.trans e1) (fun t ht _ => hQ none t trivial ht) hf hd hlk
  · rw [e1] at hri
    cases ins <;> simp [sRetI] at hri
    exact W.iret hx hb (hrt.trans e1) (fun t ht _ => hQ (some (.int y)) t hr ht) hf hd hlk
  · rw [e1] at hri
    have hi : ins = .ireturn := by
      rcases hty with rfl | rfl | rfl <;> (cases ins <;> simp [sRetI] at hri <;> rfl)
    subst hi
    exact W.zret hx hb (hrt.trans e1) hn (fun t ht _ => hQ (some (.int y)) t hr ht) hf hd hlk
  · rw [e1] at hri
    cases ins <;> simp [sRetI] at hri
    exact W.aret hx hb (hrt.trans e1) (Or.inl ⟨n, rfl⟩) (Or.inr ⟨a, rfl⟩) (fun t ht _ => hQ (some (.ref a)) t hr ht) hf hd hlk
theorem sThrow_ok {o : sO} (hF : sFix p l Rm s m args meth c M d ex g n0 L sc) (hmc : mc ≤ Rm.cells) (hms : ms ≤ Rm.slots) (hne : ∀ x ∈ c.exceptionTable.toList, False) (h1 : o.1 = 1) (hcm : sCm o mc ms) (hoi : sOi PT mi cuts o) (hM : PT[mi]? = some M) (hto : sTo ρ0 ex g L sc outs 1 o.2.2 o.2.1.1 o.2.1.2.1 o.2.1.2.2.1 []) {ws' : va_W} {H' : Heap} {locs' : List Loc} {ls' : Array Slot} {vs' : List Value} (hr0 : ρ0 <+: ρ) (hp : ws.map Prod.fst <+: ws'.map Prod.fst) (hsat : sCok ρ o.2.1.1) (hG : ∀ f ∈ o.2.1.2.1, sWf (sAc ws') L sc ρ f) (hpt : sPt ρ ex g (fun q => n0 ≤ q) o.2.1.2.2.1 ws' H' s.heap locs') (hsz : ls'.size = mL M) (hS : sA2 (sRep ρ (ws'.map Prod.fst) ex) o.2.1.2.2.2.2.2.1 vs') :
    W p l e Rm s m args below meth c H' locs' o.2.1.2.2.2.2.2.2.1 o.2.1.2.2.2.2.2.2.2 (vx_MQ below (sQc ρ0 ex g n0 L sc ws outs) (sXc ρ0 ex g n0 L sc ws outs) args s mc ms (fun q => n0 ≤ q)) (F0 m o.2.1.2.2.2.1 ls' vs') := by
  obtain ⟨hx, hb, hml, hown, hts, hmn, hlk, htb, hfr, hlo, hst, hc, hrt⟩ := hF
  obtain ⟨i, j, w, hd, hex, hsum, -⟩ := (hoi M hM).2.1 h1
  obtain ⟨hcc, hcs⟩ := hcm.2.2 h1
  have hf : ∀ q ∈ locs', n0 ≤ q.base := hpt.2.2.2.2.2
  have hsm := sSum_ok _ _ hS
  have hX : ∀ (E : String), E = sEx o.2.2 → ∀ t : State, s.vm.Alike t.vm → H'.size ≤ t.heap.size → (∀ q : Nat, q < H'.size → t.heap[q]? = H'[q]?) → sXc ρ0 ex g n0 L sc ws outs E s t := fun E hE t _ t1 t2 => by
    obtain ⟨o', ρ', ho', hk, hx', hr', hs', hG', hrw', -⟩ := hto ρ ws' [] hr0 hsat hG hpt.1 trivial
    exact ⟨o', ρ', ws', ho', (fun q => absurd (hk.mpr q) (by decide)), by rw [hx' (by decide)]; exact hE, hr', hs', hG', hp, hrw', hpt.2.1.kept (fun k q hk => t2 q.1 ((hpt.2.1 k q hk).lt)), hpt.2.2.1, ⟨Nat.le_trans hpt.2.2.2.1 t1, fun q hq hA => (t2 q (Nat.lt_of_lt_of_le hq hpt.2.2.2.1)).trans (hpt.2.2.2.2.1 q hq hA)⟩⟩
  obtain ⟨hK, hstr, hnest, hcast, hao, hzu, hzn, hXx, hb1, hb2, hnc, hdcl, htx⟩ := hc
  simp only [sEntX, Bool.and_eq_true, decide_eq_true_eq] at hex
  obtain ⟨hwd, hdup, hex⟩ := hex
  rw [hwd] at hown
  split at hex
  · rename_i q hq
    simp only [Bool.and_eq_true, decide_eq_true_eq] at hex
    obtain ⟨hqo, hex⟩ := hex
    have hsr := (hstr _ _ hq).1
    rw [hqo, hwd] at hsr
    have hld : ∀ ic : Nat, sLdc (mC M) o.2.1.2.2.2.1 q.2.1 ic w = true → ∃ ww : Nat, ((ww = 2 ∧ decode (mC M) (o.2.1.2.2.2.1 + 4) = .ok (.ldc q.2.1, 2)) ∨ (ww = 3 ∧ decode (mC M) (o.2.1.2.2.2.1 + 4) = .ok (.ldc_w q.2.1, 3))) ∧ decode (mC M) (o.2.1.2.2.2.1 + 4 + ww) = .ok (.invokespecial ic, 3) ∧ decode (mC M) (o.2.1.2.2.2.1 + 4 + ww + 3) = .ok (.athrow, 1) := by
      intro ic h
      unfold sLdc at h
      split at h
      · simp only [Bool.and_eq_true, decide_eq_true_eq] at h
        exact ⟨2, Or.inl ⟨rfl, h.1⟩, h.2.1, h.2.2⟩
      · simp only [Bool.and_eq_true, decide_eq_true_eq] at h
        exact ⟨3, Or.inr ⟨rfl, h.1⟩, h.2.1, h.2.2⟩
    split at hex
    · rename_i e0
      simp only [Bool.and_eq_true, decide_eq_true_eq] at hex
      obtain ⟨rfl, hex⟩ := hex
      obtain ⟨ww, d4, d6, d9⟩ := hld 80 hex
      exact ny_throw (own := "WavingDesks") (cls := sIAE) (Y0 := "java/lang/RuntimeException") (ix := 7) (bts := Bundle.six) (names := nyN) (ic := 80) hx hb hst hown nyF0.1 nyF0.2.2 nyFN nyC0.1 nyC0.2.1 nyC0.2.2.1 nyC0.2.2.2 (hts _ nyK0.1) (hts _ nyK0.2) hsr (nyW hts nyG0 nyN0 (hcast _ List.mem_cons_self) hdcl) nyO0 hzu hzn hpt.2.2.2 (hsz.trans hml.symm) hd hdup d4 d6 d9 hne
        (by show 1 + 4 < _; omega) (by rw [hsm]; show _ + (13 * (1 + 2) + 43) ≤ _; omega) (by omega) (by omega) hlk (hX sIAE (by rw [e0]; rfl)) hf hcc hcs
    · rename_i e0
      simp only [Bool.and_eq_true, decide_eq_true_eq] at hex
      obtain ⟨rfl, hex⟩ := hex
      obtain ⟨ww, d4, d6, d9⟩ := hld 163 hex
      exact ny_throw (own := "WavingDesks") (cls := sNSE) (Y0 := "java/lang/RuntimeException") (ix := 13) (bts := prog_29_method_4_code) (names := nyN) (ic := 163) hx hb hst hown nyF0.2.1 nyF0.2.2 nyFN nyC1.1 nyC1.2.1 nyC1.2.2.1 nyC1.2.2.2 (hts _ nyK1.1) (hts _ nyK1.2) hsr (nyW hts nyG1 nyN1 (hcast _ (List.mem_cons_of_mem _ List.mem_cons_self)) hdcl) nyO1 hzu hzn hpt.2.2.2 (hsz.trans hml.symm) hd hdup d4 d6 d9 hne
        (by show 1 + 4 < _; omega) (by rw [hsm]; show _ + (13 * (1 + 2) + 43) ≤ _; omega) (by omega) (by omega) hlk (hX sNSE (by rw [e0]; rfl)) hf hcc hcs
    · cases hex
  · cases hex
/-- an end of the walk is an end of the method -/
def sEo (ρ0 : List Int) (ex : Nat → Nat) (g : sG) (L : Nat) (sc : Nat → Int32) (M : sMd) (outs : List sOc) (o : sO) : Prop :=
  (o.1 = 0 → ∀ r, sRv (mR M) o.2.1.1.2.1 o.2.1.2.2.2.2.2.1 = some r → sTo ρ0 ex g L sc outs 0 0 o.2.1.1 o.2.1.2.1 o.2.1.2.2.1 r) ∧ ((o.1 = 1 ∨ o.1 = 2) → sTo ρ0 ex g L sc outs 1 o.2.2 o.2.1.1 o.2.1.2.1 o.2.1.2.2.1 [])
theorem sEnd_ok {o : sO} (hF : sFix p l Rm s m args meth c M d ex g n0 L sc) (hmc : mc ≤ Rm.cells) (hms : ms ≤ Rm.slots) (hcm : sCm o mc ms) (hoi : sOi PT mi cuts o) (hM : PT[mi]? = some M) (h3 : o.1 ≠ 3) (heo : sEo ρ0 ex g L sc M outs o) (hr0 : ρ0 <+: ρ) {ws1 : va_W} (hws : ws.map Prod.fst <+: ws1.map Prod.fst) :
    sKo p l e Rm s m args below meth c (vx_MQ below (sQc ρ0 ex g n0 L sc ws outs) (sXc ρ0 ex g n0 L sc ws outs) args s mc ms (fun q => n0 ≤ q)) M ρ ex g n0 L sc 0 0 ws1 o := by
  intro ρ' ws' H' locs' ls' lc' vs' hr hp hsat hG hpt hl' hL' hS'
  have hrr := hr0.trans hr
  have hpp := hws.trans hp
  refine ⟨fun hne => ?_, fun h2 q ce hce hcv hcl => ?_⟩
  · have hle := (hoi M hM).2.2.2.2
    rcases (by omega : o.1 = 0 ∨ o.1 = 1) with h0 | h1
    · exact sRet_ok hF h0 hcm hoi hM (heo.1 h0) hrr hpp hsat hG hpt hS'
    · refine sThrow_ok hF hmc hms ?_ h1 hcm hoi hM (heo.2 (Or.inl h1)) hrr hpp hsat hG hpt hl'.1 hS'
      obtain ⟨_, _, _, -, -, -, hmh⟩ := (hoi M hM).2.1 h1
      have htb := hF.2.2.2.2.2.2.2.1
      rw [hmh] at htb
      intro x hx
      rw [htb] at hx
      cases hx
  · have htb := hF.2.2.2.2.2.2.2.1
    rw [(hoi M hM).2.2.1 h2] at htb
    obtain ⟨o', ρ'', ho', hk, hx', hr', hs', hG', hrw', -⟩ := heo.2 (Or.inr h2) ρ' ws' [] hrr hsat hG hpt.1 trivial
    exact vx_out (fun x hx => by rw [htb] at hx; cases hx) hF.2.2.2.2.2.2.1 hce hcv hcl (fun t ht _ => ⟨o', ρ'', ws', ho', (fun q => absurd (hk.mpr q) (by decide)), by rw [hx' (by decide)], hr', hs', hG', hpp, hrw', by rw [ht]; exact hpt.2.1, hpt.2.2.1, hpt.2.2.2.F ht⟩) hpt.2.2.2.2.2 hcm.1 hcm.2.1
end SMT
end
