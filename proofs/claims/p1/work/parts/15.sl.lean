/-! ===== a method's contract out of its walk ===== -/
section SMT
def sQc (ρ : Nat → Int32) (ex : Nat → Nat) (g : sG) (n0 : Nat) (ws : va_W) (ret : Option FieldType) (outs : List sO) : Array Value → State → Outcome → State → Prop := fun _ st oc t =>
  ∃ (o : sO) (ws' : va_W) (v : Option Value) (r : List sV), o ∈ outs ∧ o.1 = 0 ∧ sSat ρ o.2.1.1 ∧ ws.map Prod.fst <+: ws'.map Prod.fst ∧ sRW ρ ex g o.2.1.2.1 ws' ∧ va_P g.1 vwCl ws' t.heap ∧ va_D (fun q => n0 ≤ q) ws' ∧ va_F (fun q => n0 ≤ q) st t ∧ oc = .returned v ∧ sRv ret o.2.1.1 o.2.1.2.2.2.2.1 = some r ∧ sA2 (sRep ρ (ws'.map Prod.fst) ex) r v.toList
def sXc (ρ : Nat → Int32) (ex : Nat → Nat) (g : sG) (n0 : Nat) (ws : va_W) (outs : List sO) : String → State → State → Prop := fun E st t =>
  ∃ (o : sO) (ws' : va_W), o ∈ outs ∧ (o.1 = 1 ∨ o.1 = 2) ∧ E = sEx o.2.2 ∧ sSat ρ o.2.1.1 ∧ ws.map Prod.fst <+: ws'.map Prod.fst ∧ sRW ρ ex g o.2.1.2.1 ws' ∧ va_P g.1 vwCl ws' t.heap ∧ va_D (fun q => n0 ≤ q) ws' ∧ va_F (fun q => n0 ≤ q) st t
theorem sArgs_ok {ρ : Nat → Int32} {ads : List Nat} {ex : Nat → Nat} : ∀ (i : Nat) (xs : List sV) (vs : List Value), sA2 (sRep ρ ads ex) xs vs → sA2 (sRL ρ ads ex) (sArgs i xs) (lv_args i vs)
  | _, [], [], _ => trivial
  | i, x :: xs, v :: vs, ⟨h1, h2⟩ => by
    refine ⟨⟨rfl, h1⟩, ?_⟩
    have e1 : (if v.category = 2 then i + 2 else i + 1) = (if sK x = 1 then i + 2 else i + 1) := by
      rw [sRep_cat h1]
      by_cases e : sK x = 1
      · simp [e]
      · simp [e]
    rw [e1]
    exact sArgs_ok _ xs vs h2
  | _, [], _ :: _, q => q.elim
  | _, _ :: _, [], q => q.elim
theorem sSl_len : ∀ vs : List Value, (lg_sl vs).length = (vs.map fun v => v.category).sum
  | [] => rfl
  | v :: t => by
    have ih := sSl_len t
    unfold lg_sl at ih ⊢
    rw [List.flatMap_cons, List.length_append, ih, List.map_cons, List.sum_cons]
    rcases lv_cat v with h | h <;> simp [h]
theorem sRv_inv {ρ : Nat → Int32} {ads : List Nat} {ex : Nat → Nat} {env : sE} (hs : sSat ρ env) {ret : Option FieldType} {st r : List sV} {vs : List Value} (hS : sA2 (sRep ρ ads ex) st vs) (h : sRv ret env st = some r) :
    (ret = none ∧ r = [] ∧ vs = []) ∨ (ret = some .int ∧ ∃ y : Int32, vs = [.int y] ∧ sA2 (sRep ρ ads ex) r [.int y]) ∨ (ret = some .boolean ∧ ∃ y : Int32, vs = [.int y] ∧ narrow .boolean (.int y) = .int y ∧ sA2 (sRep ρ ads ex) r [.int y]) := by
  unfold sRv at h
  split at h
  · split at h
    · cases h
      exact Or.inl ⟨rfl, rfl, sA2_nil hS⟩
    · cases h
  · split at h
    · rename_i x
      split at h
      · rename_i hk
        cases h
        obtain ⟨v, vs1, rfl, h1, h2⟩ := sA2_cons hS
        have := sA2_nil h2
        subst this
        obtain ⟨y, rfl⟩ := sRep_int h1 hk
        exact Or.inr (Or.inl ⟨rfl, y, rfl, sN_ok hs h1, trivial⟩)
      · cases h
    · cases h
  · split at h
    · rename_i x
      split at h
      · rename_i hk
        cases h
        obtain ⟨v, vs1, rfl, h1, h2⟩ := sA2_cons hS
        have := sA2_nil h2
        subst this
        have h3 := sN_ok hs h1
        simp only [sBool, Bool.or_eq_true, decide_eq_true_eq] at hk
        rcases hk with hk | hk
        · rw [hk] at h3 ⊢
          simp only [sRep] at h3
          subst h3
          exact Or.inr (Or.inr ⟨rfl, _, rfl, rfl, rfl, trivial⟩)
        · rw [hk] at h3 ⊢
          simp only [sRep] at h3
          subst h3
          exact Or.inr (Or.inr ⟨rfl, _, rfl, rfl, rfl, trivial⟩)
      · cases h
    · cases h
  · cases h
variable {p : Program} {l : Launch} {e : Env} {Rm : Room} {s : State} {m : MethodId} {args : Array Value} {below : List Frame} {meth : Method} {c : Code} {ρ : Nat → Int32} {ex : Nat → Nat} {g : sG} {n0 d mi mc ms : Nat} {ws : va_W} {M : sMd} {PT : List sMd} {outs : List sO}
theorem sRet_ok {o : sO} (hF : sFix p l Rm s m args meth c M d ρ ex g n0) (ho : o ∈ outs) (h0 : o.1 = 0) (hcm : sCm o mc ms) (hoi : sOi PT mi o) (hM : PT[mi]? = some M) {ws' : va_W} {H' : Heap} {locs' : List Loc} {ls' : Array Slot} {vs' : List Value} (hp : ws.map Prod.fst <+: ws'.map Prod.fst) (hsat : sSat ρ o.2.1.1) (hpt : sPt ρ ex g (fun q => n0 ≤ q) o.2.1.2.1 ws' H' s.heap locs') (hS : sA2 (sRep ρ (ws'.map Prod.fst) ex) o.2.1.2.2.2.2.1 vs') :
    W p l e Rm s m args below meth c H' locs' o.2.1.2.2.2.2.2.1 o.2.1.2.2.2.2.2.2 (vx_MQ below (sQc ρ ex g n0 ws (mR M) outs) (sXc ρ ex g n0 ws outs) args s mc ms (fun q => n0 ≤ q)) (F0 m o.2.1.2.2.1 ls' vs') := by
  obtain ⟨hx, hb, hml, hown, hts, hmn, hlk, htb, hfr, hlo, hst, hc, h6, hrt⟩ := hF
  obtain ⟨ins, r, hd, hri, hrv⟩ := (hoi M hM).1 h0
  have hQ : ∀ (v : Option Value) (t : State), sA2 (sRep ρ (ws'.map Prod.fst) ex) r v.toList → t.heap = H' → sQc ρ ex g n0 ws (mR M) outs args s (.returned v) t := fun v t hr ht =>
    ⟨o, ws', v, r, ho, h0, hsat, hp, hpt.1, by rw [ht]; exact hpt.2.1, hpt.2.2.1, hpt.2.2.2.F ht, rfl, hrv, hr⟩
  have hf : ∀ q ∈ locs', n0 ≤ q.base := hpt.2.2.2.2.2
  refine W.widen hcm.1 hcm.2.1 (vx_ret ?_)
  rcases sRv_inv hsat hS hrv with ⟨e1, rfl, rfl⟩ | ⟨e1, y, rfl, hr⟩ | ⟨e1, y, rfl, hn, hr⟩
  · rw [e1] at hri
    cases ins <;> simp [sRetI] at hri
    exact W.vret hx hb (hrt.trans e1) (fun t ht _ => hQ none t trivial ht) hf hd hlk
  · rw [e1] at hri
    cases ins <;> simp [sRetI] at hri
    exact W.iret hx hb (hrt.trans e1) (fun t ht _ => hQ (some (.int y)) t hr ht) hf hd hlk
  · rw [e1] at hri
    cases ins <;> simp [sRetI] at hri
    exact W.zret hx hb (hrt.trans e1) hn (fun t ht _ => hQ (some (.int y)) t hr ht) hf hd hlk
theorem sThrow_ok {o : sO} (hF : sFix p l Rm s m args meth c M d ρ ex g n0) (hmc : mc ≤ Rm.cells) (hms : ms ≤ Rm.slots) (hne : ∀ x ∈ c.exceptionTable.toList, False) (ho : o ∈ outs) (h1 : o.1 = 1) (hcm : sCm o mc ms) (hoi : sOi PT mi o) (hM : PT[mi]? = some M) {ws' : va_W} {H' : Heap} {locs' : List Loc} {ls' : Array Slot} {vs' : List Value} (hp : ws.map Prod.fst <+: ws'.map Prod.fst) (hsat : sSat ρ o.2.1.1) (hpt : sPt ρ ex g (fun q => n0 ≤ q) o.2.1.2.1 ws' H' s.heap locs') (hsz : ls'.size = mL M) (hS : sA2 (sRep ρ (ws'.map Prod.fst) ex) o.2.1.2.2.2.2.1 vs') :
    W p l e Rm s m args below meth c H' locs' o.2.1.2.2.2.2.2.1 o.2.1.2.2.2.2.2.2 (vx_MQ below (sQc ρ ex g n0 ws (mR M) outs) (sXc ρ ex g n0 ws outs) args s mc ms (fun q => n0 ≤ q)) (F0 m o.2.1.2.2.1 ls' vs') := by
  obtain ⟨hx, hb, hml, hown, hts, hmn, hlk, htb, hfr, hlo, hst, hc, h6, hrt⟩ := hF
  obtain ⟨i, j, w, hd, hex, hsum, -⟩ := (hoi M hM).2.1 h1
  obtain ⟨hcc, hcs⟩ := hcm.2.2 h1
  have hf : ∀ q ∈ locs', n0 ≤ q.base := hpt.2.2.2.2.2
  have hsm := sSum_ok _ _ hS
  have hX : ∀ (E : String), E = sEx o.2.2 → ∀ t : State, s.vm.Alike t.vm → H'.size ≤ t.heap.size → (∀ q : Nat, q < H'.size → t.heap[q]? = H'[q]?) → sXc ρ ex g n0 ws outs E s t := fun E hE t _ t1 t2 =>
    ⟨o, ws', ho, Or.inl h1, hE, hsat, hp, hpt.1, hpt.2.1.kept (fun k q hk => t2 q.1 ((hpt.2.1 k q hk).lt)), hpt.2.2.1, ⟨Nat.le_trans hpt.2.2.2.1 t1, fun q hq hA => (t2 q (Nat.lt_of_lt_of_le hq hpt.2.2.2.1)).trans (hpt.2.2.2.2.1 q hq hA)⟩⟩
  obtain ⟨hK, hstr, hnest, hcast, hao, hzu, hzn, hXx, hb1, hb2, hnc, hdcl⟩ := hc
  simp only [sEntX, Bool.and_eq_true, decide_eq_true_eq] at hex
  obtain ⟨hwd, hdup, hex⟩ := hex
  rw [hwd] at hown
  split at hex
  · rename_i q hq
    simp only [Bool.and_eq_true, decide_eq_true_eq] at hex
    obtain ⟨hqo, hex⟩ := hex
    have hsr := (hstr _ _ hq).1
    rw [hqo, hwd] at hsr
    have hld : ∀ ic : Nat, sLdc (mC M) o.2.1.2.2.1 q.2.1 ic w = true → ∃ ww : Nat, ((ww = 2 ∧ decode (mC M) (o.2.1.2.2.1 + 4) = .ok (.ldc q.2.1, 2)) ∨ (ww = 3 ∧ decode (mC M) (o.2.1.2.2.1 + 4) = .ok (.ldc_w q.2.1, 3))) ∧ decode (mC M) (o.2.1.2.2.1 + 4 + ww) = .ok (.invokespecial ic, 3) ∧ decode (mC M) (o.2.1.2.2.1 + 4 + ww + 3) = .ok (.athrow, 1) := by
      intro ic h
      unfold sLdc at h
      split at h
      · simp only [Bool.and_eq_true, decide_eq_true_eq] at h
        exact ⟨2, Or.inl ⟨rfl, h.1⟩, h.2.1, h.2.2⟩
      · simp only [Bool.and_eq_true, decide_eq_true_eq] at h
        exact ⟨3, Or.inr ⟨rfl, h.1⟩, h.2.1, h.2.2⟩
    split at hex
    · rename_i e0
      simp only [Bool.and_eq_true, decide_eq_true_eq] at hex
      obtain ⟨rfl, hex⟩ := hex
      obtain ⟨ww, d4, d6, d9⟩ := hld 80 hex
      exact ny_throw (own := "WavingDesks") (cls := sIAE) (Y0 := "java/lang/RuntimeException") (ix := 7) (bts := Bundle.six) (names := nyN) (ic := 80) hx hb hst hown nyF0.1 nyF0.2.2 nyFN nyC0.1 nyC0.2.1 nyC0.2.2.1 nyC0.2.2.2 (hts _ nyK0.1) (hts _ nyK0.2) hsr (nyW hts nyG0 nyN0 (hcast _ List.mem_cons_self) hdcl) nyO0 hzu hzn hpt.2.2.2 (hsz.trans hml.symm) hd hdup d4 d6 d9 hne
        (by show 1 + 4 < _; omega) (by rw [hsm]; show _ + (13 * (1 + 2) + 43) ≤ _; omega) (by omega) (by omega) hlk (hX sIAE (by rw [e0]; rfl)) hf hcc hcs
    · rename_i e0
      simp only [Bool.and_eq_true, decide_eq_true_eq] at hex
      obtain ⟨rfl, hex⟩ := hex
      obtain ⟨ww, d4, d6, d9⟩ := hld 163 hex
      exact ny_throw (own := "WavingDesks") (cls := sNSE) (Y0 := "java/lang/RuntimeException") (ix := 13) (bts := prog_29_method_4_code) (names := nyN) (ic := 163) hx hb hst hown nyF0.2.1 nyF0.2.2 nyFN nyC1.1 nyC1.2.1 nyC1.2.2.1 nyC1.2.2.2 (hts _ nyK1.1) (hts _ nyK1.2) hsr (nyW hts nyG1 nyN1 (hcast _ (List.mem_cons_of_mem _ List.mem_cons_self)) hdcl) nyO1 hzu hzn hpt.2.2.2 (hsz.trans hml.symm) hd hdup d4 d6 d9 hne
        (by show 1 + 4 < _; omega) (by rw [hsm]; show _ + (13 * (1 + 2) + 43) ≤ _; omega) (by omega) (by omega) hlk (hX sNSE (by rw [e0]; rfl)) hf hcc hcs
    · cases hex
  · cases hex
/-- a method's body, from its entry -/
theorem sBody {env : sE} {wd : List sC} {As : List sV} {Av : List Value} (hw : sWalk PT d mi (env, wd, 0, sArgs 0 As, [], 0, 0) outs mc ms) (hoi : ∀ o ∈ outs, sCm o mc ms ∧ sOi PT mi o) (hM : PT[mi]? = some M) (h3 : ∀ o ∈ outs, o.1 ≠ 3) (hx1 : (∀ x ∈ c.exceptionTable.toList, False) ∨ ∀ o ∈ outs, o.1 ≠ 1)
    (hF : sFix p l Rm s m Av.toArray meth c M d ρ ex g n0) (hmc : mc ≤ Rm.cells) (hms : ms ≤ Rm.slots) (hs : sSat ρ env) (hA : sA2 (sRep ρ (ws.map Prod.fst) ex) As Av) (hsum : sSum As ≤ mL M) (hrw : sRW ρ ex g wd ws) (hP : va_P g.1 vwCl ws s.heap) (hD : va_D (fun q => n0 ≤ q) ws) :
    W p l e Rm s m Av.toArray below meth c s.heap [] 0 0 (vx_MQ below (sQc ρ ex g n0 ws (mR M) outs) (sXc ρ ex g n0 ws outs) Av.toArray s mc ms (fun q => n0 ≤ q)) (entryFrame m Av.toArray (mL M)) := by
  rw [lg_entry_eq]
  have hl := lv_entry Av (n := mL M) (by rw [sSl_len, sSum_ok _ _ hA]; exact hsum)
  refine hw M hM ρ ex g n0 p l e Rm s m Av.toArray below meth c _ hF hmc hms ws s.heap [] _ _ [] hs ⟨hrw, hP, hD, va_S.rf⟩ hl (sArgs_ok 0 _ _ hA) trivial (fun o ho => ?_)
  intro ws' H' locs' ls' lc' vs' hp hsat hpt hl' hL' hS'
  obtain ⟨hcm, hoo⟩ := hoi o ho
  refine ⟨fun hne => ?_, fun h2 q ce hce hcv hcl => ?_⟩
  · have hle := (hoo M hM).2.2.2
    have hn3 := h3 o ho
    rcases (by omega : o.1 = 0 ∨ o.1 = 1) with h0 | h1
    · exact sRet_ok hF ho h0 hcm hoo hM hp hsat hpt hS'
    · rcases hx1 with hx1 | hx1
      · exact sThrow_ok hF hmc hms hx1 ho h1 hcm hoo hM hp hsat hpt hl'.1 hS'
      · exact absurd h1 (hx1 o ho)
  · have htb := hF.2.2.2.2.2.2.2.1
    rw [(hoo M hM).2.2.1 h2] at htb
    exact vx_out (fun x hx => by rw [htb] at hx; cases hx) hF.2.2.2.2.2.2.1 hce hcv hcl (fun t ht _ => ⟨o, ws', ho, Or.inr h2, rfl, hsat, hp, hpt.1, by rw [ht]; exact hpt.2.1, hpt.2.2.1, hpt.2.2.2.F ht⟩) hpt.2.2.2.2.2 hcm.1 hcm.2.1
end SMT
