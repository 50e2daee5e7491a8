noncomputable section
/-! ===== calls ===== -/
section SCL
theorem sGI {ws : List Cond} (h : ∀ w ∈ ws, w ∈ sB) : GoodIn sB ws := fun w hw => ⟨h w hw, good_of_word (List.mem_filter.mp (h w hw)).2⟩
theorem sHnd_ok {pc x h : Nat} : ∀ hh : List (Nat × Nat × Nat × Nat), sHnd hh pc x = some h → ∃ (pre : List ExceptionTableEntry) (row : ExceptionTableEntry) (suf : List ExceptionTableEntry), tableOf hh = pre ++ row :: suf ∧ row.handlerPc = h ∧ covers row pc = true ∧ row.catchType = sCt x ∧ ∀ z ∈ pre, covers z pc = false ∨ (covers z pc = true ∧ x = 0 ∧ z.catchType = 18)
  | [], h0 => by simp [sHnd] at h0
  | (a, b, hd, ct) :: t, h0 => by
    simp only [sHnd] at h0
    have etab : tableOf ((a, b, hd, ct) :: t) = (⟨a, b, hd, ct⟩ : ExceptionTableEntry) :: tableOf t := rfl
    split at h0
    · rename_i hcov
      have hc : covers (⟨a, b, hd, ct⟩ : ExceptionTableEntry) pc = true := by simp [covers, hcov.1, hcov.2]
      split at h0
      · rename_i hct
        cases h0
        exact ⟨[], _, _, etab, rfl, hc, hct, fun z hz => by cases hz⟩
      · split at h0
        · rename_i hx
          obtain ⟨pre, row, suf, e1, e2, e3, e4, e5⟩ := sHnd_ok t h0
          exact ⟨_ :: pre, row, suf, by rw [etab, e1]; rfl, e2, e3, e4, fun z hz => by
            rcases List.mem_cons.mp hz with rfl | hz
            · exact Or.inr ⟨hc, hx.1, hx.2⟩
            · exact e5 z hz⟩
        · cases h0
    · rename_i hcov
      have hc : covers (⟨a, b, hd, ct⟩ : ExceptionTableEntry) pc = false := by
        simp only [covers, Bool.and_eq_false_iff, decide_eq_false_iff_not]
        omega
      obtain ⟨pre, row, suf, e1, e2, e3, e4, e5⟩ := sHnd_ok t h0
      exact ⟨_ :: pre, row, suf, by rw [etab, e1]; rfl, e2, e3, e4, fun z hz => by
        rcases List.mem_cons.mp hz with rfl | hz
        · exact Or.inl hc
        · exact e5 z hz⟩
theorem sCk : Cond.classLink "WavingDesksLaw" 13 sIAE ∈ sB ∧ Cond.classLink "WavingDesksLaw" 18 sNSE ∈ sB := ⟨List.mem_filter.mpr ⟨by decide +kernel, rfl⟩, List.mem_filter.mpr ⟨by decide +kernel, rfl⟩⟩
theorem sCk_x (x : Nat) : Cond.classLink "WavingDesksLaw" (sCt x) (sEx x) ∈ sB := by
  match x with
  | 0 => exact sCk.1
  | _ + 1 => exact sCk.2
theorem sCt_ne (x : Nat) : sCt x ≠ 0 := by
  match x with
  | 0 => decide
  | _ + 1 => exact (show (18 : Nat) ≠ 0 by decide)
variable {p : Program} {l : Launch} {e : Env} {Rm : Room} {s : State} {m : MethodId} {args : Array Value} {below : List Frame} {meth : Method} {c : Code} {H : Heap} {locs : List Loc} {cells slots : Nat} {Q : State → Prop} {ρ : List Int} {ex : Nat → Nat} {g : sG} {n0 L d d' mi mj mc ms : Nat} {sc : Nat → Int32} {ws : va_W} {M M' : sMd} {PT : List sMd} {outs : List sOc} {R : sRun} {κ : sCx} {G : List sFc} {wd : List sC} {As : List sV} {Av : List Value} {pc : Nat} {ls : Array Slot}
theorem sCatch {q : Addr} {ce : Cell} {x h : Nat} {rest : List Value} (hF : sFix p l Rm s m args meth c M d ex g n0 L sc) (hlaw : (mY M).cls = "WavingDesksLaw") (hh : sHnd (mH M) pc x = some h) (hce : H[q]? = some ce) (hcv : ce.vm = .none) (hcl : s.vm.findClass (sEx x) = some ce.cls)
    (kk : W p l e Rm s m args below meth c H locs cells slots Q (F0 m h ls [.ref q])) : vx_W p l e Rm s m args below meth c H locs cells slots Q (F0 m pc ls rest) q := by
  obtain ⟨hx, hb, hml, hown, hts, hmn, hlk, htb, hfr, hlo, hst, hc, hrt⟩ := hF
  obtain ⟨pre, row, suf, e1, e2, e3, e4, e5⟩ := sHnd_ok _ hh
  rw [hlaw] at hown
  subst e2
  have hpl : l.admits e → e.platform.magicAccessors = ({} : Platform).magicAccessors := fun ha => by rw [ha.platform]
  refine hc_catch pre row suf (htb.trans e1) (fun ha z hz => ?_) (fun ha => ?_) hce hcv (by obtain ⟨k9, h9, -⟩ := Vm.findClass_spec hcl; exact ⟨k9, h9⟩) kk
  · rcases e5 z hz with h1 | ⟨h1, rfl, h3⟩
    · exact Or.inl ⟨rfl, h1⟩
    · obtain ⟨c6, hc6, hl6⟩ := Cond.classLink_spec hown (hts _ sCk.2) e.platform (hpl ha)
      obtain ⟨a8, b8, g1, g2, g3⟩ := hc.2.2.2.2.2.2.2.2.2.2.1
      cases Option.some.inj (g1.symm.trans hcl)
      cases Option.some.inj (g2.symm.trans hc6)
      exact Or.inr ⟨h1, by rw [h3]; decide, _, by rw [h3]; exact hl6, g3⟩
  · obtain ⟨c6, hc6, hl6⟩ := Cond.classLink_spec hown (hts _ (sCk_x x)) e.platform (hpl ha)
    cases Option.some.inj (hcl.symm.trans hc6)
    exact Or.inr ⟨e3, by rw [e4]; exact sCt_ne x, _, by rw [e4]; exact hl6, va_asg _ _⟩
abbrev sPc (sc : Nat → Int32) (L : Nat) (ex : Nat → Nat) (g : sG) (n0 : Nat) (ws : va_W) (Av : List Value) : Array Value → State → Prop := va_Pc Av (fun U => sCtx sc L ex g n0 U ∧ va_P g.1 vwCl ws U.heap ∧ va_D (fun q => n0 ≤ q) ws)
abbrev sRmm (d' mc ms : Nat) : Room := { frames := 8 + d', cells := mc, slots := ms, locals := 128 + 64 * d' }
theorem sBlind : FrameBlind (sPc sc L ex g n0 ws Av) := fun a U f mk q => ⟨q.1, sCtx_call q.2.1 f mk a, q.2.2.1, q.2.2.2⟩
theorem sPreU (hc : sCtx sc L ex g n0 s) (hpt : sPt ρ ex g (fun q => n0 ≤ q) wd ws H s.heap locs) : ∀ U : State, U.heap = H → s.WarmedH U.vm → sPc sc L ex g n0 ws Av Av.toArray U := fun U hU hW =>
  ⟨rfl, sCtx_to hc hW (by rw [hU]; exact hpt.2.2.2), by rw [hU]; exact hpt.2.1, hpt.2.2.1⟩
/-- the word of a method's code -/
def sCd (M : sMd) : Cond := match mH M with
  | [] => Cond.code (mY M) (mC M) (mL M) (mR M)
  | hh => Cond.codeWith (mY M) (mC M) (mL M) (mR M) hh
theorem sCd_nil (h : mH M = []) : sCd M = Cond.code (mY M) (mC M) (mL M) (mR M) := by
  unfold sCd
  rw [h]
theorem sCd_cons (h : mH M ≠ []) : sCd M = Cond.codeWith (mY M) (mC M) (mL M) (mR M) (mH M) := by
  unfold sCd
  split
  · rename_i q
    exact absurd q h
  · rfl
/-- a method's contract out of its body -/
theorem sMetOf {Qc : Array Value → State → Outcome → State → Prop} {XC : String → State → State → Prop} (hq : sOkQ M') (hst : l.stackTraces = false)
    (body : ∀ (p : Program) (e : Env) (s : State) (m : MethodId) (below : List Frame) (meth : Method) (c : Code), sFix p l (sRmm d mc ms) s m Av.toArray meth c M' d ex g n0 L sc → va_P g.1 vwCl ws s.heap → va_D (fun q => n0 ≤ q) ws → W p l e (sRmm d mc ms) s m Av.toArray below meth c s.heap [] 0 0 (vx_MQ below Qc XC Av.toArray s mc ms (fun q => n0 ≤ q)) (entryFrame m Av.toArray (mL M'))) :
    vx_Met l (mY M') (sCd M' :: sB) (sRmm d mc ms) (sPc sc L ex g n0 ws Av) Qc XC mc ms (fun q => n0 ≤ q) := by
  by_cases hh : mH M' = []
  · rw [sCd_nil hh]
    refine vx_ofW (cc := mC M') (maxL := mL M') (ret := mR M') hq.1 rfl ?_
    intro p e s m args below meth c s₁ B hml htab hv
    obtain ⟨rfl, hc, hP, hD⟩ := hv
    have hts := atoms_spec (ws := Cond.code (mY M') (mC M') (mL M') (mR M') :: sB) B.pre
    have htb : c.exceptionTable.toList = tableOf (mH M') := by
      rw [hh]
      cases hl : c.exceptionTable.toList with
      | nil => rfl
      | cons x t => exact (htab x (by rw [hl]; exact List.mem_cons_self)).elim
    exact body p e s m below meth c ⟨B.exec, B.bytes, hml, findClass_of_methodNamed B.named, fun w hw => hts w (List.mem_cons_of_mem _ hw), (name_of_methodNamed B.named B.method).1, B.notSynchronized, htb, Nat.le_refl _, Nat.le_refl _, hst, hc, B.returns⟩ hP hD
  · rw [sCd_cons hh]
    refine vx_ofWH (cc := mC M') (maxL := mL M') (ret := mR M') (hh := mH M') hq.1 rfl ?_
    intro p e s m args below meth c s₁ B hml hv
    obtain ⟨rfl, hc, hP, hD⟩ := hv
    have hts := atoms_spec (ws := Cond.codeWith (mY M') (mC M') (mL M') (mR M') (mH M') :: sB) B.pre
    exact body p e s m below meth c ⟨B.exec, B.bytes, hml, findClass_of_methodNamed B.named, fun w hw => hts w (List.mem_cons_of_mem _ hw), (name_of_methodNamed B.named B.method).1, B.notSynchronized, vx_table (x := mY M') B (hts _ List.mem_cons_self), Nat.le_refl _, Nat.le_refl _, hst, hc, B.returns⟩ hP hD
/-- a callee's contract, as numbers -/
def sMetP (l : Launch) (M : sMd) (d mc ms : Nat) (κ : sCx) (G : List sFc) (wd : List sC) (As : List sV) (outs : List sOc) : Prop :=
  ∀ (ρ : List Int) (ex : Nat → Nat) (g : sG) (n0 L : Nat) (sc : Nat → Int32) (ws : va_W) (Av : List Value), sCok ρ κ → (∀ f ∈ G, sWf (sAc ws) L sc ρ f) → sA2 (sRep ρ (ws.map Prod.fst) ex) As Av → sRW ρ ex g wd ws →
    vx_Met l (mY M) (sCd M :: sB) (sRmm d mc ms) (sPc sc L ex g n0 ws Av) (sQc ρ ex g n0 L sc ws outs) (sXc ρ ex g n0 L sc ws outs) mc ms (fun q => n0 ≤ q)
def sCsnd (PT : List sMd) (C : sClr) : Prop := ∀ (d mj : Nat) (κ : sCx) (G : List sFc) (wd : List sC) (As : List sV) (r : sCr), C d mj κ G wd As = some r → ∀ M', PT[mj]? = some M' → mj ≠ 0 → sSum As ≤ mL M' → ∀ l : Launch, l.stackTraces = false → sMetP l M' r.1 r.2.2.1 r.2.2.2 κ G wd As r.2.1
theorem sCv_mem {ret : Option FieldType} : ∀ (os : List sO) (r : List sOc), sCv ret os = some r → ∀ o ∈ os, ∃ x ∈ r, sCv1 ret o = some x
  | [], r, _, o, h => by cases h
  | a :: t, r, h, o, ho => by
    simp only [sCv] at h
    split at h
    · rename_i x r' h1 h2
      cases h
      rcases List.mem_cons.mp ho with rfl | ho
      · exact ⟨x, List.mem_cons_self, h1⟩
      · obtain ⟨y, hy, h3⟩ := sCv_mem t r' h2 o ho
        exact ⟨y, List.mem_cons_of_mem _ hy, h3⟩
    · cases h
theorem sCv1_eo {ρ0 : List Int} {o : sO} {oc : sOc} (ho : oc ∈ outs) (h : sCv1 (mR M) o = some oc) : o.1 ≠ 3 ∧ sEo ρ0 ex g L sc M outs o := by
  obtain ⟨k, ⟨κ, G, wd, pc, lv, st, cl, sl⟩, x⟩ := o
  unfold sCv1 at h
  split at h
  · rename_i e0
    cases e0
    split at h
    · rename_i r0 hr0
      cases h
      refine ⟨(show (0 : Nat) ≠ 3 by decide), fun _ r hr => ?_, fun h => by rcases h with h | h <;> cases h⟩
      cases Option.some.inj (hr.symm.trans hr0)
      exact fun ρ ws vr h1 h2 h3 h4 h5 => ⟨_, ρ, ho, ⟨fun _ => rfl, fun _ => rfl⟩, (fun q => absurd rfl q), h1, h2, h3, h4, fun _ => h5⟩
    · cases h
  · rename_i e0
    cases e0
    cases h
    exact ⟨(show (1 : Nat) ≠ 3 by decide), (fun h => by cases h), fun _ => fun ρ ws vr h1 h2 h3 h4 h5 => ⟨_, ρ, ho, ⟨(fun q => by cases q), (fun q => by cases q)⟩, (fun _ => rfl), h1, h2, h3, h4, (fun q => by cases q)⟩⟩
  · rename_i e0
    cases e0
    cases h
    exact ⟨(show (2 : Nat) ≠ 3 by decide), (fun h => by cases h), fun _ => fun ρ ws vr h1 h2 h3 h4 h5 => ⟨_, ρ, ho, ⟨(fun q => by cases q), (fun q => by cases q)⟩, (fun _ => rfl), h1, h2, h3, h4, (fun q => by cases q)⟩⟩
  · cases h
/-- from a method's entry -/
theorem sEntry {os : List sO} {Qx : State → Prop} (hM : PT[mj]? = some M') (hF : sFix p l Rm s m Av.toArray meth c M' d ex g n0 L sc) (hP : va_P g.1 vwCl ws s.heap) (hD : va_D (fun q => n0 ≤ q) ws) (hs : sCok ρ κ) (hG : ∀ f ∈ G, sWf (sAc ws) L sc ρ f) (hA : sA2 (sRep ρ (ws.map Prod.fst) ex) As Av) (hrw : sRW ρ ex g wd ws) (hsum : sSum As ≤ mL M') (hw : sWalk PT d mj (κ, G, wd, 0, sArgs 0 As, [], 0, 0) os mc ms) (hmc : mc ≤ Rm.cells) (hms : ms ≤ Rm.slots)
    (K : ∀ o ∈ os, sKo p l e Rm s m Av.toArray below meth c Qx M' ρ ex g n0 L sc 0 0 ws o) : W p l e Rm s m Av.toArray below meth c s.heap [] 0 0 Qx (entryFrame m Av.toArray (mL M')) := by
  rw [lg_entry_eq]
  have hl := lv_entry Av (n := mL M') (by rw [sSl_len, sSum_ok _ _ hA]; exact hsum)
  exact hw M' hM ρ ex g n0 L sc p l e Rm s m Av.toArray below meth c _ hF 0 0 hmc hms ws s.heap [] _ _ [] hs hG ⟨hrw, hP, hD, va_S.rf⟩ hl (sArgs_ok 0 _ _ hA) trivial K
theorem sInl_ok (hOk : ∀ (mi : Nat) (M : sMd), PT[mi]? = some M → mi ≠ 0 → sOkQ M) (hR : sSnd PT R) : sCsnd PT (sInl PT R) := by
  intro d mj κ G wd As r h M' hM' hmj hsum l hst
  unfold sInl at h
  rw [hM'] at h
  simp only at h
  split at h
  · rename_i outs0 mc ms hrun
    split at h
    · rename_i os hcv
      cases h
      intro ρ ex g n0 L sc ws Av hs hG hA hrw
      have hg := hR _ _ _ _ _ hrun
      refine sMetOf (hOk mj M' hM' hmj) hst (fun p e s m below meth c hF hP hD => sEntry hM' hF hP hD hs hG hA hrw hsum hg.2.2.2 (Nat.le_refl _) (Nat.le_refl _) (fun o ho => ?_))
      obtain ⟨oc, hoc, h1⟩ := sCv_mem _ _ hcv o ho
      obtain ⟨h3, heo⟩ := sCv1_eo (ρ0 := ρ) (ex := ex) (g := g) (L := L) (sc := sc) hoc h1
      exact sEnd_ok hF (Nat.le_refl _) (Nat.le_refl _) (hg.2.2.1 o ho).1 (hg.2.2.1 o ho).2 hM' h3 heo List.prefix_rfl List.prefix_rfl
    · cases h
  · cases h
theorem sMetN {y : MethodName} {wl : List Cond} {rm : Room} {Pc : Array Value → State → Prop} {Qc : Array Value → State → Outcome → State → Prop} {free : Addr → Prop} (h : vx_Met l y wl rm Pc Qc (sXc ρ ex g n0 L sc ws outs) mc ms free) (h0 : ∀ o ∈ outs, o.1 = 0) : Met l y wl rm Pc Qc mc ms free := by
  intro p e ha hc hk s m args below hf happ hP hK
  obtain ⟨n, o, a1, a2, a3, hq⟩ := h p e ha hc hk s m args below hf happ hP hK
  rcases hq with hq | ⟨x, -, E, ce, Lx, ⟨o', ρ', ws', ho', hk', -⟩, -⟩
  · exact ⟨n, o, a1, a2, a3, hq⟩
  · exact absurd (h0 o' ho') hk'
theorem sRunOf {rest : List Value} {f : JFrame} {Qa : State → Outcome → State → Prop} {XC : String → State → State → Prop} {free : Addr → Prop} (h : va_Run p l e Rm s m args below meth c H locs cells slots mc ms f rest Qa free) : vx_Run p l e Rm s m args below meth c H locs cells slots mc ms f rest Qa XC free := fun T hT X => Or.inl (h T hT X)
end SCL
end
