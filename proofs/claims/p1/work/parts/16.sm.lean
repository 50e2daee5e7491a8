/-! ===== calls ===== -/
section SCL
theorem sGI {ws : List Cond} (h : ∀ w ∈ ws, w ∈ sB) : GoodIn sB ws := fun w hw => ⟨h w hw, good_of_word (List.mem_filter.mp (h w hw)).2⟩
theorem sHnd_ok {pc x h : Nat} : ∀ hh : List (Nat × Nat × Nat × Nat), sHnd hh pc x = some h → ∃ (pre : List ExceptionTableEntry) (row : ExceptionTableEntry) (suf : List ExceptionTableEntry), tableOf hh = pre ++ row :: suf ∧ row.handlerPc = h ∧ covers row pc = true ∧ row.catchType = sCt x ∧ ∀ z ∈ pre, covers z pc = false ∨ (covers z pc = true ∧ x = 0 ∧ z.catchType = 18)
  | [], h0 => by simp [sHnd] at h0
  | (a, b, hd, ct) :: t, h0 => by
    simp only [sHnd] at h0
    have etab : tableOf ((a, b, hd, ct) :: t) = (⟨a, b, hd, ct⟩ : ExceptionTableEntry) :: tableOf t := rfl
    split at h0
    · rename_i hcov
      have hc : covers (⟨a, b, hd, ct⟩ : ExceptionTableEntry) pc = true := by simp [covers, hcov.1, hcov.2]
      split at h0
      · rename_i hct
        cases h0
        exact ⟨[], _, _, etab, rfl, hc, hct, fun z hz => by cases hz⟩
      · split at h0
        · rename_i hx
          obtain ⟨pre, row, suf, e1, e2, e3, e4, e5⟩ := sHnd_ok t h0
          exact ⟨_ :: pre, row, suf, by rw [etab, e1]; rfl, e2, e3, e4, fun z hz => by
            rcases List.mem_cons.mp hz with rfl | hz
            · exact Or.inr ⟨hc, hx.1, hx.2⟩
            · exact e5 z hz⟩
        · cases h0
    · rename_i hcov
      have hc : covers (⟨a, b, hd, ct⟩ : ExceptionTableEntry) pc = false := by
        simp only [covers, Bool.and_eq_false_iff, decide_eq_false_iff_not]
        omega
      obtain ⟨pre, row, suf, e1, e2, e3, e4, e5⟩ := sHnd_ok t h0
      exact ⟨_ :: pre, row, suf, by rw [etab, e1]; rfl, e2, e3, e4, fun z hz => by
        rcases List.mem_cons.mp hz with rfl | hz
        · exact Or.inl hc
        · exact e5 z hz⟩
theorem sCk : Cond.classLink "WavingDesksLaw" 13 sIAE ∈ sB ∧ Cond.classLink "WavingDesksLaw" 18 sNSE ∈ sB := ⟨List.mem_filter.mpr ⟨by decide +kernel, rfl⟩, List.mem_filter.mpr ⟨by decide +kernel, rfl⟩⟩
theorem sCk_x (x : Nat) : Cond.classLink "WavingDesksLaw" (sCt x) (sEx x) ∈ sB := by
  match x with
  | 0 => exact sCk.1
  | _ + 1 => exact sCk.2
theorem sCt_ne (x : Nat) : sCt x ≠ 0 := by
  match x with
  | 0 => decide
  | _ + 1 => exact (show (18 : Nat) ≠ 0 by decide)
variable {p : Program} {l : Launch} {e : Env} {Rm : Room} {s : State} {m : MethodId} {args : Array Value} {below : List Frame} {meth : Method} {c : Code} {H : Heap} {locs : List Loc} {cells slots : Nat} {Q : State → Prop} {ρ : Nat → Int32} {ex : Nat → Nat} {g : sG} {n0 d d' mi mj mc ms : Nat} {ws : va_W} {M M' : sMd} {PT : List sMd} {outs : List sO} {R : sRun} {env : sE} {wd : List sC} {As : List sV} {Av : List Value} {pc : Nat} {ls : Array Slot}
theorem sCatch {q : Addr} {ce : Cell} {x h : Nat} {rest : List Value} (hF : sFix p l Rm s m args meth c M d ρ ex g n0) (hlaw : (mY M).cls = "WavingDesksLaw") (hh : sHnd (mH M) pc x = some h) (hce : H[q]? = some ce) (hcv : ce.vm = .none) (hcl : s.vm.findClass (sEx x) = some ce.cls)
    (kk : W p l e Rm s m args below meth c H locs cells slots Q (F0 m h ls [.ref q])) : vx_W p l e Rm s m args below meth c H locs cells slots Q (F0 m pc ls rest) q := by
  obtain ⟨hx, hb, hml, hown, hts, hmn, hlk, htb, hfr, hlo, hst, hc, h6, hrt⟩ := hF
  obtain ⟨pre, row, suf, e1, e2, e3, e4, e5⟩ := sHnd_ok _ hh
  rw [hlaw] at hown
  subst e2
  have hpl : l.admits e → e.platform.magicAccessors = ({} : Platform).magicAccessors := fun ha => by rw [ha.platform]
  refine hc_catch pre row suf (htb.trans e1) (fun ha z hz => ?_) (fun ha => ?_) hce hcv (by obtain ⟨k9, h9, -⟩ := Vm.findClass_spec hcl; exact ⟨k9, h9⟩) kk
  · rcases e5 z hz with h1 | ⟨h1, rfl, h3⟩
    · exact Or.inl ⟨rfl, h1⟩
    · obtain ⟨c6, hc6, hl6⟩ := Cond.classLink_spec hown (hts _ sCk.2) e.platform (hpl ha)
      obtain ⟨a8, b8, g1, g2, g3⟩ := hc.2.2.2.2.2.2.2.2.2.2.1
      cases Option.some.inj (g1.symm.trans hcl)
      cases Option.some.inj (g2.symm.trans hc6)
      exact Or.inr ⟨h1, by rw [h3]; decide, _, by rw [h3]; exact hl6, g3⟩
  · obtain ⟨c6, hc6, hl6⟩ := Cond.classLink_spec hown (hts _ (sCk_x x)) e.platform (hpl ha)
    cases Option.some.inj (hcl.symm.trans hc6)
    exact Or.inr ⟨e3, by rw [e4]; exact sCt_ne x, _, by rw [e4]; exact hl6, va_asg _ _⟩
abbrev sPc (ρ : Nat → Int32) (ex : Nat → Nat) (g : sG) (n0 : Nat) (ws : va_W) (Av : List Value) : Array Value → State → Prop := va_Pc Av (fun U => sCtx ρ ex g n0 U ∧ va_P g.1 vwCl ws U.heap ∧ va_D (fun q => n0 ≤ q) ws)
abbrev sRmm (d' mc ms : Nat) : Room := { frames := 8 + d', cells := mc, slots := ms, locals := 128 + 64 * d' }
theorem sBlind : FrameBlind (sPc ρ ex g n0 ws Av) := fun a U f mk q => ⟨q.1, sCtx_call q.2.1 f mk a, q.2.2.1, q.2.2.2⟩
theorem sMetC (hR : sSnd PT R) (hM : PT[mj]? = some M') (hq : sOkQ M') (hh : mH M' = []) (hrun : R d' mj 100000 (env, wd, 0, sArgs 0 As, [], 0, 0) = some (outs, mc, ms)) (h3 : ∀ o ∈ outs, o.1 ≠ 3) (hs : sSat ρ env) (h6 : ρ 6 = ρ 0 &&& 31) (hst : l.stackTraces = false) (hA : sA2 (sRep ρ (ws.map Prod.fst) ex) As Av) (hsum : sSum As ≤ mL M') (hrw : sRW ρ ex g wd ws) :
    vx_Met l (mY M') (Cond.code (mY M') (mC M') (mL M') (mR M') :: sB) (sRmm d' mc ms) (sPc ρ ex g n0 ws Av) (sQc ρ ex g n0 ws (mR M') outs) (sXc ρ ex g n0 ws outs) mc ms (fun q => n0 ≤ q) := by
  refine vx_ofW (cc := mC M') (maxL := mL M') (ret := mR M') hq.1 rfl ?_
  intro p e s m args below meth c s₁ B hml htab hv
  obtain ⟨rfl, hc, hP, hD⟩ := hv
  have hG := hR _ _ _ _ _ hrun
  have hts := atoms_spec (ws := Cond.code (mY M') (mC M') (mL M') (mR M') :: sB) B.pre
  have htb : c.exceptionTable.toList = tableOf (mH M') := by
    rw [hh]
    cases hl : c.exceptionTable.toList with
    | nil => rfl
    | cons x t => exact (htab x (by rw [hl]; exact List.mem_cons_self)).elim
  exact sBody hG.2.2.2 hG.2.2.1 hM h3 (Or.inl htab) ⟨B.exec, B.bytes, hml, findClass_of_methodNamed B.named, fun w hw => hts w (List.mem_cons_of_mem _ hw), (name_of_methodNamed B.named B.method).1, B.notSynchronized, htb, Nat.le_refl _, Nat.le_refl _, hst, hc, h6, B.returns⟩ (Nat.le_refl _) (Nat.le_refl _) hs hA hsum hrw hP hD
theorem sMetH (hR : sSnd PT R) (hM : PT[mj]? = some M') (hq : sOkQ M') (hh : mH M' ≠ []) (hrun : R d' mj 100000 (env, wd, 0, sArgs 0 As, [], 0, 0) = some (outs, mc, ms)) (h3 : ∀ o ∈ outs, o.1 ≠ 3) (hs : sSat ρ env) (h6 : ρ 6 = ρ 0 &&& 31) (hst : l.stackTraces = false) (hA : sA2 (sRep ρ (ws.map Prod.fst) ex) As Av) (hsum : sSum As ≤ mL M') (hrw : sRW ρ ex g wd ws) :
    vx_Met l (mY M') (Cond.codeWith (mY M') (mC M') (mL M') (mR M') (mH M') :: sB) (sRmm d' mc ms) (sPc ρ ex g n0 ws Av) (sQc ρ ex g n0 ws (mR M') outs) (sXc ρ ex g n0 ws outs) mc ms (fun q => n0 ≤ q) := by
  refine vx_ofWH (cc := mC M') (maxL := mL M') (ret := mR M') (hh := mH M') hq.1 rfl ?_
  intro p e s m args below meth c s₁ B hml hv
  obtain ⟨rfl, hc, hP, hD⟩ := hv
  have hG := hR _ _ _ _ _ hrun
  have hts := atoms_spec (ws := Cond.codeWith (mY M') (mC M') (mL M') (mR M') (mH M') :: sB) B.pre
  exact sBody hG.2.2.2 hG.2.2.1 hM h3 (Or.inr (fun o ho h1 => hh (((hG.2.2.1 o ho).2 M' hM).2.1 h1).choose_spec.choose_spec.choose_spec.2.2.2)) ⟨B.exec, B.bytes, hml, findClass_of_methodNamed B.named, fun w hw => hts w (List.mem_cons_of_mem _ hw), (name_of_methodNamed B.named B.method).1, B.notSynchronized, vx_table (x := mY M') B (hts _ List.mem_cons_self), Nat.le_refl _, Nat.le_refl _, hst, hc, h6, B.returns⟩ (Nat.le_refl _) (Nat.le_refl _) hs hA hsum hrw hP hD
theorem sMetN {y : MethodName} {wl : List Cond} {rm : Room} {Pc : Array Value → State → Prop} {Qc : Array Value → State → Outcome → State → Prop} {free : Addr → Prop} (h : vx_Met l y wl rm Pc Qc (sXc ρ ex g n0 ws outs) mc ms free) (h0 : ∀ o ∈ outs, o.1 = 0) : Met l y wl rm Pc Qc mc ms free := by
  intro p e ha hc hk s m args below hf happ hP hK
  obtain ⟨n, o, a1, a2, a3, hq⟩ := h p e ha hc hk s m args below hf happ hP hK
  rcases hq with hq | ⟨x, -, E, ce, L, ⟨o', -, ho', hk', -⟩, -⟩
  · exact ⟨n, o, a1, a2, a3, hq⟩
  · have := h0 o' ho'
    omega
theorem sRunOf {rest : List Value} {f : JFrame} {Qa : State → Outcome → State → Prop} {XC : String → State → State → Prop} {free : Addr → Prop} (h : va_Run p l e Rm s m args below meth c H locs cells slots mc ms f rest Qa free) : vx_Run p l e Rm s m args below meth c H locs cells slots mc ms f rest Qa XC free := fun T hT X => Or.inl (h T hT X)
theorem sPreU (hc : sCtx ρ ex g n0 s) (hpt : sPt ρ ex g (fun q => n0 ≤ q) wd ws H s.heap locs) : ∀ U : State, U.heap = H → s.WarmedH U.vm → sPc ρ ex g n0 ws Av Av.toArray U := fun U hU hW =>
  ⟨rfl, sCtx_to hc hW (by rw [hU]; exact hpt.2.2.2), by rw [hU]; exact hpt.2.1, hpt.2.2.1⟩
end SCL
