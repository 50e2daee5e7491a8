noncomputable section
/-! ===== a method walked between the places where its ways meet ===== -/
def sOut1 (k0 : Nat) (κ : sCx) (G : List sFc) (wd : List sC) (r : List sV) (o : sOc) (sg : List sV) : Bool := sSmL κ.2.1 k0 sg r o.2.2.2.2.1 && sCov κ G wd o.2.1 o.2.2.1 o.2.2.2.1 k0 sg
def sOutC (k0 : Nat) (κ : sCx) (G : List sFc) (wd : List sC) (r : List sV) (o : sOc) : Bool := sOut1 k0 κ G wd r o (sSig κ G wd [] r o.2.1 o.2.2.1 o.2.2.2.1 [] o.2.2.2.2.1 k0)
def sFal (κ : sCx) (m0 : Option sMs) (k0 : Nat) (sg : List sV) (mz : sMs) : Bool := match m0 with
  | none => true
  | some m => (match sMsb k0 sg mz with
    | some m' => sLex κ m m'
    | none => false)
def sCut1 (k0 : Nat) (κ : sCx) (G : List sFc) (wd : List sC) (lv : sM) (st : List sV) (m0 : Option sMs) (u : sCu) (sg : List sV) : Bool := sSmV κ.2.1 k0 sg lv u.2.2.2.2.1 && (sSmL κ.2.1 k0 sg st u.2.2.2.2.2.1 && (sCov κ G wd u.2.1 u.2.2.1 u.2.2.2.1 k0 sg && sFal κ m0 k0 sg u.2.2.2.2.2.2))
def sCutC (k0 : Nat) (κ : sCx) (G : List sFc) (wd : List sC) (lv : sM) (st : List sV) (m0 : Option sMs) (u : sCu) : Bool := sCut1 k0 κ G wd lv st m0 u (sSig κ G wd lv st u.2.1 u.2.2.1 u.2.2.2.1 u.2.2.2.2.1 u.2.2.2.2.2.1 k0)
def sEndC (k0 : Nat) (cus : List sCu) (outs : List sOc) (ret : Option FieldType) (m0 : Option sMs) (e : sO) : Bool := match e with
  | (0, (κ, G, wd, _, _, st, _, _), _) => (match sRv ret κ.2.1 st with
    | some r => outs.any fun o => Nat.beq o.1 0 && sOutC k0 κ G wd r o
    | none => false)
  | (1, (κ, G, wd, _, _, _, _, _), x) => outs.any fun o => Nat.beq o.1 1 && (Nat.beq o.2.2.2.2.2 x && sOutC k0 κ G wd [] o)
  | (2, (κ, G, wd, _, _, _, _, _), x) => outs.any fun o => Nat.beq o.1 1 && (Nat.beq o.2.2.2.2.2 x && sOutC k0 κ G wd [] o)
  | (_, (κ, G, wd, pc, lv, st, cells, slots), _) => Nat.beq cells 0 && (Nat.beq slots 0 && cus.any fun u => Nat.beq u.1 pc && sCutC k0 κ G wd lv st m0 u)
noncomputable def sWk (PT : List sMd) (SM : List sIn) (I : sIn) (ret : Option FieldType) (cus : List sCu) (m0 : Option sMs) (n : Nat) (S : sS) : Bool := match sGoN PT SM n I.2.1 I.1 (cus.map Prod.fst) S with
  | some (os, mc, ms) => Nat.ble mc I.2.2.2.2.2.2.2.1 && (Nat.ble ms I.2.2.2.2.2.2.2.2 && os.all (sEndC I.2.2.1.1 cus I.2.2.2.2.2.2.1 ret m0))
  | none => false
noncomputable def sWkE (PT : List sMd) (SM : List sIn) (I : sIn) (ret : Option FieldType) (cus : List sCu) (n : Nat) : Bool := sWk PT SM I ret cus none n (I.2.2.1, I.2.2.2.1, I.2.2.2.2.1, 0, sArgs 0 I.2.2.2.2.2.1, [], 0, 0)
noncomputable def sWkU (PT : List sMd) (SM : List sIn) (I : sIn) (ret : Option FieldType) (cus : List sCu) (n : Nat) (u : sCu) : Bool := (u.2.2.2.2.2.2.all fun q => sDef u.2.1.1 q.2) && sWk PT SM I ret cus (some u.2.2.2.2.2.2) n (u.2.1, u.2.2.1, u.2.2.2.1, u.1, u.2.2.2.2.1, u.2.2.2.2.2.1, 0, 0)
section SIM
variable {p : Program} {l : Launch} {e : Env} {Rm : Room} {s : State} {m : MethodId} {args : Array Value} {below : List Frame} {meth : Method} {c : Code} {ρ0 ρ : List Int} {ex : Nat → Nat} {g : sG} {n0 L d mi mc ms : Nat} {sc : Nat → Int32} {ws : va_W} {M : sMd} {PT : List sMd} {outs : List sOc} {cus : List sCu} {k0 : Nat} {m0 : Option sMs}
theorem sOutC_to {κ : sCx} {G : List sFc} {wd : List sC} {r : List sV} {o : sOc} {kd x : Nat} (ho : o ∈ outs) (hk : kd = 0 ↔ o.1 = 0) (hx : kd ≠ 0 → o.2.2.2.2.2 = x) (hl : ρ0.length = k0) (h : sOutC k0 κ G wd r o = true) : sTo ρ0 ex g L sc outs kd x κ G wd r := by
  intro ρ ws vr hp hs hG hrw hr
  unfold sOutC at h
  generalize sSig κ G wd [] r o.2.1 o.2.2.1 o.2.2.2.1 [] o.2.2.2.2.1 k0 = sg at h
  simp only [sOut1, Bool.and_eq_true] at h
  obtain ⟨h3, h2⟩ := h
  obtain ⟨hsg, q1, q2, q3⟩ := sCov_ok hs hG hrw h2
  exact ⟨o, sRz ρ k0 sg, ho, hk, hx, (by rw [← hl]; exact sRz_pre (κ := κ) hp), q1, q2, q3, fun _ => sSmL_ok hs hsg _ _ _ h3 hr⟩
theorem sEndC_eo {o : sO} (hl : ρ0.length = k0) (h3 : o.1 ≠ 3) (h4 : o.1 ≤ 3) (h : sEndC k0 cus outs (mR M) m0 o = true) : sEo ρ0 ex g L sc M outs o := by
  obtain ⟨k, ⟨κ, G, wd, pc, lv, st, cl, sl⟩, x⟩ := o
  simp only at h3 h4
  unfold sEndC at h
  split at h
  · rename_i e0
    cases e0
    split at h
    · rename_i r0 hr0
      obtain ⟨oc, hoc, h1⟩ := List.any_eq_true.mp h
      simp only [Bool.and_eq_true] at h1
      refine ⟨fun _ r hr => ?_, fun q => by rcases q with q | q <;> cases q⟩
      cases Option.some.inj (hr.symm.trans hr0)
      exact sOutC_to hoc ⟨fun _ => Nat.eq_of_beq_eq_true h1.1, fun _ => rfl⟩ (fun q => absurd rfl q) hl h1.2
    · cases h
  · rename_i e0
    cases e0
    obtain ⟨oc, hoc, h1⟩ := List.any_eq_true.mp h
    simp only [Bool.and_eq_true] at h1
    have e1 := Nat.eq_of_beq_eq_true h1.1
    exact ⟨(fun q => by cases q), fun _ => sOutC_to hoc ⟨(fun q => by cases q), (fun q => by rw [e1] at q; cases q)⟩ (fun _ => Nat.eq_of_beq_eq_true h1.2.1) hl h1.2.2⟩
  · rename_i e0
    cases e0
    obtain ⟨oc, hoc, h1⟩ := List.any_eq_true.mp h
    simp only [Bool.and_eq_true] at h1
    have e1 := Nat.eq_of_beq_eq_true h1.1
    exact ⟨(fun q => by cases q), fun _ => sOutC_to hoc ⟨(fun q => by cases q), (fun q => by rw [e1] at q; cases q)⟩ (fun _ => Nat.eq_of_beq_eq_true h1.2.1) hl h1.2.2⟩
  · rename_i n0' n1 n2 e0
    exfalso
    cases e0
    rcases (by omega : k = 0 ∨ k = 1 ∨ k = 2) with rfl | rfl | rfl
    · exact n0' rfl
    · exact n1 rfl
    · exact n2 rfl
theorem sEndC_cut {o : sO} (h3 : o.1 = 3) (h : sEndC k0 cus outs (mR M) m0 o = true) : o.2.1.2.2.2.2.2.2.1 = 0 ∧ o.2.1.2.2.2.2.2.2.2 = 0 ∧ ∃ u ∈ cus, u.1 = o.2.1.2.2.2.1 ∧ ∃ sg, sCut1 k0 o.2.1.1 o.2.1.2.1 o.2.1.2.2.1 o.2.1.2.2.2.2.1 o.2.1.2.2.2.2.2.1 m0 u sg = true := by
  obtain ⟨k, ⟨κ, G, wd, pc, lv, st, cl, sl⟩, x⟩ := o
  simp only at h3
  subst h3
  simp only [sEndC, Bool.and_eq_true] at h
  obtain ⟨h1, h2, h4⟩ := h
  obtain ⟨u, hu, h5⟩ := List.any_eq_true.mp h4
  simp only [Bool.and_eq_true] at h5
  exact ⟨Nat.eq_of_beq_eq_true h1, Nat.eq_of_beq_eq_true h2, u, hu, Nat.eq_of_beq_eq_true h5.1, _, h5.2⟩
/-- from any such place the method comes to its end -/
def sAtU (p : Program) (l : Launch) (e : Env) (Rm : Room) (s : State) (m : MethodId) (args : Array Value) (below : List Frame) (meth : Method) (c : Code) (Q : State → Prop) (M : sMd) (ρ0 : List Int) (ex : Nat → Nat) (g : sG) (n0 L : Nat) (sc : Nat → Int32) (ws0 : va_W) (N : Nat) (u : sCu) : Prop :=
  ∀ (ρ : List Int) (ws : va_W) (H : Heap) (locs : List Loc) (ls : Array Slot) (lc : List (Nat × Value)) (vs : List Value), ρ0 <+: ρ → ws0.map Prod.fst <+: ws.map Prod.fst → sCok ρ u.2.1 → (∀ f ∈ u.2.2.1, sWf (sAc ws) L sc ρ f) → sPt ρ ex g (fun q => n0 ≤ q) u.2.2.2.1 ws H s.heap locs → lv_has ls (mL M) lc → sA2 (sRL ρ (ws.map Prod.fst) ex) u.2.2.2.2.1 lc → sA2 (sRep ρ (ws.map Prod.fst) ex) u.2.2.2.2.2.1 vs → sMu ρ u.2.2.2.2.2.2 < N → W p l e Rm s m args below meth c H locs 0 0 Q (F0 m u.1 ls vs)
/-- an end at such a place goes on there -/
theorem sKo_cut {o : sO} {Q : State → Prop} {ws1 : va_W} (hl : ρ0.length = k0) (h3 : o.1 = 3) (h : sEndC k0 cus outs (mR M) m0 o = true) (hr0 : ρ0 <+: ρ) (hws : ws.map Prod.fst <+: ws1.map Prod.fst) (K : ∀ u ∈ cus, ∀ N, (∀ mm, m0 = some mm → N ≤ sMu ρ mm) → sAtU p l e Rm s m args below meth c Q M ρ0 ex g n0 L sc ws N u) (hmu : ∀ mm, m0 = some mm → ∀ ρ', ρ <+: ρ' → sMu ρ' mm = sMu ρ mm) : sKo p l e Rm s m args below meth c Q M ρ ex g n0 L sc 0 0 ws1 o := by
  obtain ⟨hc0, hs0, u, hu, hpc, sg, hcut⟩ := sEndC_cut h3 h
  intro ρ' ws' H' locs' ls' lc' vs' hr hp hs hG hpt hl' hL' hS'
  refine ⟨fun _ => ?_, fun q => absurd (h3.symm.trans q) (by decide)⟩
  simp only [sCut1, Bool.and_eq_true] at hcut
  obtain ⟨h4, h5, h2, h6⟩ := hcut
  obtain ⟨hsg, q1, q2, q3⟩ := sCov_ok hs hG hpt.1 h2
  obtain ⟨lc2, hl2, hL2⟩ := sSmV_ok hs hsg hl' hL' _ h4
  rw [hc0, hs0, ← hpc]
  have go : ∀ N, (∀ mm, m0 = some mm → N ≤ sMu ρ mm) → sMu (sRz ρ' k0 sg) u.2.2.2.2.2.2 < N → W p l e Rm s m args below meth c H' locs' 0 0 Q (F0 m u.1 ls' vs') := fun N hN hlt =>
    K u hu N hN (sRz ρ' k0 sg) ws' H' locs' ls' lc2 vs' (by rw [← hl]; exact sRz_pre (κ := o.2.1.1) (hr0.trans hr)) (hws.trans hp) q1 q2 ⟨q3, hpt.2⟩ hl2 hL2 (sSmL_ok hs hsg _ _ _ h5 hS') hlt
  unfold sFal at h6
  cases hm0 : m0 with
  | none => exact go (sMu (sRz ρ' k0 sg) u.2.2.2.2.2.2 + 1) (fun mm q => by rw [hm0] at q; cases q) (Nat.lt_succ_self _)
  | some mm =>
    rw [hm0] at h6
    simp only at h6
    split at h6
    · rename_i m' hm'
      refine go (sMu ρ mm) (fun mm' q => by rw [hm0] at q; cases q; exact Nat.le_refl _) ?_
      rw [(sMsb_ok hs hsg _ _ hm').1, ← hmu mm hm0 ρ' hr]
      exact (sLex_ok hs _ _ h6).1
    · cases h6
theorem sWk_some {SM : List sIn} {I : sIn} {ret : Option FieldType} {n : Nat} {S : sS} (h : sWk PT SM I ret cus m0 n S = true) : ∃ (os : List sO) (mc ms : Nat), sGoN PT SM n I.2.1 I.1 (cus.map Prod.fst) S = some (os, mc, ms) ∧ mc ≤ I.2.2.2.2.2.2.2.1 ∧ ms ≤ I.2.2.2.2.2.2.2.2 ∧ ∀ o ∈ os, sEndC I.2.2.1.1 cus I.2.2.2.2.2.2.1 ret m0 o = true := by
  unfold sWk at h
  split at h
  · rename_i os mc ms hr
    simp only [Bool.and_eq_true] at h
    exact ⟨os, mc, ms, hr, Nat.le_of_ble_eq_true h.1, Nat.le_of_ble_eq_true h.2.1, fun o ho => List.all_eq_true.mp h.2.2 o ho⟩
  · cases h
/-- what is reckoned of a method holds of it -/
theorem sInst {SM : List sIn} {I : sIn} (hPT : sOkP PT) (hS : ∀ I ∈ SM, sInOk PT I) (hM0 : PT[I.1]? = some M) (hsum : Nat.ble (sSum I.2.2.2.2.2.1) (mL M) = true) (hE : ∃ n, sWkE PT SM I (mR M) cus n = true) (hU : ∀ u ∈ cus, ∃ n, sWkU PT SM I (mR M) cus n u = true) : sInOk PT I := by
  intro M' hM' hmj l hst ρ0 ex g n0 L sc ws0 Av hs hG hA hrw
  cases Option.some.inj (hM0.symm.trans hM')
  have hlen : ρ0.length = I.2.2.1.1 := hs.1.1
  refine sMetOf (hPT.2.1 _ _ hM0 hmj) hst (fun p e s m below meth c hF hP hD => ?_)
  have key : ∀ N, ∀ u ∈ cus, sAtU p l e (sRmm I.2.1 I.2.2.2.2.2.2.2.1 I.2.2.2.2.2.2.2.2) s m Av.toArray below meth c (vx_MQ below (sQc ρ0 ex g n0 L sc ws0 I.2.2.2.2.2.2.1) (sXc ρ0 ex g n0 L sc ws0 I.2.2.2.2.2.2.1) Av.toArray s I.2.2.2.2.2.2.2.1 I.2.2.2.2.2.2.2.2 (fun q => n0 ≤ q)) M ρ0 ex g n0 L sc ws0 N u := by
    intro N
    induction N with
    | zero => exact fun u _ ρ ws H locs ls lc vs _ _ _ _ _ _ _ _ hN => absurd hN (Nat.not_lt_zero _)
    | succ N ih =>
      intro u hu ρ ws H locs ls lc vs hr hp hs1 hG1 hpt hl hL hSv hN
      obtain ⟨n, hw⟩ := hU u hu
      unfold sWkU at hw
      rw [Bool.and_eq_true] at hw
      obtain ⟨hdef, hw⟩ := hw
      obtain ⟨os, mc, ms, hrun, hmc, hms, hends⟩ := sWk_some hw
      have hg := sGoN_ok hPT hS n _ _ _ _ _ hrun
      refine hg.2.2.2 M hM0 ρ ex g n0 L sc p l e _ s m Av.toArray below meth c _ hF 0 0 hmc hms ws H locs ls lc vs hs1 hG1 hpt hl hL hSv (fun o ho => ?_)
      obtain ⟨hcm, hoi⟩ := hg.2.2.1 o ho
      by_cases h3 : o.1 = 3
      · exact sKo_cut hlen h3 (hends o ho) hr hp (fun u' hu' N' hN' ρ' ws' H' locs' ls' lc' vs' a1 a2 a3 a4 a5 a6 a7 a8 a9 => ih u' hu' ρ' ws' H' locs' ls' lc' vs' a1 a2 a3 a4 a5 a6 a7 a8 (by have := hN' _ rfl; omega)) (fun mm q ρ' hp' => by
          cases q
          exact sMu_mono hp' hs1.1 _ hdef)
      · exact sEnd_ok hF (Nat.le_refl _) (Nat.le_refl _) (sCm_mono hcm hmc hms) hoi hM0 h3 (sEndC_eo hlen h3 (hoi M hM0).2.2.2.2 (hends o ho)) hr hp
  obtain ⟨n, hw⟩ := hE
  obtain ⟨os, mc, ms, hrun, hmc, hms, hends⟩ := sWk_some hw
  have hg := sGoN_ok hPT hS n _ _ _ _ _ hrun
  refine sEntry hM0 hF hP hD hs hG hA hrw (Nat.le_of_ble_eq_true hsum) hg.2.2.2 hmc hms (fun o ho => ?_)
  obtain ⟨hcm, hoi⟩ := hg.2.2.1 o ho
  by_cases h3 : o.1 = 3
  · exact sKo_cut hlen h3 (hends o ho) List.prefix_rfl List.prefix_rfl (fun u' hu' N' _ => key N' u' hu') (fun mm q => by cases q)
  · exact sEnd_ok hF (Nat.le_refl _) (Nat.le_refl _) (sCm_mono hcm hmc hms) hoi hM0 h3 (sEndC_eo hlen h3 (hoi M hM0).2.2.2.2 (hends o ho)) List.prefix_rfl List.prefix_rfl
end SIM
end
