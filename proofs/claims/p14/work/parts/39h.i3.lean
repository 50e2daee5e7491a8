noncomputable section
/-! ===== methods walked with hints, each way by what it needs ===== -/
def sHd (H : gHt) (mi : Nat) (o : sO) (k : sO → Bool) : Bool := match o with
  | (kd, (κ, G, wd, pc, lv, st, cl, sl), x) => Bool.rec (motive := fun _ => Bool) (k (kd, (κ, G, wd, pc, lv, st, cl, sl), x)) (gDr (gLk H mi pc) κ G fun κ' G' => k (kd, (κ', G', wd, pc, lv, st, cl, sl), x)) (Nat.beq kd 3)
theorem sHd_ex {H : gHt} {mi : Nat} {o : sO} {k : sO → Bool} (h : sHd H mi o k = true) : ∃ κ' G', k (o.1, (κ', G', o.2.1.2.2), o.2.2) = true ∧ gImp o.2.1.1 o.2.1.2.1 κ' G' ∧ (o.1 ≠ 3 → κ' = o.2.1.1 ∧ G' = o.2.1.2.1) := by
  obtain ⟨kd, ⟨κ, G, wd, pc, lv, st, cl, sl⟩, x⟩ := o
  unfold sHd at h
  simp only at h
  cases e : Nat.beq kd 3 with
  | false =>
    rw [e] at h
    exact ⟨κ, G, h, gImp_rfl, fun _ => ⟨rfl, rfl⟩⟩
  | true =>
    rw [e] at h
    obtain ⟨κ', G', h1, h2⟩ := gDr_ex (k := fun κ' G' => k (kd, (κ', G', wd, pc, lv, st, cl, sl), x)) (gLk H mi pc) κ G
    refine ⟨κ', G', h1.symm.trans h, h2, fun q => absurd (Nat.eq_of_beq_eq_true e) q⟩
noncomputable def sWkH (PT : List sMd) (SM : List sIn) (H : gHt) (I : sIn) (ret : Option FieldType) (cus : List sCu) (m0 : Option sMs) (n : Nat) (S : sS) : Bool := match sGoH PT SM H n I.2.1 I.1 (cus.map Prod.fst) S with
  | some (os, mc, ms) => Nat.ble mc I.2.2.2.2.2.2.2.1 && (Nat.ble ms I.2.2.2.2.2.2.2.2 && os.all fun o => sHd H I.1 o (sEndC I.2.2.1.1 cus I.2.2.2.2.2.2.1 ret m0))
  | none => false
noncomputable def sWhE (PT : List sMd) (SM : List sIn) (H : gHt) (I : sIn) (ret : Option FieldType) (cus : List sCu) (n : Nat) : Bool := sWkH PT SM H I ret cus none n (I.2.2.1, I.2.2.2.1, I.2.2.2.2.1, 0, sArgs 0 I.2.2.2.2.2.1, [], 0, 0)
noncomputable def sWhU (PT : List sMd) (SM : List sIn) (H : gHt) (I : sIn) (ret : Option FieldType) (cus : List sCu) (n : Nat) (u : sCu) : Bool := (u.2.2.2.2.2.2.all fun q => sDef u.2.1.1 q.2) && sWkH PT SM H I ret cus (some u.2.2.2.2.2.2) n (u.2.1, u.2.2.1, u.2.2.2.1, u.1, u.2.2.2.2.1, u.2.2.2.2.2.1, 0, 0)
section SIM
variable {p : Program} {l : Launch} {e : Env} {Rm : Room} {s : State} {m : MethodId} {args : Array Value} {below : List Frame} {meth : Method} {c : Code} {ρ0 ρ : List Int} {ex : Nat → Nat} {g : sG} {n0 L d mi mc ms : Nat} {sc : Nat → Int32} {ws : va_W} {M : sMd} {PT : List sMd} {outs : List sOc} {cus : List sCu} {k0 : Nat} {m0 : Option sMs}
theorem sKo_imp {κ κ' : sCx} {G G' : List sFc} {R : List sC × Nat × sM × List sV × Nat × Nat} {kd x oc os : Nat} {Q : State → Prop} (hi : gImp κ G κ' G') (h : sKo p l e Rm s m args below meth c Q M ρ ex g n0 L sc oc os ws (kd, (κ', G', R), x)) : sKo p l e Rm s m args below meth c Q M ρ ex g n0 L sc oc os ws (kd, (κ, G, R), x) :=
  fun ρ' ws' H' locs' ls' lc' vs' hr hp hs hG hpt hl hL hS => h ρ' ws' H' locs' ls' lc' vs' hr hp (hi (sAc ws') L sc ρ' hs hG).1 (hi (sAc ws') L sc ρ' hs hG).2 hpt hl hL hS
theorem sWkH_some {SM : List sIn} {H : gHt} {I : sIn} {ret : Option FieldType} {n : Nat} {S : sS} (h : sWkH PT SM H I ret cus m0 n S = true) : ∃ (os : List sO) (mc ms : Nat), sGoH PT SM H n I.2.1 I.1 (cus.map Prod.fst) S = some (os, mc, ms) ∧ mc ≤ I.2.2.2.2.2.2.2.1 ∧ ms ≤ I.2.2.2.2.2.2.2.2 ∧ ∀ o ∈ os, ∃ κ' G', sEndC I.2.2.1.1 cus I.2.2.2.2.2.2.1 ret m0 (o.1, (κ', G', o.2.1.2.2), o.2.2) = true ∧ gImp o.2.1.1 o.2.1.2.1 κ' G' ∧ (o.1 ≠ 3 → κ' = o.2.1.1 ∧ G' = o.2.1.2.1) := by
  unfold sWkH at h
  split at h
  · rename_i os mc ms hr
    simp only [Bool.and_eq_true] at h
    exact ⟨os, mc, ms, hr, Nat.le_of_ble_eq_true h.1, Nat.le_of_ble_eq_true h.2.1, fun o ho => sHd_ex (List.all_eq_true.mp h.2.2 o ho)⟩
  · cases h
theorem sInst3 {I : sIn} (hPT : sOkP PT) (hM0 : PT[I.1]? = some M) (hsum : Nat.ble (sSum I.2.2.2.2.2.1) (mL M) = true) (hE : ∃ (SM : List sIn) (H : gHt) (cu : List sCu) (n : Nat), (∀ I ∈ SM, sInOk PT I) ∧ (∀ v ∈ cu, v ∈ cus) ∧ sWhE PT SM H I (mR M) cu n = true) (hU : ∀ u ∈ cus, ∃ (SM : List sIn) (H : gHt) (cu : List sCu) (n : Nat), (∀ I ∈ SM, sInOk PT I) ∧ (∀ v ∈ cu, v ∈ cus) ∧ sWhU PT SM H I (mR M) cu n u = true) : sInOk PT I := by
  intro M' hM' hmj l hst ρ0 ex g n0 L sc ws0 Av hs hG hA hrw
  cases Option.some.inj (hM0.symm.trans hM')
  have hlen : ρ0.length = I.2.2.1.1 := hs.1.1
  refine sMetOf (hPT.2.1 _ _ hM0 hmj) hst (fun p e s m below meth c hF hP hD => ?_)
  have key : ∀ N, ∀ u ∈ cus, sAtU p l e (sRmm I.2.1 I.2.2.2.2.2.2.2.1 I.2.2.2.2.2.2.2.2) s m Av.toArray below meth c (vx_MQ below (sQc ρ0 ex g n0 L sc ws0 I.2.2.2.2.2.2.1) (sXc ρ0 ex g n0 L sc ws0 I.2.2.2.2.2.2.1) Av.toArray s I.2.2.2.2.2.2.2.1 I.2.2.2.2.2.2.2.2 (fun q => n0 ≤ q)) M ρ0 ex g n0 L sc ws0 N u := by
    intro N
    induction N with
    | zero => exact fun u _ ρ ws H locs ls lc vs _ _ _ _ _ _ _ _ hN => absurd hN (Nat.not_lt_zero _)
    | succ N ih =>
      intro u hu ρ ws H locs ls lc vs hr hp hs1 hG1 hpt hl hL hSv hN
      obtain ⟨SM, HH, cu, n, hS, hsub, hw⟩ := hU u hu
      unfold sWhU at hw
      rw [Bool.and_eq_true] at hw
      obtain ⟨hdef, hw⟩ := hw
      obtain ⟨os, mc, ms, hrun, hmc, hms, hends⟩ := sWkH_some hw
      have hg := sGoH_ok hPT hS n _ _ _ _ _ hrun
      refine hg.2.2.2 M hM0 ρ ex g n0 L sc p l e _ s m Av.toArray below meth c _ hF 0 0 hmc hms ws H locs ls lc vs hs1 hG1 hpt hl hL hSv (fun o ho => ?_)
      obtain ⟨hcm, hoi⟩ := hg.2.2.1 o ho
      obtain ⟨κ', G', he, hi, hne⟩ := hends o ho
      by_cases h3 : o.1 = 3
      · exact sKo_imp hi <| sKo_cut hlen h3 he hr hp (fun u' hu' N' hN' ρ' ws' H' locs' ls' lc' vs' a1 a2 a3 a4 a5 a6 a7 a8 a9 => ih u' (hsub u' hu') ρ' ws' H' locs' ls' lc' vs' a1 a2 a3 a4 a5 a6 a7 a8 (by have := hN' _ rfl; omega)) (fun mm q ρ' hp' => by
          cases q
          exact sMu_mono hp' hs1.1 _ hdef)
      · obtain ⟨rfl, rfl⟩ := hne h3
        exact sEnd_ok hF (Nat.le_refl _) (Nat.le_refl _) (sCm_mono hcm hmc hms) hoi hM0 h3 (sEndC_eo hlen h3 (hoi M hM0).2.2.2.2 he) hr hp
  obtain ⟨SM, HH, cu, n, hS, hsub, hw⟩ := hE
  obtain ⟨os, mc, ms, hrun, hmc, hms, hends⟩ := sWkH_some hw
  have hg := sGoH_ok hPT hS n _ _ _ _ _ hrun
  refine sEntry hM0 hF hP hD hs hG hA hrw (Nat.le_of_ble_eq_true hsum) hg.2.2.2 hmc hms (fun o ho => ?_)
  obtain ⟨hcm, hoi⟩ := hg.2.2.1 o ho
  obtain ⟨κ', G', he, hi, hne⟩ := hends o ho
  by_cases h3 : o.1 = 3
  · exact sKo_imp hi <| sKo_cut hlen h3 he List.prefix_rfl List.prefix_rfl (fun u' hu' N' _ => key N' u' (hsub u' hu')) (fun mm q => by cases q)
  · obtain ⟨rfl, rfl⟩ := hne h3
    exact sEnd_ok hF (Nat.le_refl _) (Nat.le_refl _) (sCm_mono hcm hmc hms) hoi hM0 h3 (sEndC_eo hlen h3 (hoi M hM0).2.2.2.2 he) List.prefix_rfl List.prefix_rfl
end SIM
end
