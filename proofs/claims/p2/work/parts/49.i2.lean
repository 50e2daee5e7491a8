noncomputable section
section SIM
variable {p : Program} {l : Launch} {e : Env} {Rm : Room} {s : State} {m : MethodId} {args : Array Value} {below : List Frame} {meth : Method} {c : Code} {ρ0 ρ : List Int} {ex : Nat → Nat} {g : sG} {n0 L d mi mc ms : Nat} {sc : Nat → Int32} {ws : va_W} {M : sMd} {PT : List sMd} {outs : List sOc} {cus : List sCu} {k0 : Nat} {m0 : Option sMs}
/-- .. each way by what it needs -/
theorem sInst2 {I : sIn} (hPT : sOkP PT) (hM0 : PT[I.1]? = some M) (hsum : Nat.ble (sSum I.2.2.2.2.2.1) (mL M) = true) (hE : ∃ (SM : List sIn) (cu : List sCu) (n : Nat), (∀ I ∈ SM, sInOk PT I) ∧ (∀ v ∈ cu, v ∈ cus) ∧ sWkE PT SM I (mR M) cu n = true) (hU : ∀ u ∈ cus, ∃ (SM : List sIn) (cu : List sCu) (n : Nat), (∀ I ∈ SM, sInOk PT I) ∧ (∀ v ∈ cu, v ∈ cus) ∧ sWkU PT SM I (mR M) cu n u = true) : sInOk PT I := by
  intro M' hM' hmj l hst ρ0 ex g n0 L sc ws0 Av hs hG hA hrw
  cases Option.some.inj (hM0.symm.trans hM')
  have hlen : ρ0.length = I.2.2.1.1 := hs.1.1
  refine sMetOf (hPT.2.1 _ _ hM0 hmj) hst (fun p e s m below meth c hF hP hD => ?_)
  have key : ∀ N, ∀ u ∈ cus, sAtU p l e (sRmm I.2.1 I.2.2.2.2.2.2.2.1 I.2.2.2.2.2.2.2.2) s m Av.toArray below meth c (vx_MQ below (sQc ρ0 ex g n0 L sc ws0 I.2.2.2.2.2.2.1) (sXc ρ0 ex g n0 L sc ws0 I.2.2.2.2.2.2.1) Av.toArray s I.2.2.2.2.2.2.2.1 I.2.2.2.2.2.2.2.2 (fun q => n0 ≤ q)) M ρ0 ex g n0 L sc ws0 N u := by
    intro N
    induction N with
    | zero => exact fun u _ ρ ws H locs ls lc vs _ _ _ _ _ _ _ _ hN => absurd hN (Nat.not_lt_zero _)
    | succ N ih =>
      intro u hu ρ ws H locs ls lc vs hr hp hs1 hG1 hpt hl hL hSv hN
      obtain ⟨SM, cu, n, hS, hsub, hw⟩ := hU u hu
      unfold sWkU at hw
      rw [Bool.and_eq_true] at hw
      obtain ⟨hdef, hw⟩ := hw
      obtain ⟨os, mc, ms, hrun, hmc, hms, hends⟩ := sWk_some hw
      have hg := sGoN_ok hPT hS n _ _ _ _ _ hrun
      refine hg.2.2.2 M hM0 ρ ex g n0 L sc p l e _ s m Av.toArray below meth c _ hF 0 0 hmc hms ws H locs ls lc vs hs1 hG1 hpt hl hL hSv (fun o ho => ?_)
      obtain ⟨hcm, hoi⟩ := hg.2.2.1 o ho
      by_cases h3 : o.1 = 3
      · exact sKo_cut hlen h3 (hends o ho) hr hp (fun u' hu' N' hN' ρ' ws' H' locs' ls' lc' vs' a1 a2 a3 a4 a5 a6 a7 a8 a9 => ih u' (hsub u' hu') ρ' ws' H' locs' ls' lc' vs' a1 a2 a3 a4 a5 a6 a7 a8 (by have := hN' _ rfl; omega)) (fun mm q ρ' hp' => by
          cases q
          exact sMu_mono hp' hs1.1 _ hdef)
      · exact sEnd_ok hF (Nat.le_refl _) (Nat.le_refl _) (sCm_mono hcm hmc hms) hoi hM0 h3 (sEndC_eo hlen h3 (hoi M hM0).2.2.2.2 (hends o ho)) hr hp
  obtain ⟨SM, cu, n, hS, hsub, hw⟩ := hE
  obtain ⟨os, mc, ms, hrun, hmc, hms, hends⟩ := sWk_some hw
  have hg := sGoN_ok hPT hS n _ _ _ _ _ hrun
  refine sEntry hM0 hF hP hD hs hG hA hrw (Nat.le_of_ble_eq_true hsum) hg.2.2.2 hmc hms (fun o ho => ?_)
  obtain ⟨hcm, hoi⟩ := hg.2.2.1 o ho
  by_cases h3 : o.1 = 3
  · exact sKo_cut hlen h3 (hends o ho) List.prefix_rfl List.prefix_rfl (fun u' hu' N' _ => key N' u' (hsub u' hu')) (fun mm q => by cases q)
  · exact sEnd_ok hF (Nat.le_refl _) (Nat.le_refl _) (sCm_mono hcm hmc hms) hoi hM0 h3 (sEndC_eo hlen h3 (hoi M hM0).2.2.2.2 (hends o ho)) List.prefix_rfl List.prefix_rfl
end SIM
end
