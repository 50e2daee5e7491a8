section SFI
variable {d mi stop : Nat} {M : sMd} {PT : List sMd} {R : sRun} {env : sE} {wd : List sC} {st : List sV} {pc len cells slots : Nat} {lv : sM} {ins : Instr} {ax : List Nat}
theorem sCll_ok (hPT : sOkP PT) (hR : sSnd PT R) (hM : PT[mi]? = some M) (hd : decode (mC M) pc = .ok (ins, len)) (he : sEntC PT (mY M).cls ins ax = true) {r : sRs} (h : sCll PT R d mi stop (mH M) ins len ax env wd pc lv st cells slots = some r) : sGood PT d mi (env, wd, pc, lv, st, cells, slots) r := by
  unfold sCll at h
  split at h
  · rename_i mj kd d' hinv
    split at h
    · rename_i M' hM'
      simp only at h
      generalize hna : (if kd = 1 ∨ kd = 2 then mN M' else mN M' + 1) = na at h
      split at h
      · rename_i hcond
        obtain ⟨hmj, rfl, hnl, hsd, hsa, hmL, hrc, hrf⟩ := hcond
        split at h
        · rename_i outs mc ms hrun
          split at h
          · rename_i hkd
            obtain ⟨m1, m2, m3, m4⟩ := sMrg_ok _ _ _ _ h
            have haft : ∀ o ∈ outs, ∃ y : sRs, sAft R (d' + 1) mi stop (mH M) (mR M') pc lv (st.drop na) (cells + mc) (slots + ms) o = some y ∧ y.2.1 ≤ r.2.1 ∧ y.2.2 ≤ r.2.2 ∧ ∀ o ∈ y.1, o ∈ r.1 := fun o ho => by
              obtain ⟨y, e1, e2, e3, e4⟩ := m3 _ (List.mem_map.mpr ⟨o, ho, rfl⟩)
              exact ⟨y, e1, e2, e3, e4⟩
            have h3 : ∀ o ∈ outs, o.1 ≠ 3 := fun o ho h30 => by
              obtain ⟨y, e1, -⟩ := haft o ho
              obtain ⟨k0, S0, x0⟩ := o
              simp only at h30
              subst h30
              simp [sAft] at e1
            have h0 : kd ≤ 1 ∨ ∀ o ∈ outs, o.1 = 0 := by
              rcases hkd with h | h
              · exact Or.inl h
              · exact Or.inr (fun o ho => by simpa using List.all_eq_true.mp h o ho)
            refine ⟨Nat.le_trans (Nat.le_add_right _ _) m1, Nat.le_trans (Nat.le_add_right _ _) m2, fun o ho => ?_, ?_⟩
            · obtain ⟨y, e1, e2, e3, e4⟩ := m4 o ho
              obtain ⟨o', ho', e5⟩ := List.mem_map.mp e1
              obtain ⟨g1, g2⟩ := sAft_good hR hM e5 o e2
              exact ⟨sCm_mono g1 e3 e4, g2⟩
            · intro M0 hM0 ρ ex g n0 p l e Rm s m args below meth c Q hF h1 h2 ws H locs ls lc vs hs hpt hl hL hS K
              cases Option.some.inj (hM.symm.trans hM0)
              simp only at hS hL hs hpt ⊢
              have hlen := sA2_len _ _ hS
              have hA := sA2_rev _ _ (sA2_take na _ _ hS)
              have hSd := sA2_drop na _ _ hS
              have hAl : (vs.take na).reverse.length = if kd = 1 ∨ kd = 2 then mN M' else mN M' + 1 := by
                rw [List.length_reverse, List.length_take, hna]
                omega
              exact sAfter (Av := (vs.take na).reverse) (hPT.2.2 mi M hM) hR hM hF hpt hl hL hSd haft h1 h2 K
                (sRuns hPT hR hF hd he hinv hM' hmj hmL hpt hs hl.1 hA hrc hrf hsa hAl hrun h3 h0 (by rw [List.reverse_reverse, List.take_append_drop]) (by rw [sSum_ok _ _ hSd]; exact hsd) ⟨Nat.le_trans m1 h1, Nat.le_trans m2 h2⟩)
          · cases h
        · cases h
      · cases h
    · cases h
  · cases h
theorem sEnt_h {q : Bool} (hq : (match ins with
  | .new i => (match ax with
    | 1 :: _ => sEntX (mY M).cls (mC M) pc i ax
    | ax => sEntH (mY M).cls (mY M).name (.new i) ax)
  | ins => sEntH (mY M).cls (mY M).name ins ax) = true) {r5 : sH5} (h : sHp env wd ins ax st = some r5) : sEntH (mY M).cls (mY M).name ins ax = true := by
  by_cases hn : ∃ i, ins = .new i
  · obtain ⟨i, rfl⟩ := hn
    simp only [sHp] at h
    split at h
    · exact hq
    · cases h
  · split at hq
    · rename_i i
      exact absurd ⟨i, rfl⟩ hn
    · exact hq
theorem sHp_ds {n : Nat} {wd' : List sC} {st' : List sV} {ds : Nat} (h : sHp env wd ins ax st = some (n, wd', st', 0, ds)) : ds = 0 := by
  have hN : ∀ {tg ln : Nat}, sNewA env wd st tg ln = some (n, wd', st', 0, ds) → ds = 0 := fun {tg ln} h => by
    unfold sNewA at h
    split at h
    · split at h
      · split at h
        · cases h
        · cases h
      · cases h
    · cases h
  have hA : ∀ {tg : Nat} {dv : sV}, sAld env wd st tg dv = some (n, wd', st', 0, ds) → ds = 0 := fun {tg dv} h => by
    rcases sAld_inv h with ⟨_, _, _, _, _, _, -, -, -, -, -, -, -, h⟩ | ⟨-, _, _, _, _, _, -, -, -, -, -, -, -, -, -, -, h⟩
    · exact h
    · exact h
  have hB : ∀ {tg kd : Nat} {dv : sV}, sAst env wd st tg kd dv = some (n, wd', st', 0, ds) → ds = 0 := fun {tg kd dv} h => by
    obtain ⟨_, _, _, _, _, _, _, -, -, -, -, -, -, -, -, h⟩ := sAst_inv h
    exact h
  cases ins
  case getfield i =>
    simp only [sHp, sGetF] at h
    split at h
    · split at h
      · split at h
        · obtain ⟨x, -, hx⟩ := Option.map_eq_some_iff.mp h
          cases hx
          rfl
        · cases h
      · cases h
    · cases h
  case putfield i =>
    simp only [sHp, sPutF] at h
    split at h
    · split at h
      · split at h
        · cases h
          rfl
        · cases h
      · cases h
    · cases h
  case arraylength =>
    simp only [sHp, sLen] at h
    split at h
    · split at h
      · cases h
        rfl
      · cases h
    · cases h
      rfl
    · cases h
  case iaload => exact hA h
  case baload => exact hA h
  case laload => exact hA h
  case iastore => exact hB h
  case bastore => exact hB h
  case lastore => exact hB h
  case aastore =>
    simp only [sHp, sAstS] at h
    split at h
    · split at h
      · split at h
        · obtain ⟨x, -, hx⟩ := Option.map_eq_some_iff.mp h
          cases hx
          rfl
        · cases h
      · cases h
    · cases h
  case newarray t =>
    cases t
    case int => exact hN h
    case byte => exact hN h
    case long => exact hN h
    all_goals exact absurd h (by simp [sHp])
  case anewarray i => exact hN h
  case new i =>
    simp only [sHp] at h
    split at h
    · split at h
      · cases h
      · cases h
    · cases h
  case ldc i =>
    simp only [sHp] at h
    split at h
    · split at h
      · cases h
        rfl
      · cases h
    · cases h
      rfl
    · cases h
  case ldc2_w i =>
    simp only [sHp] at h
    split at h
    · cases h
      rfl
    · cases h
  all_goals exact absurd h (by simp [sHp])
set_option maxHeartbeats 4000000 in
theorem sStep_ok (hPT : sOkP PT) (hR : sSnd PT R) : sSnd PT (sStep PT R) := by
  intro d mi stop S r h
  obtain ⟨env, wd, pc, lv, st, cells, slots⟩ := S
  unfold sStep at h
  split at h
  · cases h
  · rename_i M env0 wd0 pc0 lv0 st0 cells0 slots0 hM hSe
    cases hSe
    split at h
    · cases h
    · rename_i ins len ax hft
      have hok := sFetch_ok _ (hPT.1 mi M hM) hft
      simp only [sOkE, Bool.and_eq_true, decide_eq_true_eq] at hok
      obtain ⟨hd, heC, heH⟩ := hok
      split at h
      · rename_i n lv' st' hp
        split at h
        · rename_i hn
          subst hn
          rw [sFL_eq] at h
          obtain ⟨g1, g2, g3, g4⟩ := sCnt_ok hR h
          refine ⟨g1, g2, g3, ?_⟩
          intro M0 hM0 ρ ex g n0 p l e Rm s m args below meth c Q hF h1 h2 ws H locs ls lc vs hs hpt hl hL hS K
          cases Option.some.inj (hM.symm.trans hM0)
          exact sPure_ok hF.1 hF.2.1 hs hF.2.2.2.2.2.2.2.2.2.2.2.2.1 hl hL hS hd hp (fun ls' lc' vs' hl' hL' hS' => g4 M hM ρ ex g n0 p l e Rm s m args below meth c Q hF h1 h2 ws H locs ls' lc' vs' hs hpt hl' hL' hS' K)
        · cases h
      · split at h
        · rename_i nx hbr
          obtain ⟨m1, m2, m3, m4⟩ := sMrg_ok _ _ _ _ h
          refine ⟨m1, m2, fun o ho => ?_, ?_⟩
          · obtain ⟨y, e1, e2, e3, e4⟩ := m4 o ho
            obtain ⟨q, hq, e5⟩ := List.mem_map.mp e1
            obtain ⟨g1, g2⟩ := (sCnt_ok hR e5).2.2.1 o e2
            exact ⟨sCm_mono g1 e3 e4, g2⟩
          · intro M0 hM0 ρ ex g n0 p l e Rm s m args below meth c Q hF h1 h2 ws H locs ls lc vs hs hpt hl hL hS K
            cases Option.some.inj (hM.symm.trans hM0)
            refine sBr_ok hF.1 hF.2.1 hs hS hd hbr (fun q hq vs' hs' hS' => ?_)
            obtain ⟨y, e1, e2, e3, e4⟩ := m3 _ (List.mem_map.mpr ⟨q, hq, rfl⟩)
            exact (sCnt_ok hR e1).2.2.2 M hM ρ ex g n0 p l e Rm s m args below meth c Q hF (Nat.le_trans e2 h1) (Nat.le_trans e3 h2) ws H locs ls lc vs' hs' hpt hl hL hS' (fun o ho => K o (e4 o ho))
        · split at h
          · rename_i n wd' st' dc ds hh
            split at h
            · rename_i hn
              subst hn
              have key : sCnt R d mi stop (env, wd', pc + n, lv, st', cells + dc, slots + (if dc = 0 then 0 else ds)) = some r ∧ (dc = 0 → ds = 0 ∨ True) := by
                cases dc with
                | zero => simp only at h; rw [sFW_eq] at h; exact ⟨h, fun _ => Or.inr trivial⟩
                | succ k => simp only at h; rw [sFW_eq] at h; exact ⟨h, fun _ => Or.inr trivial⟩
              have hds : (if dc = 0 then 0 else ds) = ds := by
                by_cases e : dc = 0
                · rw [if_pos e]
                  subst e
                  exact (sHp_ds hh).symm
                · rw [if_neg e]
              obtain ⟨g1, g2, g3, g4⟩ := sCnt_ok hR key.1
              simp only [hds] at g1 g2 g4
              refine ⟨Nat.le_trans (Nat.le_add_right _ _) g1, Nat.le_trans (Nat.le_add_right _ _) g2, g3, ?_⟩
              intro M0 hM0 ρ ex g n0 p l e Rm s m args below meth c Q hF h1 h2 ws H locs ls lc vs hs hpt hl hL hS K
              cases Option.some.inj (hM.symm.trans hM0)
              refine sHp_ok hF.1 hF.2.1 hF.2.2.2.2.1 hF.2.2.2.1 hF.2.2.2.2.2.1 hF.2.2.2.2.2.2.2.2.2.2.2.1 hs hpt hS hd (sEnt_h (q := true) heH hh) hh ⟨Nat.le_trans g1 h1, Nat.le_trans g2 h2⟩ (fun ws' H' locs' vs' hp' hpt' hS' => ?_)
              exact g4 M hM ρ ex g n0 p l e Rm s m args below meth c Q hF h1 h2 ws' H' locs' ls lc vs' hs hpt' hl (sA2_imp (fun _ _ w => ⟨w.1, sRep_mono hp' w.2⟩) _ _ hL) hS' (fun o ho => sKo_ws hp' (K o ho))
            · cases h
          · split at h
            · rename_i st' hbl
              split at h
              · rename_i hn
                subst hn
                obtain ⟨g1, g2, g3, g4⟩ := sCnt_ok hR h
                refine ⟨g1, g2, g3, ?_⟩
                intro M0 hM0 ρ ex g n0 p l e Rm s m args below meth c Q hF h1 h2 ws H locs ls lc vs hs hpt hl hL hS K
                cases Option.some.inj (hM.symm.trans hM0)
                exact sBlt_ok hF ⟨Nat.le_trans g1 h1, Nat.le_trans g2 h2⟩ hs hpt hl.1 hS hd heC hbl (fun ws' H' locs' vs' hp' hpt' hS' => g4 M hM ρ ex g n0 p l e Rm s m args below meth c Q hF h1 h2 ws' H' locs' ls lc vs' hs hpt' hl (sA2_imp (fun _ _ w => ⟨w.1, sRep_mono hp' w.2⟩) _ _ hL) hS' (fun o ho => sKo_ws hp' (K o ho)))
              · cases h
            · split at h
              · rename_i hri
                split at h
                · rename_i rr hrv
                  split at h
                  · rename_i hn
                    subst hn
                    cases h
                    refine ⟨Nat.le_refl _, Nat.le_refl _, fun o ho => ?_, ?_⟩
                    · rw [List.mem_singleton] at ho
                      subst ho
                      refine ⟨⟨Nat.le_refl _, Nat.le_refl _, (fun q => by cases q)⟩, fun M0 hM0 => ?_⟩
                      cases Option.some.inj (hM.symm.trans hM0)
                      exact ⟨(fun _ => ⟨ins, rr, hd, hri, hrv⟩), (fun q => by cases q), (fun q => by cases q), Nat.zero_le 3⟩
                    · intro M0 hM0 ρ ex g n0 p l e Rm s m args below meth c Q hF h1 h2 ws H locs ls lc vs hs hpt hl hL hS K
                      exact (K _ List.mem_cons_self ws H locs ls lc vs List.prefix_rfl hs hpt (by cases Option.some.inj (hM.symm.trans hM0); exact hl) hL hS).1 (show (0 : Nat) ≠ 2 by decide)
                  · cases h
                · cases h
              · split at h
                · rename_i x hth
                  split at h
                  · rename_i hcd
                    obtain ⟨hsm, rfl, hmh⟩ := hcd
                    cases h
                    refine ⟨Nat.le_succ _, Nat.le_add_right _ _, fun o ho => ?_, ?_⟩
                    · rw [List.mem_singleton] at ho
                      subst ho
                      refine ⟨⟨Nat.le_succ _, Nat.le_add_right _ _, (fun _ => ⟨Nat.le_refl _, Nat.le_refl _⟩)⟩, fun M0 hM0 => ?_⟩
                      cases Option.some.inj (hM.symm.trans hM0)
                      refine ⟨(fun q => by cases q), (fun _ => ?_), (fun q => by cases q), (show (1 : Nat) ≤ 3 by decide)⟩
                      unfold sThr at hth
                      split at hth
                      · split at hth
                        · cases hth
                          exact ⟨_, _, _, hd, heH, hsm, hmh⟩
                        · cases hth
                      · cases hth
                    · intro M0 hM0 ρ ex g n0 p l e Rm s m args below meth c Q hF h1 h2 ws H locs ls lc vs hs hpt hl hL hS K
                      exact (K _ List.mem_cons_self ws H locs ls lc vs List.prefix_rfl hs hpt (by cases Option.some.inj (hM.symm.trans hM0); exact hl) hL hS).1 (show (1 : Nat) ≠ 2 by decide)
                  · cases h
                · exact sCll_ok hPT hR hM hd heC h
theorem sGoN_ok (hPT : sOkP PT) : ∀ n : Nat, sSnd PT (sGoN PT n)
  | 0 => fun d mi stop S r h => by cases h
  | n + 1 => by
    rw [sGoN_succ]
    exact sStep_ok hPT (sGoN_ok hPT n)
end SFI
