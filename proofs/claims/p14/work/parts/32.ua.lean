noncomputable section
section SFI
variable {d mi : Nat} {cuts : List Nat} {M : sMd} {PT : List sMd} {C : sClr} {R : sRun} {κ : sCx} {G : List sFc} {wd : List sC} {st : List sV} {pc len cells slots : Nat} {lv : sM} {ins : Instr} {ax : List Nat}
theorem sEnt_h (hq : (match ins with
  | .new i => (match ax with
    | 1 :: _ => sEntX (mY M).cls (mC M) pc i ax
    | ax => sEntH (mY M).cls (mY M).name (.new i) ax)
  | ins => sEntH (mY M).cls (mY M).name ins ax) = true) {r5 : sHr} (h : sHp κ G wd ins ax st = some r5) : sEntH (mY M).cls (mY M).name ins ax = true := by
  by_cases hn : ∃ i, ins = .new i
  · obtain ⟨i, rfl⟩ := hn
    simp only [sHp] at h
    split at h
    · exact hq
    · cases h
  · split at hq
    · rename_i i
      exact absurd ⟨i, rfl⟩ hn
    · exact hq
theorem sSpl_ok {ρ : List Int} (hs : sCok ρ κ) {x : sV} {u : Int} (hu : sEv ρ x = some u) : ∀ (n : Nat) (v : Int) (l : List sCx), sSpl κ x n v = some l → v ≤ u → u < v + (n : Int) → ∃ κ1 ∈ l, sCok ρ κ1
  | 0, v, l, _, h1, h2 => by simp at h2; omega
  | n + 1, v, l, h, h1, h2 => by
    simp only [sSpl] at h
    split at h
    · rename_i r l1 hr hl
      cases h
      by_cases e : u = v
      · subst e
        obtain ⟨κ1, g1, he⟩ := sCut_ok hs hu (Int.le_refl _) (Int.le_refl _) hl
        cases he
        exact ⟨κ1, List.mem_append_left _ List.mem_cons_self, g1⟩
      · obtain ⟨κ1, g1, g2⟩ := sSpl_ok hs hu n (v + 1) r hr (by omega) (by omega)
        exact ⟨κ1, List.mem_append_right _ g1, g2⟩
    · cases h
theorem sFk_ok {ρ : List Int} {ads : List Nat} {ex : Nat → Nat} {vs : List Value} (hs : sCok ρ κ) (hS : sA2 (sRep ρ ads ex) st vs) {l : List sCx} (h : sFk κ ax st = some l) : ∃ κ1 ∈ l, sCok ρ κ1 := by
  unfold sFk at h
  split at h
  · split at h
    · rename_i x hx
      split at h
      · rename_i hk
        split at h
        · rename_i lo hi hr
          split at h
          · obtain ⟨v, hv, hrep⟩ := sA2_get _ _ _ _ hS hx
            obtain ⟨u, rfl, hu⟩ := sRep_int hrep hk
            obtain ⟨p1, p2, -⟩ := sRg_ev hs.1 hu hr
            exact sSpl_ok hs hu _ _ _ h p1 (by omega)
          · cases h
        · cases h
      · cases h
    · cases h
  · split at h
    · rename_i x hx
      split at h
      · rename_i hk
        split at h
        · rename_i a b ha hb
          cases h
          obtain ⟨v, hv, hrep⟩ := sA2_get _ _ _ _ hS hx
          obtain ⟨u, rfl, hu⟩ := sRep_int hrep hk
          have hI : sI u = true := by
            unfold sCut at ha
            split at ha
            · rename_i lo hi hr
              exact (sRg_ev hs.1 hu hr).2.2
            · cases ha
          rw [sI_iff] at hI
          rcases (by omega : u ≤ -1 ∨ 0 ≤ u) with q | q
          · obtain ⟨κ1, g1, he⟩ := sCut_ok hs hu hI.1 q ha
            cases he
            exact ⟨κ1, List.mem_append_left _ List.mem_cons_self, g1⟩
          · obtain ⟨κ1, g1, he⟩ := sCut_ok hs hu q hI.2 hb
            cases he
            exact ⟨κ1, List.mem_append_right _ List.mem_cons_self, g1⟩
        · cases h
      · cases h
    · cases h
  · cases h
    exact ⟨κ, List.mem_cons_self, hs⟩
theorem sPu_ok (hR : sSnd PT R) (hM : PT[mi]? = some M) (hd : decode (mC M) pc = .ok (ins, len)) {r : sRt} (h : sPu R d mi cuts (mL M) ins len G wd pc lv st cells slots κ = some r) : sGood PT d mi cuts (κ, G, wd, pc, lv, st, cells, slots) r := by
  unfold sPu at h
  split at h
  · rename_i n κ' lv' st' hp
    split at h
    · rename_i hn
      subst hn
      obtain ⟨g1, g2, g3, g4⟩ := sCnt_ok hR h
      refine ⟨g1, g2, g3, ?_⟩
      intro M0 hM0 ρ ex g n0 L sc p l e Rm s m args below meth c Q hF oc oq h1 h2 ws H locs ls lc vs hs hG hpt hl hL hS K
      cases Option.some.inj (hM.symm.trans hM0)
      exact sPure_ok hF.1 hF.2.1 hs hl hL hS hd hp (fun ρ' ls' lc' vs' hr' hs' hl' hL' hS' => g4 M hM ρ' ex g n0 L sc p l e Rm s m args below meth c Q hF oc oq h1 h2 ws H locs ls' lc' vs' hs' (fun f hf => sWf_mono hr' (hG f hf)) ⟨sRW_more hr' hpt.1, hpt.2⟩ hl' hL' hS' (fun o ho => sKo_ws hr' List.prefix_rfl (K o ho)))
    · cases h
  · cases h
set_option maxHeartbeats 4000000 in
theorem sStep_ok (hPT : sOkP PT) (hR : sSnd PT R) (hC : sCsnd PT C) : sSnd PT (sStep PT C R) := by
  intro d mi cuts S r h
  obtain ⟨κ, G, wd, pc, lv, st, cells, slots⟩ := S
  unfold sStep at h
  split at h
  · cases h
  · rename_i M κ0 G0 wd0 pc0 lv0 st0 cells0 slots0 hM hSe
    cases hSe
    split at h
    · cases h
    · rename_i ins len ax hft
      have hok := sFetch_ok _ (hPT.1 mi M hM) hft
      simp only [sOkE, Bool.and_eq_true, decide_eq_true_eq] at hok
      obtain ⟨hd, heC, heH⟩ := hok
      split at h
      · split at h
        · rename_i l hfk
          obtain ⟨m1, m2, m3, m4⟩ := sMrg_ok _ _ _ _ h
          refine ⟨m1, m2, fun o ho => ?_, ?_⟩
          · obtain ⟨y, e1, e2, e3, e4⟩ := m4 o ho
            obtain ⟨q, hq, e5⟩ := List.mem_map.mp e1
            obtain ⟨g1, g2⟩ := (sPu_ok hR hM hd e5).2.2.1 o e2
            exact ⟨sCm_mono g1 e3 e4, g2⟩
          · intro M0 hM0 ρ ex g n0 L sc p l e Rm s m args below meth c Q hF oc oq h1 h2 ws H locs ls lc vs hs hG hpt hl hL hS K
            obtain ⟨κ1, hκ1, hs1⟩ := sFk_ok hs hS hfk
            obtain ⟨y, e1, e2, e3, e4⟩ := m3 _ (List.mem_map.mpr ⟨κ1, hκ1, rfl⟩)
            exact (sPu_ok hR hM hd e1).2.2.2 M0 hM0 ρ ex g n0 L sc p l e Rm s m args below meth c Q hF oc oq (Nat.le_trans (Nat.add_le_add_right e2 oc) h1) (Nat.le_trans (Nat.add_le_add_right e3 oq) h2) ws H locs ls lc vs hs1 hG hpt hl hL hS (fun o ho => K o (e4 o ho))
        · cases h
      · split at h
        · rename_i nx hbr
          obtain ⟨m1, m2, m3, m4⟩ := sMrg_ok _ _ _ _ h
          refine ⟨m1, m2, fun o ho => ?_, ?_⟩
          · obtain ⟨y, e1, e2, e3, e4⟩ := m4 o ho
            obtain ⟨q, hq, e5⟩ := List.mem_map.mp e1
            obtain ⟨g1, g2⟩ := (sCnt_ok hR e5).2.2.1 o e2
            exact ⟨sCm_mono g1 e3 e4, g2⟩
          · intro M0 hM0 ρ ex g n0 L sc p l e Rm s m args below meth c Q hF oc oq h1 h2 ws H locs ls lc vs hs hG hpt hl hL hS K
            cases Option.some.inj (hM.symm.trans hM0)
            refine sBr_ok hF.1 hF.2.1 hs hS hd hbr (fun q hq vs' hs' hS' => ?_)
            obtain ⟨y, e1, e2, e3, e4⟩ := m3 _ (List.mem_map.mpr ⟨q, hq, rfl⟩)
            exact (sCnt_ok hR e1).2.2.2 M hM ρ ex g n0 L sc p l e Rm s m args below meth c Q hF oc oq (Nat.le_trans (Nat.add_le_add_right e2 oc) h1) (Nat.le_trans (Nat.add_le_add_right e3 oq) h2) ws H locs ls lc vs' hs' hG hpt hl hL hS' (fun o ho => K o (e4 o ho))
        · split at h
          · rename_i n os dc ds hh
            split at h
            · rename_i hn
              subst hn
              obtain ⟨m1, m2, m3, m4⟩ := sMrg_ok _ _ _ _ h
              refine ⟨Nat.le_trans (Nat.le_add_right _ _) m1, Nat.le_trans (Nat.le_add_right _ _) m2, fun o ho => ?_, ?_⟩
              · obtain ⟨y, e1, e2, e3, e4⟩ := m4 o ho
                obtain ⟨q, hq, e5⟩ := List.mem_map.mp e1
                obtain ⟨g1, g2⟩ := (sCnt_ok hR e5).2.2.1 o e2
                exact ⟨sCm_mono g1 e3 e4, g2⟩
              · intro M0 hM0 ρ ex g n0 L sc p l e Rm s m args below meth c Q hF oc oq h1 h2 ws H locs ls lc vs hs hG hpt hl hL hS K
                cases Option.some.inj (hM.symm.trans hM0)
                refine sHp_ok hF.1 hF.2.1 hF.2.2.2.2.1 hF.2.2.2.1 hF.2.2.2.2.2.1 hF.2.2.2.2.2.2.2.2.2.2.2.1 hs hG hpt hS hd (sEnt_h heH hh) hh ⟨by have := Nat.le_trans (Nat.add_le_add_right m1 oc) h1; simp only at this ⊢; omega, by have := Nat.le_trans (Nat.add_le_add_right m2 oq) h2; simp only at this ⊢; omega⟩ (fun o ho ρ' ws' H' locs' vs' hr' hp' hs' hG' hpt' hS' => ?_)
                simp only
                rw [show cells + oc + dc = cells + dc + oc by omega, show slots + oq + ds = slots + ds + oq by omega]
                obtain ⟨y, e1, e2, e3, e4⟩ := m3 _ (List.mem_map.mpr ⟨o, ho, rfl⟩)
                exact (sCnt_ok hR e1).2.2.2 M hM ρ' ex g n0 L sc p l e Rm s m args below meth c Q hF oc oq (Nat.le_trans (Nat.add_le_add_right e2 oc) h1) (Nat.le_trans (Nat.add_le_add_right e3 oq) h2) ws' H' locs' ls lc vs' hs' hG' hpt' hl (sLvM hr' hp' hL) hS' (fun o ho => sKo_ws hr' hp' (K o (e4 o ho)))
            · cases h
          · split at h
            · rename_i os hbl
              split at h
              · rename_i hn
                subst hn
                obtain ⟨m1, m2, m3, m4⟩ := sMrg_ok _ _ _ _ h
                refine ⟨m1, m2, fun o ho => ?_, ?_⟩
                · obtain ⟨y, e1, e2, e3, e4⟩ := m4 o ho
                  obtain ⟨q, hq, e5⟩ := List.mem_map.mp e1
                  obtain ⟨g1, g2⟩ := (sCnt_ok hR e5).2.2.1 o e2
                  exact ⟨sCm_mono g1 e3 e4, g2⟩
                · intro M0 hM0 ρ ex g n0 L sc p l e Rm s m args below meth c Q hF oc oq h1 h2 ws H locs ls lc vs hs hG hpt hl hL hS K
                  cases Option.some.inj (hM.symm.trans hM0)
                  refine sBlt_ok hF ⟨Nat.le_trans (Nat.add_le_add_right m1 oc) h1, Nat.le_trans (Nat.add_le_add_right m2 oq) h2⟩ hs hG hpt hl.1 hS hd heC hbl (fun o ho ρ' ws' H' locs' vs' hr' hp' hs' hG' hpt' hS' => ?_)
                  obtain ⟨y, e1, e2, e3, e4⟩ := m3 _ (List.mem_map.mpr ⟨o, ho, rfl⟩)
                  exact (sCnt_ok hR e1).2.2.2 M hM ρ' ex g n0 L sc p l e Rm s m args below meth c Q hF oc oq (Nat.le_trans (Nat.add_le_add_right e2 oc) h1) (Nat.le_trans (Nat.add_le_add_right e3 oq) h2) ws' H' locs' ls lc vs' hs' hG' hpt' hl (sLvM hr' hp' hL) hS' (fun o ho => sKo_ws hr' hp' (K o (e4 o ho)))
              · cases h
            · split at h
              · rename_i hri
                split at h
                · rename_i rr hrv
                  split at h
                  · rename_i hn
                    subst hn
                    cases h
                    refine ⟨Nat.le_refl _, Nat.le_refl _, fun o ho => ?_, ?_⟩
                    · rw [List.mem_singleton] at ho
                      subst ho
                      refine ⟨⟨Nat.le_refl _, Nat.le_refl _, (fun q => by cases q)⟩, fun M0 hM0 => ?_⟩
                      cases Option.some.inj (hM.symm.trans hM0)
                      exact ⟨(fun _ => ⟨ins, rr, hd, hri, hrv⟩), (fun q => by cases q), (fun q => by cases q), (fun q => by cases q), Nat.zero_le 3⟩
                    · intro M0 hM0 ρ ex g n0 L sc p l e Rm s m args below meth c Q hF oc oq h1 h2 ws H locs ls lc vs hs hG hpt hl hL hS K
                      exact (K _ List.mem_cons_self ρ ws H locs ls lc vs List.prefix_rfl List.prefix_rfl hs hG hpt (by cases Option.some.inj (hM.symm.trans hM0); exact hl) hL hS).1 (show (0 : Nat) ≠ 2 by decide)
                  · cases h
                · cases h
              · split at h
                · rename_i x hth
                  split at h
                  · rename_i hcd
                    obtain ⟨hsm, rfl, hmh⟩ := hcd
                    cases h
                    refine ⟨Nat.le_succ _, Nat.le_add_right _ _, fun o ho => ?_, ?_⟩
                    · rw [List.mem_singleton] at ho
                      subst ho
                      refine ⟨⟨Nat.le_succ _, Nat.le_add_right _ _, (fun _ => ⟨Nat.le_refl _, Nat.le_refl _⟩)⟩, fun M0 hM0 => ?_⟩
                      cases Option.some.inj (hM.symm.trans hM0)
                      refine ⟨(fun q => by cases q), (fun _ => ?_), (fun q => by cases q), (fun q => by cases q), (show (1 : Nat) ≤ 3 by decide)⟩
                      unfold sThr at hth
                      split at hth
                      · split at hth
                        · cases hth
                          exact ⟨_, _, _, hd, heH, hsm, hmh⟩
                        · cases hth
                      · cases hth
                    · intro M0 hM0 ρ ex g n0 L sc p l e Rm s m args below meth c Q hF oc oq h1 h2 ws H locs ls lc vs hs hG hpt hl hL hS K
                      exact (K _ List.mem_cons_self ρ ws H locs ls lc vs List.prefix_rfl List.prefix_rfl hs hG hpt (by cases Option.some.inj (hM.symm.trans hM0); exact hl) hL hS).1 (show (1 : Nat) ≠ 2 by decide)
                  · cases h
                · exact sCll_ok hPT hR hC hM hd heC h
end SFI
end
