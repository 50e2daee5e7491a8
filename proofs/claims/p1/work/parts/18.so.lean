section SCM
variable {p : Program} {l : Launch} {e : Env} {Rm : Room} {s : State} {m : MethodId} {args : Array Value} {below : List Frame} {meth : Method} {c : Code} {H : Heap} {locs : List Loc} {cells slots : Nat} {Q : State → Prop} {ρ : Nat → Int32} {ex : Nat → Nat} {g : sG} {n0 d d' mi mj mc ms stop : Nat} {ws : va_W} {M M' : sMd} {PT : List sMd} {outs : List sO} {R : sRun} {env : sE} {wd : List sC} {As st : List sV} {Av vs : List Value} {pc len : Nat} {ls : Array Slot} {lv : sM} {ins : Instr} {ax : List Nat}
theorem sAft_good {ret : Option FieldType} {rest : List sV} {c0 s0 : Nat} {o : sO} {y : sRs} (hR : sSnd PT R) (hM : PT[mi]? = some M) (h : sAft R d mi stop (mH M) ret pc lv rest c0 s0 o = some y) : ∀ o' ∈ y.1, sCm o' y.2.1 y.2.2 ∧ sOi PT mi o' := by
  unfold sAft at h
  split at h
  · split at h
    · exact (sCnt_ok hR h).2.2.1
    · cases h
  · cases h
  · split at h
    · rename_i hh
      cases h
      intro o' ho'
      rw [List.mem_singleton] at ho'
      subst ho'
      refine ⟨⟨Nat.le_refl _, Nat.le_refl _, (fun q => by cases q)⟩, fun M0 hM0 => ⟨(fun q => by cases q), (fun q => by cases q), (fun _ => ?_), (show (2 : Nat) ≤ 3 by decide)⟩⟩
      cases Option.some.inj (hM.symm.trans hM0)
      exact hh
    · split at h
      · exact (sCnt_ok hR h).2.2.1
      · cases h
/-- the machine's call, whichever way it is written -/
theorem sRuns {kd : Nat} (hPT : sOkP PT) (hR : sSnd PT R) (hF : sFix p l Rm s m args meth c M (d' + 1) ρ ex g n0) (hd : decode (mC M) pc = .ok (ins, 3)) (he : sEntC PT (mY M).cls ins ax = true) (hinv : sInv ins ax = some (mj, kd)) (hM' : PT[mj]? = some M') (hmj : mj ≠ 0) (hmL : mL M' ≤ 45)
    (hpt : sPt ρ ex g (fun q => n0 ≤ q) wd ws H s.heap locs) (hs : sSat ρ env) (hsz : ls.size = mL M) (hA : sA2 (sRep ρ (ws.map Prod.fst) ex) As Av) (hrc : kd = 0 → sRc wd M' As = true) (hrf : 3 ≤ kd → sRf As = true) (hsum : sSum As ≤ mL M') (hlen : Av.length = if kd = 1 ∨ kd = 2 then mN M' else mN M' + 1)
    (hrun : R d' mj 100000 (env, wd, 0, sArgs 0 As, [], 0, 0) = some (outs, mc, ms)) (h3 : ∀ o ∈ outs, o.1 ≠ 3) (h0 : kd ≤ 1 ∨ ∀ o ∈ outs, o.1 = 0) {vr : List Value} (hst : vs = Av.reverse ++ vr) (hvr : (vr.map fun v => v.category).sum ≤ 8) (hcm : cells + mc ≤ Rm.cells ∧ slots + ms ≤ Rm.slots) :
    vx_Run p l e Rm s m args below meth c H locs cells slots mc ms (F0 m pc ls vs) vr (sQc ρ ex g n0 ws (mR M') outs Av.toArray) (sXc ρ ex g n0 ws outs) (fun q => n0 ≤ q) := by
  have hq := hPT.2.1 mj M' hM' hmj
  obtain ⟨hx, hb, hml, hown, hts, hmn, hlk, htb, hfr, hlo, hst0, hc, h6, hrt⟩ := hF
  have hCF : CallFix p m c (mC M) (mL M) s args sB (mY M).cls := ⟨hx, hb, hml, hown, hts⟩
  have hroom : (sRmm d' mc ms).frames + 1 ≤ Rm.frames ∧ 8 + (mL M' + 11) + (sRmm d' mc ms).locals ≤ Rm.locals := ⟨by show 8 + d' + 1 ≤ _; omega, by show 8 + (mL M' + 11) + (128 + 64 * d') ≤ _; omega⟩
  have hpre : ∀ U : State, U.heap = H → s.WarmedH U.vm → sPc ρ ex g n0 ws Av Av.toArray U := sPreU hc hpt
  have hini := hts _ hq.2.2.1
  have hd3 := hq.2.2.2
  have hws : ∀ w0 : Cond, w0 ∈ sB → ∀ w ∈ w0 :: sB, w ∈ sB := fun w0 h0 w hw => by
    rcases List.mem_cons.mp hw with rfl | hw
    · exact h0
    · exact hw
  have hcode : mH M' = [] → Cond.code (mY M') (mC M') (mL M') (mR M') ∈ sB := fun hh => by
    rcases hq.2.1 with ⟨-, h⟩ | ⟨h, -⟩
    · exact h
    · exact absurd hh h
  cases ins
  case invokevirtual i =>
    simp only [sInv] at hinv
    split at hinv
    · rename_i mi' pL pI pS
      cases hinv
      simp only [sEntC, hM', Bool.and_eq_true, decide_eq_true_eq] at he
      obtain ⟨hL, hI, hSl, hh, -⟩ := he
      have hrc := hrc rfl
      unfold sRc at hrc
      split at hrc
      · rename_i r t
        split at hrc
        · rename_i ci fs ho
          split at hrc
          · rename_i q hqc
            have hcl : q.1 = (mY M').cls := by simpa using hrc
            obtain ⟨a, vals, hwsr, -⟩ := sObj_ok hpt.1 ho
            obtain ⟨v0, Av', rfl, hv0, hA1⟩ := sA2_cons hA
            have e0 := sRef hv0 hwsr
            subst e0
            have hn : Av'.length = mN M' := by simpa using hlen
            have hmet := sMetC (n0 := n0) (l := l) hR hM' hq hh hrun h3 hs h6 hst0 hA hsum hpt.1
            have hrecv := va_recv hc.1 hpt.2.1 hqc hwsr
            rw [hcl] at hrecv
            exact vx_runV (As := Av') (b := a) hCF hmet (cwV (C := (mY M').cls) (mN M') hts (sGI (fun w hw => by
              simp only [wsV, List.cons_append, List.nil_append] at hw
              rcases List.mem_cons.mp hw with rfl | hw
              · exact sAt_ok hL
              · rcases List.mem_cons.mp hw with rfl | hw
                · exact sAt_ok hI
                · rcases List.mem_cons.mp hw with rfl | hw
                  · exact sAt_ok hSl
                  · rcases List.mem_cons.mp hw with rfl | hw
                    · exact hq.2.2.1
                    · exact hws _ (hcode hh) w hw)) rfl rfl rfl ⟨rfl, hd3⟩ hroom) ⟨sBlind, hrecv, hpre⟩ rfl hn hsz (by rw [hst, List.reverse_cons, List.append_assoc]; rfl) (lv_room hvr) hd hcm
          · cases hrc
        · cases hrc
      · cases hrc
    · cases hinv
  case invokestatic i =>
    simp only [sInv] at hinv
    split at hinv
    · rename_i mi' pL pS
      cases hinv
      simp only [sEntC, hM', Bool.and_eq_true] at he
      have hn : Av.length = mN M' := by simpa using hlen
      by_cases hh : mH M' = []
      · have hmet := sMetC (n0 := n0) (l := l) hR hM' hq hh hrun h3 hs h6 hst0 hA hsum hpt.1
        exact vx_runS (As := Av) hCF hmet ⟨callB_of (mN M') hts (sGI (hws _ (hcode hh))) rfl rfl rfl hini (hts _ (sAt_ok he.1)) hd3 hroom, hts _ (sAt_ok he.2)⟩ ⟨sBlind, hpre⟩ rfl hn hsz hst (lv_room hvr) hd hcm
      · have hcw : Cond.codeWith (mY M') (mC M') (mL M') (mR M') (mH M') ∈ sB := by
          rcases hq.2.1 with ⟨h, -⟩ | ⟨-, h⟩
          · exact absurd h hh
          · exact h
        have hmet := sMetH (n0 := n0) (l := l) hR hM' hq hh hrun h3 hs h6 hst0 hA hsum hpt.1
        exact vx_runSX (As := Av) hCF hmet (vx_cwSW (mN M') hts (sGI (fun w hw => by
          simp only [va_wsS, List.cons_append, List.nil_append] at hw
          rcases List.mem_cons.mp hw with rfl | hw
          · exact sAt_ok he.1
          · rcases List.mem_cons.mp hw with rfl | hw
            · exact sAt_ok he.2
            · rcases List.mem_cons.mp hw with rfl | hw
              · exact hq.2.2.1
              · exact hws _ hcw w hw)) rfl rfl rfl hd3 hroom) ⟨sBlind, hpre⟩ rfl hn hsz hst (lv_room hvr) hd hcm
    · rename_i mi' q pS
      cases hinv
      simp only [sEntC, hM'] at he
      split at he
      · rename_i M0 a b y host hM0 hq0
        cases hM0
        simp only [Bool.and_eq_true, decide_eq_true_eq] at he
        obtain ⟨rfl, rfl, rfl, hSt, hh⟩ := he
        have hn : Av.length = mN M' := by simpa using hlen
        have h00 : ∀ o ∈ outs, o.1 = 0 := by
          rcases h0 with h | h
          · omega
          · exact h
        have hmet := sMetN (sMetC (n0 := n0) (l := l) hR hM' hq hh hrun h3 hs h6 hst0 hA hsum hpt.1) h00
        exact sRunOf (va_runSN (As := Av) hCF hmet ⟨va_cnB (mN M') hts (sGI (hws _ (hcode hh))) rfl rfl rfl (hc.2.2.1 _ (List.mem_of_getElem? hq0)) hini hd3 hroom, hts _ (sAt_ok hSt), trivial⟩ ⟨sBlind, hpre⟩ rfl hn hsz hst (lv_room hvr) hd hcm)
      · cases he
    · cases hinv
  case invokespecial i =>
    have h00 : 3 ≤ kd → ∀ o ∈ outs, o.1 = 0 := fun hk => by
      rcases h0 with h | h
      · omega
      · exact h
    have hcons : 3 ≤ kd → ∃ (a : Nat) (Av' : List Value), Av = .ref a :: Av' ∧ Av'.length = mN M' := fun hk => by
      have hrf := hrf hk
      unfold sRf at hrf
      split at hrf
      · rename_i x t
        obtain ⟨v0, Av', rfl, hv0, -⟩ := sA2_cons hA
        obtain ⟨a, rfl⟩ := sRep_ref hv0 (by simpa using hrf)
        rw [if_neg (by omega)] at hlen
        exact ⟨a, Av', rfl, by simpa using hlen⟩
      · cases hrf
    simp only [sInv] at hinv
    split at hinv
    · rename_i mi' pL pI
      cases hinv
      simp only [sEntC, hM', Bool.and_eq_true, decide_eq_true_eq] at he
      obtain ⟨hL, hI, hnm, hrn, hh⟩ := he
      obtain ⟨a, Av', rfl, hn⟩ := hcons (Nat.le_refl 3)
      have hmet := sMetN (sMetC (n0 := n0) (l := l) hR hM' hq hh hrun h3 hs h6 hst0 hA hsum hpt.1) (h00 (Nat.le_refl 3))
      have hcd := hcode hh
      rw [hrn] at hcd hmet ⊢
      exact sRunOf (va_runI (As := Av') (b := a) hCF hmet ⟨callB_of (mN M') hts (sGI (hws _ hcd)) rfl rfl rfl hini (hts _ (sAt_ok hL)) hd3 hroom, hnm, hts _ (sAt_ok hI)⟩ ⟨sBlind, hpre⟩ rfl hn hsz (by rw [hst, List.reverse_cons, List.append_assoc]; rfl) (lv_room hvr) hd hcm)
    · rename_i mi' q pI
      cases hinv
      simp only [sEntC, hM'] at he
      split at he
      · rename_i M0 a0 b0 y host hM0 hq0
        cases hM0
        simp only [Bool.and_eq_true, decide_eq_true_eq] at he
        obtain ⟨rfl, rfl, rfl, hI, hnm, hrn, hh⟩ := he
        obtain ⟨a, Av', rfl, hn⟩ := hcons (by omega)
        have hmet := sMetN (sMetC (n0 := n0) (l := l) hR hM' hq hh hrun h3 hs h6 hst0 hA hsum hpt.1) (h00 (by omega))
        have hcd := hcode hh
        rw [hrn] at hcd hmet ⊢
        exact sRunOf (va_runIN (As := Av') (b := a) hCF hmet ⟨va_cnB (mN M') hts (sGI (hws _ hcd)) rfl rfl rfl (hc.2.2.1 _ (List.mem_of_getElem? hq0)) hini hd3 hroom, hnm, hts _ (sAt_ok hI)⟩ ⟨sBlind, hpre⟩ rfl hn hsz (by rw [hst, List.reverse_cons, List.append_assoc]; rfl) (lv_room hvr) hd hcm)
      · cases he
    · cases hinv
  all_goals exact absurd hinv (by simp [sInv])
end SCM
