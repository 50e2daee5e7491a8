noncomputable section
section SST
variable {p : Program} {l : Launch} {e : Env} {Rm : Room} {s : State} {m : MethodId} {args : Array Value} {below : List Frame} {meth : Method} {c : Code} {H : Heap} {locs : List Loc} {cells slots : Nat} {Q : State → Prop} {ρ : List Int} {ex : Nat → Nat} {g : sG} {n0 L d dd d' mi mj mc ms : Nat} {sc : Nat → Int32} {ws : va_W} {M M' : sMd} {PT : List sMd} {outs : List sOc} {R : sRun} {C : sClr} {κ : sCx} {G : List sFc} {wd : List sC} {As st : List sV} {Av vs : List Value} {pc len : Nat} {ls : Array Slot} {lv : sM} {ins : Instr} {ax : List Nat} {cuts : List Nat}
/-- what a program's table must be -/
def sOkP (PT : List sMd) : Prop := (∀ (mi : Nat) (M : sMd), PT[mi]? = some M → sOkT PT M = true) ∧ (∀ (mi : Nat) (M : sMd), PT[mi]? = some M → mi ≠ 0 → sOkQ M) ∧ ∀ (mi : Nat) (M : sMd), PT[mi]? = some M → mH M ≠ [] → (mY M).cls = "WavingDesksLaw"
/-- behind the call -/
theorem sAfter {rest : List sV} {vr : List Value} {lc : List (Nat × Value)} {os : List sO} {c2 s2 oc oq : Nat} (hlaw : mH M ≠ [] → (mY M).cls = "WavingDesksLaw") (hR : sSnd PT R) (hM : PT[mi]? = some M) (hF : sFix p l Rm s m args meth c M d ex g n0 L sc) (hpt : sPt ρ ex g (fun q => n0 ≤ q) wd ws H s.heap locs) (hl : lv_has ls (mL M) lc) (hL : sA2 (sRL ρ (ws.map Prod.fst) ex) lv lc) (hS : sA2 (sRep ρ (ws.map Prod.fst) ex) rest vr)
    (haft : ∀ o ∈ outs, ∃ y : sRt, sAft R d mi cuts (mH M) pc lv rest (cells + mc) (slots + ms) o = some y ∧ y.2.1 ≤ c2 ∧ y.2.2 ≤ s2 ∧ ∀ o ∈ y.1, o ∈ os) (h1 : c2 + oc ≤ Rm.cells) (h2 : s2 + oq ≤ Rm.slots) (K : ∀ o ∈ os, sKo p l e Rm s m args below meth c Q M ρ ex g n0 L sc oc oq ws o)
    (hr : vx_Run p l e Rm s m args below meth c H locs (cells + oc) (slots + oq) mc ms (F0 m pc ls vs) vr (sQc ρ ex g n0 L sc ws outs Av.toArray) (sXc ρ ex g n0 L sc ws outs) (fun q => n0 ≤ q)) : W p l e Rm s m args below meth c H locs (cells + oc) (slots + oq) Q (F0 m pc ls vs) := by
  intro T hT X
  have eoc : cells + oc + mc = cells + mc + oc := by omega
  have eoq : slots + oq + ms = slots + ms + oq := by omega
  rcases hr T hT X with ⟨v, st₀, t, T', Lx, h0, X', hLf, e1, e2, hq, st⟩ | ⟨q, st₀, t, T', Lx, E, ce, h0, X', hLf, e1, e2, hq, hce, hcv, hcl, st⟩
  · obtain ⟨o, ρ', ws', v', ho, hk0, hrr0, hsat, hG', hp, hrw, hP, hD, hFr, hov, hrr⟩ := hq
    cases hov
    obtain ⟨y, hy, hy1, hy2, hy3⟩ := haft o ho
    obtain ⟨-, -, hSn⟩ := vx_keep h0 e1 hpt.2.2.2 (fun q _ h => h) (fun q h => h) hLf hFr
    obtain ⟨kd, κ', G', wd', r', x⟩ := o
    simp only at hk0
    subst hk0
    simp only [sAft] at hy
    simp only at hsat hrw hG' hrr
    have hG := sCnt_ok hR hy
    have w := hG.2.2.2 M hM ρ' ex g n0 L sc p l e Rm s m args below meth c Q hF oc oq (Nat.le_trans (Nat.add_le_add_right hy1 oc) h1) (Nat.le_trans (Nat.add_le_add_right hy2 oq) h2) ws' T'.heap (locs ++ Lx) ls lc (v.toList ++ vr) hsat hG' ⟨hrw, by rw [e1]; exact hP, hD, hSn⟩ hl (sLvM hrr0 hp hL) (sA2_app _ _ _ _ hrr (sStM hrr0 hp hS)) (fun o ho => sKo_ws hrr0 hp (K o (hy3 o ho)))
    rw [eoc, eoq] at X'
    obtain ⟨t2, a1, b1⟩ := w T' rfl X'
    exact ⟨t2, st t2 a1, b1⟩
  · obtain ⟨o, ρ', ws', ho, hk0, rfl, hrr0, hsat, hG', hp, hrw, hP, hD, hFr⟩ := hq
    obtain ⟨y, hy, hy1, hy2, hy3⟩ := haft o ho
    obtain ⟨-, -, hSn⟩ := vx_keep h0 e1 hpt.2.2.2 (fun q _ h => h) (fun q h => h) hLf hFr
    obtain ⟨kd, κ', G', wd', r', x⟩ := o
    simp only at hk0 hsat hrw hG' hcl
    have hce' : T'.heap[q]? = some ce := by rw [e1]; exact hce
    have hpt' : sPt ρ' ex g (fun q => n0 ≤ q) wd' ws' T'.heap s.heap (locs ++ Lx) := ⟨hrw, by rw [e1]; exact hP, hD, hSn⟩
    have hL' := sLvM hrr0 hp hL
    have hS' := sStM hrr0 hp hS
    have w : vx_W p l e Rm s m args below meth c T'.heap (locs ++ Lx) (cells + mc + oc) (slots + ms + oq) Q (F0 m pc ls vr) q := by
      have hy' : (match mH M with
        | [] => some ([(2, (κ', G', wd', pc, lv, rest, cells + mc, slots + ms), x)], cells + mc, slots + ms)
        | _ => (match sHnd (mH M) pc x with
          | some h => sCnt R d mi cuts (κ', G', wd', h, lv, [(8, 0)], cells + mc, slots + ms)
          | none => none)) = some y := by
        cases kd with
        | zero => exact absurd rfl hk0
        | succ kd => exact hy
      split at hy'
      · cases hy'
        exact (K _ (hy3 _ List.mem_cons_self) ρ' ws' T'.heap (locs ++ Lx) ls lc vr hrr0 hp hsat hG' hpt' hl hL' hS').2 rfl q ce hce' hcv hcl
      · rename_i hne
        split at hy'
        · rename_i h hh
          have hG := sCnt_ok hR hy'
          exact sCatch hF (hlaw (fun q => hne q)) hh hce' hcv hcl (hG.2.2.2 M hM ρ' ex g n0 L sc p l e Rm s m args below meth c Q hF oc oq (Nat.le_trans (Nat.add_le_add_right hy1 oc) h1) (Nat.le_trans (Nat.add_le_add_right hy2 oq) h2) ws' T'.heap (locs ++ Lx) ls lc [.ref q] hsat hG' hpt' hl hL' ⟨⟨q, rfl⟩, trivial⟩ (fun o ho => sKo_ws hrr0 hp (K o (hy3 o ho))))
        · cases hy'
    rw [eoc, eoq] at X'
    obtain ⟨t2, a1, b1⟩ := w T' rfl X'
    exact ⟨t2, st.trans a1, b1⟩
theorem sAft_good {rest : List sV} {c0 s0 : Nat} {o : sOc} {y : sRt} (hR : sSnd PT R) (hM : PT[mi]? = some M) (h : sAft R d mi cuts (mH M) pc lv rest c0 s0 o = some y) : ∀ o' ∈ y.1, sCm o' y.2.1 y.2.2 ∧ sOi PT mi cuts o' := by
  unfold sAft at h
  split at h
  · exact (sCnt_ok hR h).2.2.1
  · split at h
    · rename_i hh
      cases h
      intro o' ho'
      rw [List.mem_singleton] at ho'
      subst ho'
      refine ⟨⟨Nat.le_refl _, Nat.le_refl _, (fun q => by cases q)⟩, fun M0 hM0 => ⟨(fun q => by cases q), (fun q => by cases q), (fun _ => ?_), (fun q => by cases q), (show (2 : Nat) ≤ 3 by decide)⟩⟩
      cases Option.some.inj (hM.symm.trans hM0)
      exact hh
    · split at h
      · exact (sCnt_ok hR h).2.2.1
      · cases h
/-- the machine's call, whichever way it is written -/
theorem sRuns {kd : Nat} (hPT : sOkP PT) (hmp : sMetP l M' dd mc ms κ G wd As outs) (hF : sFix p l Rm s m args meth c M (d' + 1) ex g n0 L sc) (hdd : dd ≤ d') (hd : decode (mC M) pc = .ok (ins, 3)) (he : sEntC PT (mY M).cls ins ax = true) (hinv : sInv ins ax = some (mj, kd)) (hM' : PT[mj]? = some M') (hmj : mj ≠ 0) (hmL : mL M' ≤ 45)
    (hpt : sPt ρ ex g (fun q => n0 ≤ q) wd ws H s.heap locs) (hs : sCok ρ κ) (hG : ∀ f ∈ G, sWf (sAc ws) L sc ρ f) (hsz : ls.size = mL M) (hA : sA2 (sRep ρ (ws.map Prod.fst) ex) As Av) (hrc : kd = 0 → sRc wd M' As = true) (hrf : 3 ≤ kd → sRf1 As = true) (hsum : sSum As ≤ mL M') (hlen : Av.length = sNa M' kd)
    (h0 : kd ≤ 1 ∨ ∀ o ∈ outs, o.1 = 0) {vr : List Value} (hst : vs = Av.reverse ++ vr) (hvr : (vr.map fun v => v.category).sum ≤ 8) (hcm : cells + mc ≤ Rm.cells ∧ slots + ms ≤ Rm.slots) :
    vx_Run p l e Rm s m args below meth c H locs cells slots mc ms (F0 m pc ls vs) vr (sQc ρ ex g n0 L sc ws outs Av.toArray) (sXc ρ ex g n0 L sc ws outs) (fun q => n0 ≤ q) := by
  have hq := hPT.2.1 mj M' hM' hmj
  have hmet0 := hmp ρ ex g n0 L sc ws Av hs hG hA hpt.1
  obtain ⟨hx, hb, hml, hown, hts, hmn, hlk, htb, hfr, hlo, hst0, hc, hrt⟩ := hF
  have hCF : CallFix p m c (mC M) (mL M) s args sB (mY M).cls := ⟨hx, hb, hml, hown, hts⟩
  have hroom : (sRmm dd mc ms).frames + 1 ≤ Rm.frames ∧ 8 + (mL M' + 11) + (sRmm dd mc ms).locals ≤ Rm.locals := ⟨by show 8 + dd + 1 ≤ _; omega, by show 8 + (mL M' + 11) + (128 + 64 * dd) ≤ _; omega⟩
  have hpre : ∀ U : State, U.heap = H → s.WarmedH U.vm → sPc sc L ex g n0 ws Av Av.toArray U := sPreU hc hpt
  have hini := hts _ hq.2.2.1
  have hd3 := hq.2.2.2
  have hws : ∀ w0 : Cond, w0 ∈ sB → ∀ w ∈ w0 :: sB, w ∈ sB := fun w0 h0 w hw => by
    rcases List.mem_cons.mp hw with rfl | hw
    · exact h0
    · exact hw
  have hcode : mH M' = [] → Cond.code (mY M') (mC M') (mL M') (mR M') ∈ sB := fun hh => by
    rcases hq.2.1 with ⟨-, h⟩ | ⟨h, -⟩
    · exact h
    · exact absurd hh h
  have hmetC : mH M' = [] → vx_Met l (mY M') (Cond.code (mY M') (mC M') (mL M') (mR M') :: sB) (sRmm dd mc ms) (sPc sc L ex g n0 ws Av) (sQc ρ ex g n0 L sc ws outs) (sXc ρ ex g n0 L sc ws outs) mc ms (fun q => n0 ≤ q) := fun hh => by
    rw [← sCd_nil hh]
    exact hmet0
  cases ins
  case invokevirtual i =>
    simp only [sInv] at hinv
    split at hinv
    · rename_i mi' pL pI pS
      cases hinv
      simp only [sEntC, hM', Bool.and_eq_true, decide_eq_true_eq] at he
      obtain ⟨hL, hI, hSl, hh, -⟩ := he
      have hrc := hrc rfl
      have hrecv : ∃ (a : Nat) (Av' : List Value), Av = .ref a :: Av' ∧ ∃ cell : Cell, H[a]? = some cell ∧ cell.vm.isStatics = false ∧ s.vm.findClass (mY M').cls = some cell.cls := by
        unfold sRc at hrc
        split at hrc
        · rename_i r t
          split at hrc
          · rename_i ci fs ho
            split at hrc
            · rename_i q hqc
              have hcl : q.1 = (mY M').cls := by simpa using hrc
              obtain ⟨a, vals, hwsr, -⟩ := sObj_ok hpt.1 ho
              obtain ⟨v0, Av', rfl, hv0, hA1⟩ := sA2_cons hA
              have e0 := sRef hv0 hwsr
              subst e0
              have hrecv := va_recv hc.1 hpt.2.1 hqc hwsr
              rw [hcl] at hrecv
              exact ⟨a, Av', rfl, hrecv⟩
            · cases hrc
          · cases hrc
        · rename_i j t _
          simp only [Bool.and_eq_true, decide_eq_true_eq] at hrc
          obtain ⟨v0, Av', rfl, hv0, hA1⟩ := sA2_cons hA
          simp only [sRep] at hv0
          subst hv0
          obtain ⟨nn, hn⟩ : ∃ nn, sSln[j.toNat - 1]? = some nn := ⟨_, List.getElem?_eq_getElem (by show j.toNat - 1 < 50; omega)⟩
          obtain ⟨g1, -⟩ := hc.2.2.2.2.2.2.2.2.2.2.2.2.1 _ _ hn
          rw [show j.toNat - 1 + 1 = j.toNat by omega] at g1
          obtain ⟨cell, c1, c2, c3, -⟩ := g1.kept hpt.2.2.2.2.1
          exact ⟨_, Av', rfl, cell, c1, c2, by rw [hrc.2.2]; exact c3⟩
        · cases hrc
      obtain ⟨a, Av', rfl, hrecv⟩ := hrecv
      have hn : Av'.length = mN M' := by simpa [sNa] using hlen
      exact vx_runV (As := Av') (b := a) hCF (hmetC hh) (cwV (C := (mY M').cls) (mN M') hts (sGI (fun w hw => by
        simp only [wsV, List.cons_append, List.nil_append] at hw
        rcases List.mem_cons.mp hw with rfl | hw
        · exact sAt_ok hL
        · rcases List.mem_cons.mp hw with rfl | hw
          · exact sAt_ok hI
          · rcases List.mem_cons.mp hw with rfl | hw
            · exact sAt_ok hSl
            · rcases List.mem_cons.mp hw with rfl | hw
              · exact hq.2.2.1
              · exact hws _ (hcode hh) w hw)) rfl rfl rfl ⟨rfl, hd3⟩ hroom) ⟨sBlind, hrecv, hpre⟩ rfl hn hsz (by rw [hst, List.reverse_cons, List.append_assoc]; rfl) (lv_room hvr) hd hcm
    · cases hinv
  case invokestatic i =>
    simp only [sInv] at hinv
    split at hinv
    · rename_i mi' pL pS
      cases hinv
      simp only [sEntC, hM', Bool.and_eq_true] at he
      have hn : Av.length = mN M' := by simpa [sNa] using hlen
      by_cases hh : mH M' = []
      · exact vx_runS (As := Av) hCF (hmetC hh) ⟨callB_of (mN M') hts (sGI (hws _ (hcode hh))) rfl rfl rfl hini (hts _ (sAt_ok he.1)) hd3 hroom, hts _ (sAt_ok he.2)⟩ ⟨sBlind, hpre⟩ rfl hn hsz hst (lv_room hvr) hd hcm
      · have hcw : Cond.codeWith (mY M') (mC M') (mL M') (mR M') (mH M') ∈ sB := by
          rcases hq.2.1 with ⟨h, -⟩ | ⟨-, h⟩
          · exact absurd h hh
          · exact h
        rw [sCd_cons hh] at hmet0
        exact vx_runSX (As := Av) hCF hmet0 (vx_cwSW (mN M') hts (sGI (fun w hw => by
          simp only [va_wsS, List.cons_append, List.nil_append] at hw
          rcases List.mem_cons.mp hw with rfl | hw
          · exact sAt_ok he.1
          · rcases List.mem_cons.mp hw with rfl | hw
            · exact sAt_ok he.2
            · rcases List.mem_cons.mp hw with rfl | hw
              · exact hq.2.2.1
              · exact hws _ hcw w hw)) rfl rfl rfl hd3 hroom) ⟨sBlind, hpre⟩ rfl hn hsz hst (lv_room hvr) hd hcm
    · rename_i mi' q pS
      cases hinv
      simp only [sEntC, hM'] at he
      split at he
      · rename_i M0 a b y host hM0 hq0
        cases hM0
        simp only [Bool.and_eq_true, decide_eq_true_eq] at he
        obtain ⟨rfl, rfl, rfl, hSt, hh⟩ := he
        have hn : Av.length = mN M' := by simpa [sNa] using hlen
        have h00 : ∀ o ∈ outs, o.1 = 0 := by
          rcases h0 with h | h
          · omega
          · exact h
        have hmet := sMetN (hmetC hh) h00
        exact sRunOf (va_runSN (As := Av) hCF hmet ⟨va_cnB (mN M') hts (sGI (hws _ (hcode hh))) rfl rfl rfl (hc.2.2.1 _ (List.mem_of_getElem? hq0)) hini hd3 hroom, hts _ (sAt_ok hSt), trivial⟩ ⟨sBlind, hpre⟩ rfl hn hsz hst (lv_room hvr) hd hcm)
      · cases he
    · cases hinv
  case invokespecial i =>
    have h00 : 3 ≤ kd → ∀ o ∈ outs, o.1 = 0 := fun hk => by
      rcases h0 with h | h
      · omega
      · exact h
    have hcons : 3 ≤ kd → ∃ (a : Nat) (Av' : List Value), Av = .ref a :: Av' ∧ Av'.length = mN M' := fun hk => by
      have hrf := hrf hk
      unfold sRf1 at hrf
      split at hrf
      · rename_i x t
        obtain ⟨v0, Av', rfl, hv0, -⟩ := sA2_cons hA
        obtain ⟨a, rfl⟩ := sRep_ref hv0 (by simpa using hrf)
        unfold sNa at hlen
        rw [if_neg (by omega)] at hlen
        exact ⟨a, Av', rfl, by simpa using hlen⟩
      · cases hrf
    simp only [sInv] at hinv
    split at hinv
    · rename_i mi' pL pI
      cases hinv
      simp only [sEntC, hM', Bool.and_eq_true, decide_eq_true_eq] at he
      obtain ⟨hL, hI, hnm, hrn, hh⟩ := he
      obtain ⟨a, Av', rfl, hn⟩ := hcons (Nat.le_refl 3)
      have hmet := sMetN (hmetC hh) (h00 (Nat.le_refl 3))
      have hcd := hcode hh
      rw [hrn] at hcd hmet
      exact sRunOf (va_runI (As := Av') (b := a) hCF hmet ⟨callB_of (mN M') hts (sGI (hws _ hcd)) rfl rfl rfl hini (hts _ (sAt_ok hL)) hd3 hroom, hnm, hts _ (sAt_ok hI)⟩ ⟨sBlind, hpre⟩ rfl hn hsz (by rw [hst, List.reverse_cons, List.append_assoc]; rfl) (lv_room hvr) hd hcm)
    · rename_i mi' q pI
      cases hinv
      simp only [sEntC, hM'] at he
      split at he
      · rename_i M0 a0 b0 y host hM0 hq0
        cases hM0
        simp only [Bool.and_eq_true, decide_eq_true_eq] at he
        obtain ⟨rfl, rfl, rfl, hI, hnm, hrn, hh⟩ := he
        obtain ⟨a, Av', rfl, hn⟩ := hcons (by omega)
        have hmet := sMetN (hmetC hh) (h00 (by omega))
        have hcd := hcode hh
        rw [hrn] at hcd hmet
        exact sRunOf (va_runIN (As := Av') (b := a) hCF hmet ⟨va_cnB (mN M') hts (sGI (hws _ hcd)) rfl rfl rfl (hc.2.2.1 _ (List.mem_of_getElem? hq0)) hini hd3 hroom, hnm, hts _ (sAt_ok hI)⟩ ⟨sBlind, hpre⟩ rfl hn hsz (by rw [hst, List.reverse_cons, List.append_assoc]; rfl) (lv_room hvr) hd hcm)
      · cases he
    · cases hinv
  all_goals exact absurd hinv (by simp [sInv])
theorem sCll_ok (hPT : sOkP PT) (hR : sSnd PT R) (hC : sCsnd PT C) (hM : PT[mi]? = some M) (hd : decode (mC M) pc = .ok (ins, len)) (he : sEntC PT (mY M).cls ins ax = true) {r : sRt} (h : sCll PT C R d mi cuts (mH M) ins len ax κ G wd pc lv st cells slots = some r) : sGood PT d mi cuts (κ, G, wd, pc, lv, st, cells, slots) r := by
  unfold sCll at h
  split at h
  · rename_i mj kd d' hinv
    split at h
    · rename_i M' hM'
      split at h
      · rename_i hcond
        obtain ⟨hmj, rfl, hnl, hsd, hsa, hmL, hrc, hrf⟩ := hcond
        split at h
        · rename_i dd outs mc ms hrun
          split at h
          · rename_i hkd
            obtain ⟨hdd, hkd⟩ := hkd
            obtain ⟨m1, m2, m3, m4⟩ := sMrg_ok _ _ _ _ h
            have haft : ∀ o ∈ outs, ∃ y : sRt, sAft R (d' + 1) mi cuts (mH M) pc lv (st.drop (sNa M' kd)) (cells + mc) (slots + ms) o = some y ∧ y.2.1 ≤ r.2.1 ∧ y.2.2 ≤ r.2.2 ∧ ∀ o ∈ y.1, o ∈ r.1 := fun o ho => by
              obtain ⟨y, e1, e2, e3, e4⟩ := m3 _ (List.mem_map.mpr ⟨o, ho, rfl⟩)
              exact ⟨y, e1, e2, e3, e4⟩
            have h0 : kd ≤ 1 ∨ ∀ o ∈ outs, o.1 = 0 := by
              rcases hkd with h | h
              · exact Or.inl h
              · exact Or.inr (fun o ho => by simpa using List.all_eq_true.mp h o ho)
            refine ⟨Nat.le_trans (Nat.le_add_right _ _) m1, Nat.le_trans (Nat.le_add_right _ _) m2, fun o ho => ?_, ?_⟩
            · obtain ⟨y, e1, e2, e3, e4⟩ := m4 o ho
              obtain ⟨o', ho', e5⟩ := List.mem_map.mp e1
              obtain ⟨g1, g2⟩ := sAft_good hR hM e5 o e2
              exact ⟨sCm_mono g1 e3 e4, g2⟩
            · intro M0 hM0 ρ ex g n0 L sc p l e Rm s m args below meth c Q hF oc oq h1 h2 ws H locs ls lc vs hs hG hpt hl hL hS K
              cases Option.some.inj (hM.symm.trans hM0)
              simp only at hS hL hs hG hpt ⊢
              have hlen := sA2_len _ _ hS
              have hA := sA2_rev _ _ (sA2_take (sNa M' kd) _ _ hS)
              have hSd := sA2_drop (sNa M' kd) _ _ hS
              have hAl : (vs.take (sNa M' kd)).reverse.length = sNa M' kd := by
                rw [List.length_reverse, List.length_take]
                omega
              have hst0 := hF.2.2.2.2.2.2.2.2.2.2.1
              exact sAfter (Av := (vs.take (sNa M' kd)).reverse) (hPT.2.2 mi M hM) hR hM hF hpt hl hL hSd haft h1 h2 K
                (sRuns hPT (hC _ _ _ _ _ _ _ hrun M' hM' hmj hsa l hst0) hF hdd hd he hinv hM' hmj hmL hpt hs hG hl.1 hA hrc hrf hsa hAl h0 (by rw [List.reverse_reverse, List.take_append_drop]) (by rw [sSum_ok _ _ hSd]; exact hsd) ⟨by have := Nat.le_trans (Nat.add_le_add_right m1 oc) h1; show cells + oc + mc ≤ _; omega, by have := Nat.le_trans (Nat.add_le_add_right m2 oq) h2; show slots + oq + ms ≤ _; omega⟩)
          · cases h
        · cases h
      · cases h
    · cases h
  · cases h
end SST
end
