section SST
variable {p : Program} {l : Launch} {e : Env} {Rm : Room} {s : State} {m : MethodId} {args : Array Value} {below : List Frame} {meth : Method} {c : Code} {H : Heap} {locs : List Loc} {cells slots : Nat} {Q : State → Prop} {ρ : Nat → Int32} {ex : Nat → Nat} {g : sG} {n0 d d' mi mj mc ms : Nat} {ws : va_W} {M M' : sMd} {PT : List sMd} {outs : List sO} {R : sRun} {env : sE} {wd : List sC} {As : List sV} {Av : List Value} {pc : Nat} {ls : Array Slot}
/-- what a program's table must be -/
def sOkP (PT : List sMd) : Prop := (∀ (mi : Nat) (M : sMd), PT[mi]? = some M → sOkT PT M = true) ∧ (∀ (mi : Nat) (M : sMd), PT[mi]? = some M → mi ≠ 0 → sOkQ M) ∧ ∀ (mi : Nat) (M : sMd), PT[mi]? = some M → mH M ≠ [] → (mY M).cls = "WavingDesksLaw"
/-- behind the call -/
theorem sAfter {lv : sM} {rest : List sV} {vr : List Value} {lc : List (Nat × Value)} {stop : Nat} {os : List sO} {c2 s2 : Nat} {vs : List Value} (hlaw : mH M ≠ [] → (mY M).cls = "WavingDesksLaw") (hR : sSnd PT R) (hM : PT[mi]? = some M) (hF : sFix p l Rm s m args meth c M d ρ ex g n0) (hpt : sPt ρ ex g (fun q => n0 ≤ q) wd ws H s.heap locs) (hl : lv_has ls (mL M) lc) (hL : sA2 (sRL ρ (ws.map Prod.fst) ex) lv lc) (hS : sA2 (sRep ρ (ws.map Prod.fst) ex) rest vr)
    (haft : ∀ o ∈ outs, ∃ y : sRs, sAft R d mi stop (mH M) (mR M') pc lv rest (cells + mc) (slots + ms) o = some y ∧ y.2.1 ≤ c2 ∧ y.2.2 ≤ s2 ∧ ∀ o ∈ y.1, o ∈ os) (h1 : c2 ≤ Rm.cells) (h2 : s2 ≤ Rm.slots) (K : ∀ o ∈ os, sKo p l e Rm s m args below meth c Q M ρ ex g n0 ws o)
    (hr : vx_Run p l e Rm s m args below meth c H locs cells slots mc ms (F0 m pc ls vs) vr (sQc ρ ex g n0 ws (mR M') outs Av.toArray) (sXc ρ ex g n0 ws outs) (fun q => n0 ≤ q)) : W p l e Rm s m args below meth c H locs cells slots Q (F0 m pc ls vs) := by
  intro T hT X
  rcases hr T hT X with ⟨v, st₀, t, T', L, h0, X', hLf, e1, e2, hq, st⟩ | ⟨q, st₀, t, T', L, E, ce, h0, X', hLf, e1, e2, hq, hce, hcv, hcl, st⟩
  · obtain ⟨o, ws', v', r, ho, hk0, hsat, hp, hrw, hP, hD, hFr, hov, hrv, hrr⟩ := hq
    cases hov
    obtain ⟨y, hy, hy1, hy2, hy3⟩ := haft o ho
    obtain ⟨-, -, hSn⟩ := vx_keep h0 e1 hpt.2.2.2 (fun q _ h => h) (fun q h => h) hLf hFr
    obtain ⟨kd, ⟨env', wd', pc', lv', st', cl', sl'⟩, x⟩ := o
    simp only at hk0
    subst hk0
    simp only [sAft] at hy
    simp only at hrv hsat hrw
    rw [hrv] at hy
    simp only at hy
    have hG := sCnt_ok hR hy
    have w := hG.2.2.2 M hM ρ ex g n0 p l e Rm s m args below meth c Q hF (Nat.le_trans hy1 h1) (Nat.le_trans hy2 h2) ws' T'.heap (locs ++ L) ls lc (v.toList ++ vr) hsat ⟨hrw, by rw [e1]; exact hP, hD, hSn⟩ hl (sA2_imp (fun _ _ w => ⟨w.1, sRep_mono hp w.2⟩) _ _ hL) (sA2_app _ _ _ _ hrr (sA2_imp (fun _ _ w => sRep_mono hp w) _ _ hS)) (fun o ho => sKo_ws hp (K o (hy3 o ho)))
    obtain ⟨t2, a1, b1⟩ := w T' rfl X'
    exact ⟨t2, st t2 a1, b1⟩
  · obtain ⟨o, ws', ho, hk0, rfl, hsat, hp, hrw, hP, hD, hFr⟩ := hq
    obtain ⟨y, hy, hy1, hy2, hy3⟩ := haft o ho
    obtain ⟨-, -, hSn⟩ := vx_keep h0 e1 hpt.2.2.2 (fun q _ h => h) (fun q h => h) hLf hFr
    obtain ⟨kd, ⟨env', wd', pc', lv', st', cl', sl'⟩, x⟩ := o
    simp only at hk0 hsat hrw hcl
    have hce' : T'.heap[q]? = some ce := by rw [e1]; exact hce
    have hpt' : sPt ρ ex g (fun q => n0 ≤ q) wd' ws' T'.heap s.heap (locs ++ L) := ⟨hrw, by rw [e1]; exact hP, hD, hSn⟩
    have hL' := sA2_imp (fun a b (w : sRL ρ (ws.map Prod.fst) ex a b) => (⟨w.1, sRep_mono hp w.2⟩ : sRL ρ (ws'.map Prod.fst) ex a b)) _ _ hL
    have hS' := sA2_imp (fun a b (w : sRep ρ (ws.map Prod.fst) ex a b) => sRep_mono hp w) _ _ hS
    have w : vx_W p l e Rm s m args below meth c T'.heap (locs ++ L) (cells + mc) (slots + ms) Q (F0 m pc ls vr) q := by
      have hy' : (match mH M with
        | [] => some ([(2, (env', wd', pc, lv, rest, cells + mc, slots + ms), x)], cells + mc, slots + ms)
        | _ => (match sHnd (mH M) pc x with
          | some h => sCnt R d mi stop (env', wd', h, lv, [(8, 0)], cells + mc, slots + ms)
          | none => none)) = some y := by
        rcases hk0 with rfl | rfl
        · exact hy
        · exact hy
      split at hy'
      · cases hy'
        exact (K _ (hy3 _ List.mem_cons_self) ws' T'.heap (locs ++ L) ls lc vr hp hsat hpt' hl hL' hS').2 rfl q ce hce' hcv hcl
      · rename_i hne
        split at hy'
        · rename_i h hh
          have hG := sCnt_ok hR hy'
          exact sCatch hF (hlaw (fun q => hne q)) hh hce' hcv hcl (hG.2.2.2 M hM ρ ex g n0 p l e Rm s m args below meth c Q hF (Nat.le_trans hy1 h1) (Nat.le_trans hy2 h2) ws' T'.heap (locs ++ L) ls lc [.ref q] hsat hpt' hl hL' ⟨⟨q, rfl⟩, trivial⟩ (fun o ho => sKo_ws hp (K o (hy3 o ho))))
        · cases hy'
    obtain ⟨t2, a1, b1⟩ := w T' rfl X'
    exact ⟨t2, st.trans a1, b1⟩
end SST
