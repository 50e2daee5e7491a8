/-! ===== what the walker says holds of the machine ===== -/
def sEx (x : Nat) : String := match x with
  | 0 => sIAE
  | _ => sNSE
def sFix (p : Program) (l : Launch) (Rm : Room) (s : State) (m : MethodId) (args : Array Value) (meth : Method) (c : Code) (M : sMd) (d : Nat) (ρ : Nat → Int32) (ex : Nat → Nat) (g : sG) (n0 : Nat) : Prop :=
  p.tables.exec = Jvm.exec ∧ c.code = mC M ∧ c.maxLocals = mL M ∧ s.vm.findClass (mY M).cls = some m.cls ∧ (∀ w ∈ sB, w.before args s = true) ∧ meth.name = (mY M).name ∧ meth.locks = false ∧ c.exceptionTable.toList = tableOf (mH M) ∧ 8 + d ≤ Rm.frames ∧ 128 + 64 * d ≤ Rm.locals ∧ l.stackTraces = false ∧ sCtx ρ ex g n0 s ∧ ρ 6 = ρ 0 &&& 31 ∧ meth.sig.returnType = mR M
def sKo (p : Program) (l : Launch) (e : Env) (Rm : Room) (s : State) (m : MethodId) (args : Array Value) (below : List Frame) (meth : Method) (c : Code) (Q : State → Prop) (M : sMd) (ρ : Nat → Int32) (ex : Nat → Nat) (g : sG) (n0 : Nat) (ws : va_W) (o : sO) : Prop :=
  ∀ (ws' : va_W) (H' : Heap) (locs' : List Loc) (ls' : Array Slot) (lc' : List (Nat × Value)) (vs' : List Value), ws.map Prod.fst <+: ws'.map Prod.fst → sSat ρ o.2.1.1 → sPt ρ ex g (fun q => n0 ≤ q) o.2.1.2.1 ws' H' s.heap locs' → lv_has ls' (mL M) lc' → sA2 (sRL ρ (ws'.map Prod.fst) ex) o.2.1.2.2.2.1 lc' → sA2 (sRep ρ (ws'.map Prod.fst) ex) o.2.1.2.2.2.2.1 vs' →
    (o.1 ≠ 2 → W p l e Rm s m args below meth c H' locs' o.2.1.2.2.2.2.2.1 o.2.1.2.2.2.2.2.2 Q (F0 m o.2.1.2.2.1 ls' vs')) ∧
    (o.1 = 2 → ∀ (q : Addr) (ce : Cell), H'[q]? = some ce → ce.vm = .none → s.vm.findClass (sEx o.2.2) = some ce.cls → vx_W p l e Rm s m args below meth c H' locs' o.2.1.2.2.2.2.2.1 o.2.1.2.2.2.2.2.2 Q (F0 m o.2.1.2.2.1 ls' vs') q)
def sWalk (PT : List sMd) (d mi : Nat) (S : sS) (outs : List sO) (mc ms : Nat) : Prop :=
  ∀ (M : sMd), PT[mi]? = some M → ∀ (ρ : Nat → Int32) (ex : Nat → Nat) (g : sG) (n0 : Nat) (p : Program) (l : Launch) (e : Env) (Rm : Room) (s : State) (m : MethodId) (args : Array Value) (below : List Frame) (meth : Method) (c : Code) (Q : State → Prop), sFix p l Rm s m args meth c M d ρ ex g n0 → mc ≤ Rm.cells → ms ≤ Rm.slots →
    ∀ (ws : va_W) (H : Heap) (locs : List Loc) (ls : Array Slot) (lc : List (Nat × Value)) (vs : List Value), sSat ρ S.1 → sPt ρ ex g (fun q => n0 ≤ q) S.2.1 ws H s.heap locs → lv_has ls (mL M) lc → sA2 (sRL ρ (ws.map Prod.fst) ex) S.2.2.2.1 lc → sA2 (sRep ρ (ws.map Prod.fst) ex) S.2.2.2.2.1 vs →
    (∀ o ∈ outs, sKo p l e Rm s m args below meth c Q M ρ ex g n0 ws o) → W p l e Rm s m args below meth c H locs S.2.2.2.2.2.1 S.2.2.2.2.2.2 Q (F0 m S.2.2.1 ls vs)
/-- what an end tells of its place -/
def sOi (PT : List sMd) (mi : Nat) (o : sO) : Prop := ∀ M, PT[mi]? = some M →
  (o.1 = 0 → ∃ (ins : Instr) (r : List sV), decode (mC M) o.2.1.2.2.1 = .ok (ins, 1) ∧ sRetI ins (mR M) = true ∧ sRv (mR M) o.2.1.1 o.2.1.2.2.2.2.1 = some r) ∧
  (o.1 = 1 → ∃ (i j w : Nat), decode (mC M) o.2.1.2.2.1 = .ok (.new i, 3) ∧ sEntX (mY M).cls (mC M) o.2.1.2.2.1 i [1, o.2.2, j, w] = true ∧ sSum o.2.1.2.2.2.2.1 ≤ 8 ∧ mH M = []) ∧
  (o.1 = 2 → mH M = []) ∧ o.1 ≤ 3
def sCm (o : sO) (mc ms : Nat) : Prop := o.2.1.2.2.2.2.2.1 ≤ mc ∧ o.2.1.2.2.2.2.2.2 ≤ ms ∧ (o.1 = 1 → o.2.1.2.2.2.2.2.1 + 1 ≤ mc ∧ o.2.1.2.2.2.2.2.2 + 6 ≤ ms)
def sGood (PT : List sMd) (d mi : Nat) (S : sS) (r : sRs) : Prop := S.2.2.2.2.2.1 ≤ r.2.1 ∧ S.2.2.2.2.2.2 ≤ r.2.2 ∧ (∀ o ∈ r.1, sCm o r.2.1 r.2.2 ∧ sOi PT mi o) ∧ sWalk PT d mi S r.1 r.2.1 r.2.2
def sSnd (PT : List sMd) (R : sRun) : Prop := ∀ (d mi stop : Nat) (S : sS) (r : sRs), R d mi stop S = some r → sGood PT d mi S r
theorem sKo_ws {p : Program} {l : Launch} {e : Env} {Rm : Room} {s : State} {m : MethodId} {args : Array Value} {below : List Frame} {meth : Method} {c : Code} {Q : State → Prop} {M : sMd} {ρ : Nat → Int32} {ex : Nat → Nat} {g : sG} {n0 : Nat} {ws ws1 : va_W} {o : sO} (hp : ws.map Prod.fst <+: ws1.map Prod.fst) (h : sKo p l e Rm s m args below meth c Q M ρ ex g n0 ws o) : sKo p l e Rm s m args below meth c Q M ρ ex g n0 ws1 o :=
  fun ws' H' locs' ls' lc' vs' hp' => h ws' H' locs' ls' lc' vs' (hp.trans hp')
theorem sCnt_ok {PT : List sMd} {R : sRun} (hR : sSnd PT R) {d mi stop : Nat} {S : sS} {r : sRs} (h : sCnt R d mi stop S = some r) : sGood PT d mi S r := by
  obtain ⟨env, wd, pc, lv, st, cells, slots⟩ := S
  simp only [sCnt] at h
  split at h
  · cases h
    refine ⟨Nat.le_refl _, Nat.le_refl _, fun o ho => ?_, ?_⟩
    · rw [List.mem_singleton] at ho
      subst ho
      exact ⟨⟨Nat.le_refl _, Nat.le_refl _, (fun q => by cases q)⟩, fun M _ => ⟨(fun q => by cases q), (fun q => by cases q), (fun q => by cases q), Nat.le_refl 3⟩⟩
    · intro M hM ρ ex g n0 p l e Rm s m args below meth c Q hF h1 h2 ws H locs ls lc vs hs hpt hl hL hS K
      exact (K _ List.mem_cons_self ws H locs ls lc vs List.prefix_rfl hs hpt hl hL hS).1 (show (3 : Nat) ≠ 2 by decide)
  · exact hR _ _ _ _ _ h
theorem sWalk_mono {PT : List sMd} {d mi : Nat} {S : sS} {o1 o2 : List sO} {c1 s1 c2 s2 : Nat} (h : sWalk PT d mi S o1 c1 s1) (ho : ∀ o ∈ o1, o ∈ o2) (hc : c1 ≤ c2) (hs : s1 ≤ s2) : sWalk PT d mi S o2 c2 s2 :=
  fun M hM ρ ex g n0 p l e Rm s m args below meth c Q hF h1 h2 ws H locs ls lc vs a1 a2 a3 a4 a5 K => h M hM ρ ex g n0 p l e Rm s m args below meth c Q hF (Nat.le_trans hc h1) (Nat.le_trans hs h2) ws H locs ls lc vs a1 a2 a3 a4 a5 (fun o h => K o (ho o h))
theorem sCm_mono {o : sO} {c1 s1 c2 s2 : Nat} (h : sCm o c1 s1) (hc : c1 ≤ c2) (hs : s1 ≤ s2) : sCm o c2 s2 := ⟨Nat.le_trans h.1 hc, Nat.le_trans h.2.1 hs, fun q => ⟨Nat.le_trans (h.2.2 q).1 hc, Nat.le_trans (h.2.2 q).2 hs⟩⟩
theorem sMrg_ok : ∀ (l : List (Option sRs)) (mc0 ms0 : Nat) (r : sRs), sMrg l mc0 ms0 = some r → mc0 ≤ r.2.1 ∧ ms0 ≤ r.2.2 ∧ (∀ x ∈ l, ∃ y, x = some y ∧ y.2.1 ≤ r.2.1 ∧ y.2.2 ≤ r.2.2 ∧ ∀ o ∈ y.1, o ∈ r.1) ∧ ∀ o ∈ r.1, ∃ y, some y ∈ l ∧ o ∈ y.1 ∧ y.2.1 ≤ r.2.1 ∧ y.2.2 ≤ r.2.2
  | [], mc0, ms0, r, h => by
    simp only [sMrg] at h
    cases h
    exact ⟨Nat.le_refl _, Nat.le_refl _, fun x hx => (by cases hx), fun o ho => (by cases ho)⟩
  | none :: t, mc0, ms0, r, h => by simp [sMrg] at h
  | some (o, c, s) :: t, mc0, ms0, r, h => by
    simp only [sMrg] at h
    split at h
    · cases h
    · rename_i o' c' s' hm
      cases h
      obtain ⟨h1, h2, h3, h4⟩ := sMrg_ok t _ _ _ hm
      simp only at h1 h2 h3 h4 ⊢
      refine ⟨by omega, by omega, fun x hx => ?_, fun z hz => ?_⟩
      · rcases List.mem_cons.mp hx with rfl | hx
        · exact ⟨_, rfl, by simp only; omega, by simp only; omega, fun z hz => List.mem_append_left _ hz⟩
        · obtain ⟨y, e1, e2, e3, e4⟩ := h3 x hx
          exact ⟨y, e1, e2, e3, fun z hz => List.mem_append_right _ (e4 z hz)⟩
      · rcases List.mem_append.mp hz with hz | hz
        · exact ⟨(o, c, s), List.mem_cons_self, hz, by simp only; omega, by simp only; omega⟩
        · obtain ⟨y, e1, e2, e3, e4⟩ := h4 z hz
          exact ⟨y, List.mem_cons_of_mem _ e1, e2, e3, e4⟩
theorem sFind_mem {pc : Nat} {x : Instr × Nat × List Nat} : ∀ (l : List sEn), sFind pc l = some x → (pc, x) ∈ l
  | [], h => by simp [sFind] at h
  | (i, y) :: t, h => by
    simp only [sFind] at h
    split at h
    · rename_i e
      cases h
      subst e
      exact List.mem_cons_self
    · exact List.mem_cons_of_mem _ (sFind_mem t h)
theorem sFetch_ok {pc : Nat} {x : Instr × Nat × List Nat} {f : sEn → Bool} : ∀ (l : List (Nat × List sEn)), (l.all fun c => c.2.all f) = true → sFetch pc l = some x → f (pc, x) = true
  | [], _, h => by simp [sFetch] at h
  | (u, es) :: t, ha, h => by
    simp only [List.all_cons, Bool.and_eq_true] at ha
    simp only [sFetch] at h
    split at h
    · exact List.all_eq_true.mp ha.1 _ (sFind_mem _ h)
    · exact sFetch_ok t ha.2 h
