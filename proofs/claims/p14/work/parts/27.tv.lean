noncomputable section
/-! ### what a row of a method's table must be -/
def sLdc (cc : ByteArray) (pc is ic w : Nat) : Bool := match w with
  | 0 => decide (decode cc (pc + 4) = .ok (.ldc is, 2)) && (decide (decode cc (pc + 6) = .ok (.invokespecial ic, 3)) && decide (decode cc (pc + 9) = .ok (.athrow, 1)))
  | _ => decide (decode cc (pc + 4) = .ok (.ldc_w is, 3)) && (decide (decode cc (pc + 7) = .ok (.invokespecial ic, 3)) && decide (decode cc (pc + 10) = .ok (.athrow, 1)))
def sEntX (own : String) (cc : ByteArray) (pc : Nat) (i : Nat) (ax : List Nat) : Bool := match ax with
  | [1, e, j, w] => decide (own = "WavingDesks") && (decide (decode cc (pc + 3) = .ok (.dup, 1)) && (match sStr[j]? with
    | some q => decide (q.1 = own) && (match e with
      | 0 => decide (i = 76) && sLdc cc pc q.2.1 80 w
      | 1 => decide (i = 159) && sLdc cc pc q.2.1 163 w
      | _ => false)
    | none => false))
  | _ => true
def sEntC (PT : List sMd) (own : String) (ins : Instr) (ax : List Nat) : Bool := match ins with
  | .invokevirtual i => (match ax with
    | [] => true
    | [mi, pL, pI, pS] => (match PT[mi]? with
      | some M => sAt pL (.methodLink own i (mY M)) && (sAt pI (.instanceMethod (mY M)) && (sAt pS (.selects (mY M).cls (mY M) (mY M)) && (decide (mH M = []) && decide ((mY M).name ≠ "<init>"))))
      | none => false)
    | _ => false)
  | .invokestatic i => (match ax with
    | [] => true
    | [0, mi, pL, pS] => (match PT[mi]? with
      | some M => sAt pL (.methodLink own i (mY M)) && sAt pS (.static (mY M))
      | none => false)
    | [1, mi, q, pS] => (match PT[mi]?, sNest[q]? with
      | some M, some (a, b, y, _) => decide (a = own) && (decide (b = i) && (decide (y = mY M) && (sAt pS (.static (mY M)) && decide (mH M = []))))
      | _, _ => false)
    | [2, pL, pN, pS, pI] => sAt pL (.methodLink own i arraycopyName) && (sAt pN (.native arraycopyName) && (sAt pS (.static arraycopyName) && sAt pI (.initialized "java/lang/System")))
    | [3, pL, pS, pI, pC] => sAt pL (.methodLink own i Lib.Math.min.name) && (sAt pS (.static Lib.Math.min.name) && (sAt pI (.initialized "java/lang/Math") && sAt pC (.code Lib.Math.min.name Lib.Math.min.code 2 (some .int))))
    | [4, pL, pS, pI, pC] => sAt pL (.methodLink own i Lib.Math.max.name) && (sAt pS (.static Lib.Math.max.name) && (sAt pI (.initialized "java/lang/Math") && sAt pC (.code Lib.Math.max.name Lib.Math.max.code 2 (some .int))))
    | _ => false)
  | .invokespecial i => (match ax with
    | [] => true
    | [0, mi, pL, pI] => (match PT[mi]? with
      | some M => sAt pL (.methodLink own i (mY M)) && (sAt pI (.instanceMethod (mY M)) && (decide ((mY M).name = "<init>") && (decide (mR M = none) && decide (mH M = []))))
      | none => false)
    | [1, mi, q, pI] => (match PT[mi]?, sNest[q]? with
      | some M, some (a, b, y, _) => decide (a = own) && (decide (b = i) && (decide (y = mY M) && (sAt pI (.instanceMethod (mY M)) && (decide ((mY M).name = "<init>") && (decide (mR M = none) && decide (mH M = []))))))
      | _, _ => false)
    | [2, pL, pI, pC] => sAt pL (.methodLink own i Lib.objectInit) && (sAt pI (.instanceMethod Lib.objectInit) && sAt pC (.code Lib.objectInit ⟨#[0xb1]⟩ 1 none))
    | _ => false)
  | .new i => true
  | _ => true
def sOkE (PT : List sMd) (M : sMd) (en : sEn) : Bool := decide (decode (mC M) en.1 = .ok (en.2.1, en.2.2.1)) && (sEntC PT (mY M).cls en.2.1 en.2.2.2 && (match en.2.1 with
  | .new i => (match en.2.2.2 with
    | 1 :: _ => sEntX (mY M).cls (mC M) en.1 i en.2.2.2
    | ax => sEntH (mY M).cls (mY M).name (.new i) ax)
  | ins => sEntH (mY M).cls (mY M).name ins en.2.2.2))
def sOkT (PT : List sMd) (M : sMd) : Bool := (mT M).all fun c => c.2.all (sOkE PT M)
/-- a method that may be called -/
def sOkQ (M : sMd) : Prop := plainName (mY M).cls = true ∧ ((mH M = [] ∧ Cond.code (mY M) (mC M) (mL M) (mR M) ∈ sB) ∨ (mH M ≠ [] ∧ Cond.codeWith (mY M) (mC M) (mL M) (mR M) (mH M) ∈ sB)) ∧ Cond.initialized (mY M).cls ∈ sB ∧
  ((mY M).cls ≠ "java/lang/invoke/MethodHandle" ∧ (mY M).cls ≠ "java/lang/invoke/VarHandle" ∧ (parseMethodDescriptor (mY M).desc).map (fun d => d.parameters.length) = some (mN M))
/-! ===== what the walker says holds of the machine ===== -/
def sEx (x : Nat) : String := match x with
  | 0 => sIAE
  | _ => sNSE
def sFix (p : Program) (l : Launch) (Rm : Room) (s : State) (m : MethodId) (args : Array Value) (meth : Method) (c : Code) (M : sMd) (d : Nat) (ex : Nat → Nat) (g : sG) (n0 L : Nat) (sc : Nat → Int32) : Prop :=
  p.tables.exec = Jvm.exec ∧ c.code = mC M ∧ c.maxLocals = mL M ∧ s.vm.findClass (mY M).cls = some m.cls ∧ (∀ w ∈ sB, w.before args s = true) ∧ meth.name = (mY M).name ∧ meth.locks = false ∧ c.exceptionTable.toList = tableOf (mH M) ∧ 8 + d ≤ Rm.frames ∧ 128 + 64 * d ≤ Rm.locals ∧ l.stackTraces = false ∧ sCtx sc L ex g n0 s ∧ meth.sig.returnType = mR M
def sKo (p : Program) (l : Launch) (e : Env) (Rm : Room) (s : State) (m : MethodId) (args : Array Value) (below : List Frame) (meth : Method) (c : Code) (Q : State → Prop) (M : sMd) (ρ : List Int) (ex : Nat → Nat) (g : sG) (n0 L : Nat) (sc : Nat → Int32) (oc os : Nat) (ws : va_W) (o : sO) : Prop :=
  ∀ (ρ' : List Int) (ws' : va_W) (H' : Heap) (locs' : List Loc) (ls' : Array Slot) (lc' : List (Nat × Value)) (vs' : List Value), ρ <+: ρ' → ws.map Prod.fst <+: ws'.map Prod.fst → sCok ρ' o.2.1.1 → (∀ f ∈ o.2.1.2.1, sWf (sAc ws') L sc ρ' f) → sPt ρ' ex g (fun q => n0 ≤ q) o.2.1.2.2.1 ws' H' s.heap locs' → lv_has ls' (mL M) lc' → sA2 (sRL ρ' (ws'.map Prod.fst) ex) o.2.1.2.2.2.2.1 lc' → sA2 (sRep ρ' (ws'.map Prod.fst) ex) o.2.1.2.2.2.2.2.1 vs' →
    (o.1 ≠ 2 → W p l e Rm s m args below meth c H' locs' (o.2.1.2.2.2.2.2.2.1 + oc) (o.2.1.2.2.2.2.2.2.2 + os) Q (F0 m o.2.1.2.2.2.1 ls' vs')) ∧
    (o.1 = 2 → ∀ (q : Addr) (ce : Cell), H'[q]? = some ce → ce.vm = .none → s.vm.findClass (sEx o.2.2) = some ce.cls → vx_W p l e Rm s m args below meth c H' locs' (o.2.1.2.2.2.2.2.2.1 + oc) (o.2.1.2.2.2.2.2.2.2 + os) Q (F0 m o.2.1.2.2.2.1 ls' vs') q)
def sWalk (PT : List sMd) (d mi : Nat) (S : sS) (outs : List sO) (mc ms : Nat) : Prop :=
  ∀ (M : sMd), PT[mi]? = some M → ∀ (ρ : List Int) (ex : Nat → Nat) (g : sG) (n0 L : Nat) (sc : Nat → Int32) (p : Program) (l : Launch) (e : Env) (Rm : Room) (s : State) (m : MethodId) (args : Array Value) (below : List Frame) (meth : Method) (c : Code) (Q : State → Prop), sFix p l Rm s m args meth c M d ex g n0 L sc → ∀ (oc os : Nat), mc + oc ≤ Rm.cells → ms + os ≤ Rm.slots →
    ∀ (ws : va_W) (H : Heap) (locs : List Loc) (ls : Array Slot) (lc : List (Nat × Value)) (vs : List Value), sCok ρ S.1 → (∀ f ∈ S.2.1, sWf (sAc ws) L sc ρ f) → sPt ρ ex g (fun q => n0 ≤ q) S.2.2.1 ws H s.heap locs → lv_has ls (mL M) lc → sA2 (sRL ρ (ws.map Prod.fst) ex) S.2.2.2.2.1 lc → sA2 (sRep ρ (ws.map Prod.fst) ex) S.2.2.2.2.2.1 vs →
    (∀ o ∈ outs, sKo p l e Rm s m args below meth c Q M ρ ex g n0 L sc oc os ws o) → W p l e Rm s m args below meth c H locs (S.2.2.2.2.2.2.1 + oc) (S.2.2.2.2.2.2.2 + os) Q (F0 m S.2.2.2.1 ls vs)
/-- what an end tells of its place -/
def sOi (PT : List sMd) (mi : Nat) (cuts : List Nat) (o : sO) : Prop := ∀ M, PT[mi]? = some M →
  (o.1 = 0 → ∃ (ins : Instr) (r : List sV), decode (mC M) o.2.1.2.2.2.1 = .ok (ins, 1) ∧ sRetI ins (mR M) = true ∧ sRv (mR M) o.2.1.1.2.1 o.2.1.2.2.2.2.2.1 = some r) ∧
  (o.1 = 1 → ∃ (i j w : Nat), decode (mC M) o.2.1.2.2.2.1 = .ok (.new i, 3) ∧ sEntX (mY M).cls (mC M) o.2.1.2.2.2.1 i [1, o.2.2, j, w] = true ∧ sSum o.2.1.2.2.2.2.2.1 ≤ 8 ∧ mH M = []) ∧
  (o.1 = 2 → mH M = []) ∧ (o.1 = 3 → sIsC cuts o.2.1.2.2.2.1 = true) ∧ o.1 ≤ 3
def sCm (o : sO) (mc ms : Nat) : Prop := o.2.1.2.2.2.2.2.2.1 ≤ mc ∧ o.2.1.2.2.2.2.2.2.2 ≤ ms ∧ (o.1 = 1 → o.2.1.2.2.2.2.2.2.1 + 1 ≤ mc ∧ o.2.1.2.2.2.2.2.2.2 + 6 ≤ ms)
def sGood (PT : List sMd) (d mi : Nat) (cuts : List Nat) (S : sS) (r : sRt) : Prop := S.2.2.2.2.2.2.1 ≤ r.2.1 ∧ S.2.2.2.2.2.2.2 ≤ r.2.2 ∧ (∀ o ∈ r.1, sCm o r.2.1 r.2.2 ∧ sOi PT mi cuts o) ∧ sWalk PT d mi S r.1 r.2.1 r.2.2
def sSnd (PT : List sMd) (R : sRun) : Prop := ∀ (d mi : Nat) (cuts : List Nat) (S : sS) (r : sRt), R d mi cuts S = some r → sGood PT d mi cuts S r
theorem sKo_ws {p : Program} {l : Launch} {e : Env} {Rm : Room} {s : State} {m : MethodId} {args : Array Value} {below : List Frame} {meth : Method} {c : Code} {Q : State → Prop} {M : sMd} {ρ ρ1 : List Int} {ex : Nat → Nat} {g : sG} {n0 L : Nat} {sc : Nat → Int32} {oc os : Nat} {ws ws1 : va_W} {o : sO} (hr : ρ <+: ρ1) (hp : ws.map Prod.fst <+: ws1.map Prod.fst) (h : sKo p l e Rm s m args below meth c Q M ρ ex g n0 L sc oc os ws o) : sKo p l e Rm s m args below meth c Q M ρ1 ex g n0 L sc oc os ws1 o :=
  fun ρ' ws' H' locs' ls' lc' vs' hr' hp' => h ρ' ws' H' locs' ls' lc' vs' (hr.trans hr') (hp.trans hp')
theorem sCnt_ok {PT : List sMd} {R : sRun} (hR : sSnd PT R) {d mi : Nat} {cuts : List Nat} {S : sS} {r : sRt} (h : sCnt R d mi cuts S = some r) : sGood PT d mi cuts S r := by
  obtain ⟨κ, G, wd, pc, lv, st, cells, slots⟩ := S
  simp only [sCnt] at h
  split at h
  · rename_i hc
    cases h
    refine ⟨Nat.le_refl _, Nat.le_refl _, fun o ho => ?_, ?_⟩
    · rw [List.mem_singleton] at ho
      subst ho
      exact ⟨⟨Nat.le_refl _, Nat.le_refl _, (fun q => by cases q)⟩, fun M _ => ⟨(fun q => by cases q), (fun q => by cases q), (fun q => by cases q), (fun _ => hc), Nat.le_refl 3⟩⟩
    · intro M hM ρ ex g n0 L sc p l e Rm s m args below meth c Q hF oc os h1 h2 ws H locs ls lc vs hs hG hpt hl hL hS K
      exact (K _ List.mem_cons_self ρ ws H locs ls lc vs List.prefix_rfl List.prefix_rfl hs hG hpt hl hL hS).1 (show (3 : Nat) ≠ 2 by decide)
  · exact hR _ _ _ _ _ h
theorem sCm_mono {o : sO} {c1 s1 c2 s2 : Nat} (h : sCm o c1 s1) (hc : c1 ≤ c2) (hs : s1 ≤ s2) : sCm o c2 s2 := ⟨Nat.le_trans h.1 hc, Nat.le_trans h.2.1 hs, fun q => ⟨Nat.le_trans (h.2.2 q).1 hc, Nat.le_trans (h.2.2 q).2 hs⟩⟩
theorem sMrg_ok : ∀ (l : List (Option sRt)) (mc0 ms0 : Nat) (r : sRt), sMrg l mc0 ms0 = some r → mc0 ≤ r.2.1 ∧ ms0 ≤ r.2.2 ∧ (∀ x ∈ l, ∃ y, x = some y ∧ y.2.1 ≤ r.2.1 ∧ y.2.2 ≤ r.2.2 ∧ ∀ o ∈ y.1, o ∈ r.1) ∧ ∀ o ∈ r.1, ∃ y, some y ∈ l ∧ o ∈ y.1 ∧ y.2.1 ≤ r.2.1 ∧ y.2.2 ≤ r.2.2
  | [], mc0, ms0, r, h => by
    simp only [sMrg] at h
    cases h
    exact ⟨Nat.le_refl _, Nat.le_refl _, fun x hx => (by cases hx), fun o ho => (by cases ho)⟩
  | none :: t, mc0, ms0, r, h => by simp [sMrg] at h
  | some (o, c, s) :: t, mc0, ms0, r, h => by
    simp only [sMrg] at h
    split at h
    · cases h
    · rename_i o' c' s' hm
      cases h
      obtain ⟨h1, h2, h3, h4⟩ := sMrg_ok t _ _ _ hm
      simp only at h1 h2 h3 h4 ⊢
      refine ⟨by omega, by omega, fun x hx => ?_, fun z hz => ?_⟩
      · rcases List.mem_cons.mp hx with rfl | hx
        · exact ⟨_, rfl, by simp only; omega, by simp only; omega, fun z hz => List.mem_append_left _ hz⟩
        · obtain ⟨y, e1, e2, e3, e4⟩ := h3 x hx
          exact ⟨y, e1, e2, e3, fun z hz => List.mem_append_right _ (e4 z hz)⟩
      · rcases List.mem_append.mp hz with hz | hz
        · exact ⟨(o, c, s), List.mem_cons_self, hz, by simp only; omega, by simp only; omega⟩
        · obtain ⟨y, e1, e2, e3, e4⟩ := h4 z hz
          exact ⟨y, List.mem_cons_of_mem _ e1, e2, e3, e4⟩
theorem sFind_mem {pc : Nat} {x : Instr × Nat × List Nat} : ∀ (l : List sEn), sFind pc l = some x → (pc, x) ∈ l
  | [], h => by simp [sFind] at h
  | (i, y) :: t, h => by
    simp only [sFind] at h
    split at h
    · rename_i e
      cases h
      subst e
      exact List.mem_cons_self
    · exact List.mem_cons_of_mem _ (sFind_mem t h)
theorem sFetch_ok {pc : Nat} {x : Instr × Nat × List Nat} {f : sEn → Bool} : ∀ (l : List (Nat × List sEn)), (l.all fun c => c.2.all f) = true → sFetch pc l = some x → f (pc, x) = true
  | [], _, h => by simp [sFetch] at h
  | (u, es) :: t, ha, h => by
    simp only [List.all_cons, Bool.and_eq_true] at ha
    simp only [sFetch] at h
    split at h
    · exact List.all_eq_true.mp ha.1 _ (sFind_mem _ h)
    · exact sFetch_ok t ha.2 h
end
