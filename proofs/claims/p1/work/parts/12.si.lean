/-! ===== the walker: methods, states, ends; it only reckons, what it says is proved in the next part ===== -/
abbrev sEn : Type := Nat × Instr × Nat × List Nat
/-- a method: its name, bytes, locals, what it answers, its rows in bundles (each with the first place behind it), its handlers, how many parameters -/
abbrev sMd : Type := MethodName × ByteArray × Nat × Option FieldType × List (Nat × List sEn) × List (Nat × Nat × Nat × Nat) × Nat
abbrev mY (M : sMd) : MethodName := M.1
abbrev mC (M : sMd) : ByteArray := M.2.1
abbrev mL (M : sMd) : Nat := M.2.2.1
abbrev mR (M : sMd) : Option FieldType := M.2.2.2.1
abbrev mT (M : sMd) : List (Nat × List sEn) := M.2.2.2.2.1
abbrev mH (M : sMd) : List (Nat × Nat × Nat × Nat) := M.2.2.2.2.2.1
abbrev mN (M : sMd) : Nat := M.2.2.2.2.2.2
/-- bounds, world, place, locals, stack, cells and slots made -/
abbrev sS : Type := sE × List sC × Nat × sM × List sV × Nat × Nat
/-- an end: 0 before a return, 1 before a throw, 2 a callee's exception (its number last), 3 at the place asked for -/
abbrev sO : Type := Nat × sS × Nat
abbrev sRs : Type := List sO × Nat × Nat
abbrev sRun : Type := Nat → Nat → Nat → sS → Option sRs
def sFind (pc : Nat) : List sEn → Option (Instr × Nat × List Nat)
  | [] => none
  | (i, x) :: t => if i = pc then some x else sFind pc t
def sFetch (pc : Nat) : List (Nat × List sEn) → Option (Instr × Nat × List Nat)
  | [] => none
  | (u, es) :: t => if pc < u then sFind pc es else sFetch pc t
def sFL {α : Type} : sM → (sM → α) → α
  | [], k => k []
  | (i, x) :: t, k => sFL t (fun t' => k ((i, x) :: t'))
def sFW {α : Type} : List sC → (List sC → α) → α
  | [], k => k []
  | .inl (i, x) :: t, k => sFW t (fun t' => k (.inl (i, x) :: t'))
  | .inr (i, x, y) :: t, k => sFW t (fun t' => k (.inr (i, x, y) :: t'))
theorem sFL_eq {α : Type} : ∀ (l : sM) (k : sM → α), sFL l k = k l
  | [], _ => rfl
  | (i, x) :: t, k => sFL_eq t (fun t' => k ((i, x) :: t'))
theorem sFW_eq {α : Type} : ∀ (l : List sC) (k : List sC → α), sFW l k = k l
  | [], _ => rfl
  | .inl (i, x) :: t, k => sFW_eq t (fun t' => k (.inl (i, x) :: t'))
  | .inr (i, x, y) :: t, k => sFW_eq t (fun t' => k (.inr (i, x, y) :: t'))
def sSum (st : List sV) : Nat := (st.map fun x => if sK x = 1 then 2 else 1).sum
theorem sSum_ok {ρ : Nat → Int32} {ads : List Nat} {ex : Nat → Nat} : ∀ (st : List sV) (vs : List Value), sA2 (sRep ρ ads ex) st vs → (vs.map fun v => v.category).sum = sSum st
  | [], [], _ => rfl
  | x :: xs, v :: vs, ⟨h1, h2⟩ => by
    have ih := sSum_ok xs vs h2
    simp only [List.map_cons, List.sum_cons, sSum] at ih ⊢
    rw [ih, sRep_cat h1]
  | [], _ :: _, q => q.elim
  | _ :: _, [], q => q.elim
def sMrg : List (Option sRs) → Nat → Nat → Option sRs
  | [], mc, ms => some ([], mc, ms)
  | none :: _, _, _ => none
  | some (o, c, s) :: t, mc, ms => match sMrg t (max mc c) (max ms s) with
    | none => none
    | some (o', c', s') => some (o ++ o', c', s')
def sCnt (R : sRun) (d mi stop : Nat) (S : sS) : Option sRs := match S with
  | (env, wd, pc, lv, st, cells, slots) => if pc = stop then some ([(3, (env, wd, pc, lv, st, cells, slots), 0)], cells, slots) else R d mi stop (env, wd, pc, lv, st, cells, slots)
def sCt (e : Nat) : Nat := match e with
  | 0 => 13
  | _ => 18
def sHnd : List (Nat × Nat × Nat × Nat) → Nat → Nat → Option Nat
  | [], _, _ => none
  | (a, b, h, ct) :: t, pc, e => if a ≤ pc ∧ pc < b then (if ct = sCt e then some h else if e = 0 ∧ ct = 18 then sHnd t pc e else none) else sHnd t pc e
def sBool (x : sV) : Bool := decide (x = (0, 0)) || decide (x = (0, 1))
def sRv (ret : Option FieldType) (env : sE) (st : List sV) : Option (List sV) := match ret with
  | none => (match st with
    | [] => some []
    | _ => none)
  | some .int => (match st with
    | [x] => if sK x = 0 then some [sN env x] else none
    | _ => none)
  | some .boolean => (match st with
    | [x] => if sBool (sN env x) = true then some [sN env x] else none
    | _ => none)
  | _ => none
def sRetI (ins : Instr) (ret : Option FieldType) : Bool := match ins with
  | .ireturn => (match ret with
    | some .int => true
    | some .boolean => true
    | _ => false)
  | .return_ => (match ret with
    | none => true
    | _ => false)
  | _ => false
/-- calls that are done in one step: Object's constructor, the lesser and the greater of two, a copy of rows -/
def sBlt (env : sE) (wd : List sC) (ins : Instr) (ax : List Nat) (st : List sV) : Option (List sV) := match ins with
  | .invokespecial _ => (match ax with
    | [2, _, _, _] => s1 st fun x t => if sK x = 2 ∧ sSum t ≤ 8 then some t else none
    | _ => none)
  | .invokestatic _ => (match ax with
    | [3, _, _, _, _] => s2 st fun a b r => if sSum r ≤ 8 then (sF (fun x y => if y < x then y else x) env a b).map fun x => x :: r else none
    | [4, _, _, _, _] => s2 st fun a b r => if sSum r ≤ 8 then (sF (fun x y => if x < y then y else x) env a b).map fun x => x :: r else none
    | [2, _, _, _, _] => (match st with
      | z :: dp :: (3, r1) :: sp :: (3, r0) :: t => (match sRow wd r0 0, sRow wd r1 0, sN env z, sN env dp, sN env sp with
        | some (n0, ov0), some (n1, ov1), (0, z'), (0, dp'), (0, sp') => if sSum t ≤ 8 ∧ 0 ≤ z' ∧ 0 ≤ dp' ∧ 0 ≤ sp' ∧ sp' + z' ≤ (n0 : Int) ∧ dp' + z' ≤ (n1 : Int) ∧ n0 ≤ 100000 ∧ n1 ≤ 100000 ∧ (z' = 0 ∨ (ov0 = [] ∧ ov1 = [])) then some t else none
        | _, _, _, _, _ => none)
      | _ => none)
    | _ => none)
  | _ => none
def sThr (ins : Instr) (ax : List Nat) : Option Nat := match ins with
  | .new _ => (match ax with
    | [1, e, _, _] => some e
    | _ => none)
  | _ => none
/-- whom a call calls: the method's number, and how -/
def sInv (ins : Instr) (ax : List Nat) : Option (Nat × Nat) := match ins with
  | .invokevirtual _ => (match ax with
    | [mi, _, _, _] => some (mi, 0)
    | _ => none)
  | .invokestatic _ => (match ax with
    | [0, mi, _, _] => some (mi, 1)
    | [1, mi, _, _] => some (mi, 2)
    | _ => none)
  | .invokespecial _ => (match ax with
    | [0, mi, _, _] => some (mi, 3)
    | [1, mi, _, _] => some (mi, 4)
    | _ => none)
  | _ => none
def sArgs : Nat → List sV → sM
  | _, [] => []
  | i, x :: t => (i, x) :: sArgs (if sK x = 1 then i + 2 else i + 1) t
/-- behind a call: one end of the callee's, and how the caller goes on -/
def sAft (R : sRun) (d mi stop : Nat) (hh : List (Nat × Nat × Nat × Nat)) (ret : Option FieldType) (pc : Nat) (lv : sM) (rest : List sV) (cells slots : Nat) (o : sO) : Option sRs := match o with
  | (0, (env, wd, _, _, st, _, _), _) => (match sRv ret env st with
    | some r => sCnt R d mi stop (env, wd, pc + 3, lv, r ++ rest, cells, slots)
    | none => none)
  | (3, _, _) => none
  | (_, (env, wd, _, _, _, _, _), x) => (match hh with
    | [] => some ([(2, (env, wd, pc, lv, rest, cells, slots), x)], cells, slots)
    | _ => (match sHnd hh pc x with
      | some h => sCnt R d mi stop (env, wd, h, lv, [(8, 0)], cells, slots)
      | none => none))
/-- the receiver is an object of the method's own kind -/
def sRc (wd : List sC) (M : sMd) (As : List sV) : Bool := match As with
  | (3, r) :: _ => (match sObj wd r with
    | some (ci, _) => (match vwCl[ci]? with
      | some q => decide (q.1 = (mY M).cls)
      | none => false)
    | none => false)
  | _ => false
def sRf (As : List sV) : Bool := match As with
  | x :: _ => decide (sK x = 2)
  | _ => false
def sCll (PT : List sMd) (R : sRun) (d mi stop : Nat) (hh : List (Nat × Nat × Nat × Nat)) (ins : Instr) (len : Nat) (ax : List Nat) (env : sE) (wd : List sC) (pc : Nat) (lv : sM) (st : List sV) (cells slots : Nat) : Option sRs := match sInv ins ax, d with
  | some (mj, kd), d' + 1 => (match PT[mj]? with
    | some M' => (match (if kd = 1 ∨ kd = 2 then mN M' else mN M' + 1) with
      | na => if mj ≠ 0 ∧ len = 3 ∧ na ≤ st.length ∧ sSum (st.drop na) ≤ 8 ∧ sSum (st.take na).reverse ≤ mL M' ∧ mL M' ≤ 45 ∧ (kd = 0 → sRc wd M' (st.take na).reverse = true) ∧ (3 ≤ kd → sRf (st.take na).reverse = true) then (match R d' mj 100000 (env, wd, 0, sArgs 0 (st.take na).reverse, [], 0, 0) with
        | some (outs, mc, ms) => if kd ≤ 1 ∨ outs.all (fun o => decide (o.1 = 0)) = true then sMrg (outs.map fun o => sAft R (d' + 1) mi stop hh (mR M') pc lv (st.drop na) (cells + mc) (slots + ms) o) (cells + mc) (slots + ms) else none
        | none => none) else none)
    | none => none)
  | _, _ => none
def sStep (PT : List sMd) (R : sRun) (d mi stop : Nat) (S : sS) : Option sRs := match PT[mi]?, S with
  | none, _ => none
  | some M, (env, wd, pc, lv, st, cells, slots) => (match sFetch pc (mT M) with
    | none => none
    | some (ins, len, ax) => (match sPure env (mL M) ins lv st with
      | some (n, lv', st') => if n = len then sFL lv' (fun v => sCnt R d mi stop (env, wd, pc + n, v, st', cells, slots)) else none
      | none => (match sBr env pc len ins st with
        | some nx => sMrg (nx.map fun q => sCnt R d mi stop (q.1, wd, q.2.1, lv, q.2.2, cells, slots)) cells slots
        | none => (match sHp env wd ins ax st with
          | some (n, wd', st', dc, ds) => if n = len then (match dc with
            | 0 => sFW wd' (fun w => sCnt R d mi stop (env, w, pc + n, lv, st', cells, slots))
            | k + 1 => sFW wd' (fun w => sCnt R d mi stop (env, w, pc + n, lv, st', cells + (k + 1), slots + ds))) else none
          | none => (match sBlt env wd ins ax st with
            | some st' => if len = 3 then sCnt R d mi stop (env, wd, pc + 3, lv, st', cells, slots) else none
            | none => if sRetI ins (mR M) = true then (match sRv (mR M) env st with
                | some _ => if len = 1 then some ([(0, (env, wd, pc, lv, st, cells, slots), 0)], cells, slots) else none
                | none => none)
              else (match sThr ins ax with
                | some x => if sSum st ≤ 8 ∧ len = 3 ∧ mH M = [] then some ([(1, (env, wd, pc, lv, st, cells, slots), x)], cells + 1, slots + 6) else none
                | none => sCll PT R d mi stop (mH M) ins len ax env wd pc lv st cells slots))))))
noncomputable def sGoN (PT : List sMd) (n : Nat) : sRun := Nat.rec (fun _ _ _ _ => none) (fun _ R => sStep PT R) n
theorem sGoN_succ (PT : List sMd) (n : Nat) : sGoN PT (n + 1) = sStep PT (sGoN PT n) := rfl
/-! ### what a row of a method's table must be -/
def sLdc (cc : ByteArray) (pc is ic w : Nat) : Bool := match w with
  | 0 => decide (decode cc (pc + 4) = .ok (.ldc is, 2)) && (decide (decode cc (pc + 6) = .ok (.invokespecial ic, 3)) && decide (decode cc (pc + 9) = .ok (.athrow, 1)))
  | _ => decide (decode cc (pc + 4) = .ok (.ldc_w is, 3)) && (decide (decode cc (pc + 7) = .ok (.invokespecial ic, 3)) && decide (decode cc (pc + 10) = .ok (.athrow, 1)))
def sEntX (own : String) (cc : ByteArray) (pc : Nat) (i : Nat) (ax : List Nat) : Bool := match ax with
  | [1, e, j, w] => decide (own = "WavingDesks") && (decide (decode cc (pc + 3) = .ok (.dup, 1)) && (match sStr[j]? with
    | some q => decide (q.1 = own) && (match e with
      | 0 => decide (i = 76) && sLdc cc pc q.2.1 80 w
      | 1 => decide (i = 159) && sLdc cc pc q.2.1 163 w
      | _ => false)
    | none => false))
  | _ => true
def sEntC (PT : List sMd) (own : String) (ins : Instr) (ax : List Nat) : Bool := match ins with
  | .invokevirtual i => (match ax with
    | [] => true
    | [mi, pL, pI, pS] => (match PT[mi]? with
      | some M => sAt pL (.methodLink own i (mY M)) && (sAt pI (.instanceMethod (mY M)) && (sAt pS (.selects (mY M).cls (mY M) (mY M)) && (decide (mH M = []) && decide ((mY M).name ≠ "<init>"))))
      | none => false)
    | _ => false)
  | .invokestatic i => (match ax with
    | [] => true
    | [0, mi, pL, pS] => (match PT[mi]? with
      | some M => sAt pL (.methodLink own i (mY M)) && sAt pS (.static (mY M))
      | none => false)
    | [1, mi, q, pS] => (match PT[mi]?, sNest[q]? with
      | some M, some (a, b, y, _) => decide (a = own) && (decide (b = i) && (decide (y = mY M) && (sAt pS (.static (mY M)) && decide (mH M = []))))
      | _, _ => false)
    | [2, pL, pN, pS, pI] => sAt pL (.methodLink own i arraycopyName) && (sAt pN (.native arraycopyName) && (sAt pS (.static arraycopyName) && sAt pI (.initialized "java/lang/System")))
    | [3, pL, pS, pI, pC] => sAt pL (.methodLink own i Lib.Math.min.name) && (sAt pS (.static Lib.Math.min.name) && (sAt pI (.initialized "java/lang/Math") && sAt pC (.code Lib.Math.min.name Lib.Math.min.code 2 (some .int))))
    | [4, pL, pS, pI, pC] => sAt pL (.methodLink own i Lib.Math.max.name) && (sAt pS (.static Lib.Math.max.name) && (sAt pI (.initialized "java/lang/Math") && sAt pC (.code Lib.Math.max.name Lib.Math.max.code 2 (some .int))))
    | _ => false)
  | .invokespecial i => (match ax with
    | [] => true
    | [0, mi, pL, pI] => (match PT[mi]? with
      | some M => sAt pL (.methodLink own i (mY M)) && (sAt pI (.instanceMethod (mY M)) && (decide ((mY M).name = "<init>") && (decide (mR M = none) && decide (mH M = []))))
      | none => false)
    | [1, mi, q, pI] => (match PT[mi]?, sNest[q]? with
      | some M, some (a, b, y, _) => decide (a = own) && (decide (b = i) && (decide (y = mY M) && (sAt pI (.instanceMethod (mY M)) && (decide ((mY M).name = "<init>") && (decide (mR M = none) && decide (mH M = []))))))
      | _, _ => false)
    | [2, pL, pI, pC] => sAt pL (.methodLink own i Lib.objectInit) && (sAt pI (.instanceMethod Lib.objectInit) && sAt pC (.code Lib.objectInit ⟨#[0xb1]⟩ 1 none))
    | _ => false)
  | .new i => true
  | _ => true
def sOkE (PT : List sMd) (M : sMd) (en : sEn) : Bool := decide (decode (mC M) en.1 = .ok (en.2.1, en.2.2.1)) && (sEntC PT (mY M).cls en.2.1 en.2.2.2 && (match en.2.1 with
  | .new i => (match en.2.2.2 with
    | 1 :: _ => sEntX (mY M).cls (mC M) en.1 i en.2.2.2
    | ax => sEntH (mY M).cls (mY M).name (.new i) ax)
  | ins => sEntH (mY M).cls (mY M).name ins en.2.2.2))
def sOkT (PT : List sMd) (M : sMd) : Bool := (mT M).all fun c => c.2.all (sOkE PT M)
/-- a method that may be called -/
def sOkQ (M : sMd) : Prop := plainName (mY M).cls = true ∧ ((mH M = [] ∧ Cond.code (mY M) (mC M) (mL M) (mR M) ∈ sB) ∨ (mH M ≠ [] ∧ Cond.codeWith (mY M) (mC M) (mL M) (mR M) (mH M) ∈ sB)) ∧ Cond.initialized (mY M).cls ∈ sB ∧
  ((mY M).cls ≠ "java/lang/invoke/MethodHandle" ∧ (mY M).cls ≠ "java/lang/invoke/VarHandle" ∧ (parseMethodDescriptor (mY M).desc).map (fun d => d.parameters.length) = some (mN M))
