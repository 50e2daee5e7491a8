noncomputable section
/-! ===== the walker: methods, states, ends; it only reckons, what it says is proved in the next parts ===== -/
abbrev sEn : Type := Nat × Instr × Nat × List Nat
/-- a method: its name, bytes, locals, what it answers, its rows in bundles (each with the first place behind it), its handlers, how many parameters -/
abbrev sMd : Type := MethodName × ByteArray × Nat × Option FieldType × List (Nat × List sEn) × List (Nat × Nat × Nat × Nat) × Nat
abbrev mY (M : sMd) : MethodName := M.1
abbrev mC (M : sMd) : ByteArray := M.2.1
abbrev mL (M : sMd) : Nat := M.2.2.1
abbrev mR (M : sMd) : Option FieldType := M.2.2.2.1
abbrev mT (M : sMd) : List (Nat × List sEn) := M.2.2.2.2.1
abbrev mH (M : sMd) : List (Nat × Nat × Nat × Nat) := M.2.2.2.2.2.1
abbrev mN (M : sMd) : Nat := M.2.2.2.2.2.2
/-- numbers, facts on rows, world, place, locals, stack, cells and slots made -/
abbrev sS : Type := sCx × List sFc × List sC × Nat × sM × List sV × Nat × Nat
/-- an end: 0 before a return, 1 before a throw, 2 a callee's exception (its number last), 3 at a place asked for -/
abbrev sO : Type := Nat × sS × Nat
abbrev sRt : Type := List sO × Nat × Nat
abbrev sRun : Type := Nat → Nat → List Nat → sS → Option sRt
/-- how a callee ends: 0 it returns (with what), 1 it throws (which) -/
abbrev sOc : Type := Nat × sCx × List sFc × List sC × List sV × Nat
abbrev sCr : Type := Nat × List sOc × Nat × Nat
abbrev sClr : Type := Nat → Nat → sCx → List sFc → List sC → List sV → Option sCr
def sFind (pc : Nat) : List sEn → Option (Instr × Nat × List Nat)
  | [] => none
  | (i, x) :: t => if i = pc then some x else sFind pc t
def sFetch (pc : Nat) : List (Nat × List sEn) → Option (Instr × Nat × List Nat)
  | [] => none
  | (u, es) :: t => if pc < u then sFind pc es else sFetch pc t
def sSum (st : List sV) : Nat := (st.map fun x => if sK x = 1 then 2 else 1).sum
theorem sSum_ok {ρ : List Int} {ads : List Nat} {ex : Nat → Nat} : ∀ (st : List sV) (vs : List Value), sA2 (sRep ρ ads ex) st vs → (vs.map fun v => v.category).sum = sSum st
  | [], [], _ => rfl
  | x :: xs, v :: vs, ⟨h1, h2⟩ => by
    have ih := sSum_ok xs vs h2
    simp only [List.map_cons, List.sum_cons, sSum] at ih ⊢
    rw [ih, sRep_cat h1]
  | [], _ :: _, q => q.elim
  | _ :: _, [], q => q.elim
def sMrg : List (Option sRt) → Nat → Nat → Option sRt
  | [], mc, ms => some ([], mc, ms)
  | none :: _, _, _ => none
  | some (o, c, s) :: t, mc, ms => match sMrg t (max mc c) (max ms s) with
    | none => none
    | some (o', c', s') => some (o ++ o', c', s')
def sIsC : List Nat → Nat → Bool
  | [], _ => false
  | a :: t, pc => if a = pc then true else sIsC t pc
def sCnt (R : sRun) (d mi : Nat) (cuts : List Nat) (S : sS) : Option sRt := match S with
  | (κ, G, wd, pc, lv, st, cells, slots) => if sIsC cuts pc = true then some ([(3, (κ, G, wd, pc, lv, st, cells, slots), 0)], cells, slots) else R d mi cuts (κ, G, wd, pc, lv, st, cells, slots)
def sCt (e : Nat) : Nat := match e with
  | 0 => 13
  | _ => 18
def sHnd : List (Nat × Nat × Nat × Nat) → Nat → Nat → Option Nat
  | [], _, _ => none
  | (a, b, h, ct) :: t, pc, e => if a ≤ pc ∧ pc < b then (if ct = sCt e then some h else if e = 0 ∧ ct = 18 then sHnd t pc e else none) else sHnd t pc e
/-- an int within bounds -/
def sWin (env : sE) (x : sV) (a b : Int) : Bool := decide (sK x = 0) && (match sRg env x with
  | some (lo, hi) => decide (a ≤ lo) && decide (hi ≤ b)
  | none => false)
def sRv (ret : Option FieldType) (env : sE) (st : List sV) : Option (List sV) := match ret with
  | none => (match st with
    | [] => some []
    | _ => none)
  | some .int => (match st with
    | [x] => if sK x = 0 then some [sN env x] else none
    | _ => none)
  | some .boolean => (match st with
    | [x] => if sB01 env (sN env x) = true then some [sN env x] else none
    | _ => none)
  | some .char => (match st with
    | [x] => if sWin env x 0 65535 = true then some [sN env x] else none
    | _ => none)
  | some .byte => (match st with
    | [x] => if sWin env x (-128) 127 = true then some [sN env x] else none
    | _ => none)
  | some (.object _) => (match st with
    | [x] => if sK x = 2 then some [x] else none
    | _ => none)
  | _ => none
def sRetI (ins : Instr) (ret : Option FieldType) : Bool := match ins with
  | .ireturn => (match ret with
    | some .int => true
    | some .boolean => true
    | some .char => true
    | some .byte => true
    | _ => false)
  | .areturn => (match ret with
    | some (.object _) => true
    | _ => false)
  | .return_ => (match ret with
    | none => true
    | _ => false)
  | _ => false
def sHle (env : sE) (v : sV) (c : Int) : Bool := match sHi env v with
  | some z => decide (z ≤ c)
  | none => false
/-- what is said of a row holds of its copy -/
def sCpA (κ : sCx) (a b : Nat) (z : Int) (f : sFc) : List sFc := match f with
  | (62, [m], [r, id, o]) => if (Nat.beq r a && sHle κ.2.1 m (z - (o : Int))) = true then [(62, [m], [b, id, o])] else []
  | (66, [v, m, x], [r, f0]) => if (Nat.beq r a && sHle κ.2.1 m z) = true then [(66, [v, m, x], [b, f0])] else []
  | (67, [n, s, h, b', c, p, k, po], [kr, wr, pr, plr, ok, ow]) => if (decide (z = 40) && (Nat.beq ok 0 && (Nat.beq ow 0 && (!(Nat.beq kr b) && (!(Nat.beq wr b) && (!(Nat.beq pr b) && !(Nat.beq plr b))))))) = true then (if Nat.beq kr a = true then [(67, [n, s, h, b', c, p, k, po], [b, wr, pr, plr, 0, 0])] else if Nat.beq wr a = true then [(67, [n, s, h, b', c, p, k, po], [kr, b, pr, plr, 0, 0])] else []) else []
  | _ => []
/-- the acts' two rows move down by one -/
def sCpB (κ : sCx) (a : Nat) (f : sFc) : List sFc := match f with
  | (67, [n, s, h, b', c, p, k, po], [kr, wr, pr, plr, ok, ow]) => if sD4 kr wr pr plr = true then
      (if Nat.beq kr a = true then (if (Nat.beq ok 1 && sHle κ.2.1 n 39) = true then [(67, [n, s, h, b', c, p, k, po], [kr, wr, pr, plr, 0, ow])] else if (Nat.beq ok 0 && (sVe (sN κ.2.1 n) (0, 40) && sVe (sN κ.2.1 k) (0, 697))) = true then [(67, [(0, 39), s, h, b', c, p, (0, 17), po], [kr, wr, pr, plr, 0, ow + 1])] else [])
      else if Nat.beq wr a = true then (if (Nat.beq ow 1 && sHle κ.2.1 n 39) = true then [(67, [n, s, h, b', c, p, k, po], [kr, wr, pr, plr, ok, 0])] else []) else []) else []
  | _ => []
def sCpF (κ : sCx) (a b : Nat) (z sp dp : Int) (f : sFc) : List sFc := if (!(Nat.beq a b) && (decide (sp = 0) && decide (dp = 0))) = true then sCpA κ a b z f else if (Nat.beq a b && (decide (z = 39) && (decide (sp = 1) && decide (dp = 0)))) = true then sCpB κ a f else []
/-- facts on the acts' rows behind a copy of a row -/
def sCpG (κ : sCx) (G : List sFc) (a b : Nat) (z : Option Int) (sp dp : Int) : List sFc := (match z with
  | some zz => G.flatMap (sCpF κ a b zz sp dp)
  | none => []) ++ ((match sPk1 b with
  | some p => if a = b ∧ z = some 39 ∧ sp = 1 ∧ dp = 0 then (if sHas G (10, [], [p]) = true then [(12, [], [p])] else []) else if z = some 40 ∧ sp = 0 ∧ dp = 0 then (match sPk1 a with
    | some q => if p ≠ q ∧ sHas G (10, [], [q]) = true then [(13, [], [p, q])] else []
    | none => []) else []
  | none => (match sPw1 b with
    | some p => if a = b ∧ z = some 39 ∧ sp = 1 ∧ dp = 0 then (if sHas G (12, [], [p]) = true then [(10, [], [p])] else []) else if z = some 40 ∧ sp = 0 ∧ dp = 0 then (match sPw1 a with
      | some q => if p ≠ q ∧ sHas G (13, [], [p, q]) = true then [(10, [], [p])] else []
      | none => []) else []
    | none => [])) ++ sKeep G b)
def sCpy (κ : sCx) (G : List sFc) (wd : List sC) (z dp : sV) (r1 : Int) (sp : sV) (r0 : Int) (t : List sV) : Option (List sH4) := match wd[r0.toNat]?, wd[r1.toNat]?, sRg κ.2.1 z, sN κ.2.1 dp, sN κ.2.1 sp with
  | some (.inr (4, n0, [(i0, _)])), some (.inr (4, n1, [(i1, _)])), some (z0, z1), (0, dp'), (0, sp') => (match sSpec[i0]?, sSpec[i1]? with
    | some [(a0, b0)], some [(a1, b1)] => if sSum t ≤ 8 ∧ sK z = 0 ∧ 0 ≤ z0 ∧ 0 ≤ dp' ∧ 0 ≤ sp' ∧ sp' + z1 ≤ (n0 : Int) ∧ dp' + z1 ≤ (n1 : Int) ∧ n0 ≤ 100000 ∧ n1 ≤ 100000 ∧ a1 ≤ a0 ∧ b0 ≤ b1 then some [(κ, sCpG κ G r0.toNat r1.toNat (if z0 = z1 then some z0 else none) sp' dp', wd, t)] else none
    | _, _ => none)
  | _, _, _, _, _ => none
/-- calls that are done in one step: Object's constructor, the lesser and the greater of two, a copy of rows -/
def sBlt (κ : sCx) (G : List sFc) (wd : List sC) (ins : Instr) (ax : List Nat) (st : List sV) : Option (List sH4) := match ins with
  | .invokespecial _ => (match ax with
    | [2, _, _, _] => s1 st fun x t => if sK x = 2 ∧ sSum t ≤ 8 then some [(κ, G, wd, t)] else none
    | _ => none)
  | .invokestatic _ => (match ax with
    | [3, _, _, _, _] => s2 st fun a b r => if sSum r ≤ 8 ∧ sK a = 0 ∧ sK b = 0 then (match sMmx true κ (sN κ.2.1 a) (sN κ.2.1 b) with
      | some (κ', x) => some [(κ', G, wd, x :: r)]
      | none => none) else none
    | [4, _, _, _, _] => s2 st fun a b r => if sSum r ≤ 8 ∧ sK a = 0 ∧ sK b = 0 then (match sMmx false κ (sN κ.2.1 a) (sN κ.2.1 b) with
      | some (κ', x) => some [(κ', G, wd, x :: r)]
      | none => none) else none
    | [2, _, _, _, _] => (match st with
      | z :: dp :: (3, r1) :: sp :: (3, r0) :: t => sCpy κ G wd z dp r1 sp r0 t
      | _ => none)
    | _ => none)
  | _ => none
def sThr (ins : Instr) (ax : List Nat) : Option Nat := match ins with
  | .new _ => (match ax with
    | [1, e, _, _] => some e
    | _ => none)
  | _ => none
/-- whom a call calls: the method's number, and how -/
def sInv (ins : Instr) (ax : List Nat) : Option (Nat × Nat) := match ins with
  | .invokevirtual _ => (match ax with
    | [mi, _, _, _] => some (mi, 0)
    | _ => none)
  | .invokestatic _ => (match ax with
    | [0, mi, _, _] => some (mi, 1)
    | [1, mi, _, _] => some (mi, 2)
    | _ => none)
  | .invokespecial _ => (match ax with
    | [0, mi, _, _] => some (mi, 3)
    | [1, mi, _, _] => some (mi, 4)
    | _ => none)
  | _ => none
def sArgs : Nat → List sV → sM
  | _, [] => []
  | i, x :: t => (i, x) :: sArgs (if sK x = 1 then i + 2 else i + 1) t
/-- behind a call: one end of the callee's, and how the caller goes on -/
def sAft (R : sRun) (d mi : Nat) (cuts : List Nat) (hh : List (Nat × Nat × Nat × Nat)) (pc : Nat) (lv : sM) (rest : List sV) (cells slots : Nat) (o : sOc) : Option sRt := match o with
  | (0, κ, G, wd, r, _) => sCnt R d mi cuts (κ, G, wd, pc + 3, lv, r ++ rest, cells, slots)
  | (_, κ, G, wd, _, x) => (match hh with
    | [] => some ([(2, (κ, G, wd, pc, lv, rest, cells, slots), x)], cells, slots)
    | _ => (match sHnd hh pc x with
      | some h => sCnt R d mi cuts (κ, G, wd, h, lv, [(8, 0)], cells, slots)
      | none => none))
/-- the receiver is an object of the method's own kind -/
def sRc (wd : List sC) (M : sMd) (As : List sV) : Bool := match As with
  | (3, r) :: _ => (match sObj wd r with
    | some (ci, _) => (match vwCl[ci]? with
      | some q => decide (q.1 = (mY M).cls)
      | none => false)
    | none => false)
  | (7, j) :: _ => decide (1 ≤ j) && (decide (j ≤ 50) && decide ((mY M).cls = "java/lang/String"))
  | _ => false
def sRf1 (As : List sV) : Bool := match As with
  | x :: _ => decide (sK x = 2)
  | _ => false
def sNa (M : sMd) (kd : Nat) : Nat := if kd = 1 ∨ kd = 2 then mN M else mN M + 1
def sCll (PT : List sMd) (C : sClr) (R : sRun) (d mi : Nat) (cuts : List Nat) (hh : List (Nat × Nat × Nat × Nat)) (ins : Instr) (len : Nat) (ax : List Nat) (κ : sCx) (G : List sFc) (wd : List sC) (pc : Nat) (lv : sM) (st : List sV) (cells slots : Nat) : Option sRt := match sInv ins ax, d with
  | some (mj, kd), d' + 1 => (match PT[mj]? with
    | some M' => if mj ≠ 0 ∧ len = 3 ∧ sNa M' kd ≤ st.length ∧ sSum (st.drop (sNa M' kd)) ≤ 8 ∧ sSum (st.take (sNa M' kd)).reverse ≤ mL M' ∧ mL M' ≤ 45 ∧ (kd = 0 → sRc wd M' (st.take (sNa M' kd)).reverse = true) ∧ (3 ≤ kd → sRf1 (st.take (sNa M' kd)).reverse = true) then (match C d' mj κ G wd (st.take (sNa M' kd)).reverse with
        | some (dd, outs, mc, ms) => if dd ≤ d' ∧ (kd ≤ 1 ∨ outs.all (fun o => decide (o.1 = 0)) = true) then sMrg (outs.map fun o => sAft R (d' + 1) mi cuts hh pc lv (st.drop (sNa M' kd)) (cells + mc) (slots + ms) o) (cells + mc) (slots + ms) else none
        | none => none) else none
    | none => none)
  | _, _ => none
/-- a known few values, one by one -/
def sSpl (κ : sCx) (x : sV) : Nat → Int → Option (List sCx)
  | 0, _ => some []
  | n + 1, v => match sSpl κ x n (v + 1), sCut κ x v v (fun κ1 => some [κ1]) with
    | some r, some l => some (l ++ r)
    | _, _ => none
def sFk (κ : sCx) (ax : List Nat) (st : List sV) : Option (List sCx) := match ax with
  | [77, w] => (match st[w]? with
    | some x => if sK x = 0 then (match sRg κ.2.1 x with
      | some (lo, hi) => if hi - lo ≤ 16 then sSpl κ x (hi - lo + 1).toNat lo else none
      | none => none) else none
    | none => none)
  | [78, w] => (match st[w]? with
    | some x => if sK x = 0 then (match sCut κ x (-2147483648) (-1) (fun κ1 => some [κ1]), sCut κ x 0 2147483647 (fun κ1 => some [κ1]) with
      | some a, some b => some (a ++ b)
      | _, _ => none) else none
    | none => none)
  | _ => some [κ]
def sPu (R : sRun) (d mi : Nat) (cuts : List Nat) (nL : Nat) (ins : Instr) (len : Nat) (G : List sFc) (wd : List sC) (pc : Nat) (lv : sM) (st : List sV) (cells slots : Nat) (κ : sCx) : Option sRt := match sPure κ nL ins lv st with
  | some (n, κ', lv', st') => if n = len then sCnt R d mi cuts (κ', G, wd, pc + n, lv', st', cells, slots) else none
  | none => none
def sStep (PT : List sMd) (C : sClr) (R : sRun) (d mi : Nat) (cuts : List Nat) (S : sS) : Option sRt := match PT[mi]?, S with
  | none, _ => none
  | some M, (κ, G, wd, pc, lv, st, cells, slots) => (match sFetch pc (mT M) with
    | none => none
    | some (ins, len, ax) => (match sPure κ (mL M) ins lv st with
      | some _ => (match sFk κ ax st with
        | some l => sMrg (l.map fun κ1 => sPu R d mi cuts (mL M) ins len G wd pc lv st cells slots κ1) cells slots
        | none => none)
      | none => (match sBr κ pc len ins st with
        | some nx => sMrg (nx.map fun q => sCnt R d mi cuts (q.1, G, wd, q.2.1, lv, q.2.2, cells, slots)) cells slots
        | none => (match sHp κ G wd ins ax st with
          | some (n, os, dc, ds) => if n = len then sMrg (os.map fun o => sCnt R d mi cuts (o.1, o.2.1, o.2.2.1, pc + n, lv, o.2.2.2, cells + dc, slots + ds)) (cells + dc) (slots + ds) else none
          | none => (match sBlt κ G wd ins ax st with
            | some os => if len = 3 then sMrg (os.map fun o => sCnt R d mi cuts (o.1, o.2.1, o.2.2.1, pc + 3, lv, o.2.2.2, cells, slots)) cells slots else none
            | none => if sRetI ins (mR M) = true then (match sRv (mR M) κ.2.1 st with
                | some _ => if len = 1 then some ([(0, (κ, G, wd, pc, lv, st, cells, slots), 0)], cells, slots) else none
                | none => none)
              else (match sThr ins ax with
                | some x => if sSum st ≤ 8 ∧ len = 3 ∧ mH M = [] then some ([(1, (κ, G, wd, pc, lv, st, cells, slots), x)], cells + 1, slots + 6) else none
                | none => sCll PT C R d mi cuts (mH M) ins len ax κ G wd pc lv st cells slots))))))
/-- a callee walked on the spot -/
def sCv1 (ret : Option FieldType) (o : sO) : Option sOc := match o with
  | (0, (κ, G, wd, _, _, st, _, _), _) => (match sRv ret κ.2.1 st with
    | some r => some (0, κ, G, wd, r, 0)
    | none => none)
  | (1, (κ, G, wd, _, _, _, _, _), x) => some (1, κ, G, wd, [], x)
  | (2, (κ, G, wd, _, _, _, _, _), x) => some (1, κ, G, wd, [], x)
  | _ => none
def sCv (ret : Option FieldType) : List sO → Option (List sOc)
  | [] => some []
  | o :: t => match sCv1 ret o, sCv ret t with
    | some x, some r => some (x :: r)
    | _, _ => none
def sInl (PT : List sMd) (R : sRun) : sClr := fun d mj κ G wd As => match PT[mj]? with
  | some M' => (match R d mj [] (κ, G, wd, 0, sArgs 0 As, [], 0, 0) with
    | some (outs, mc, ms) => (match sCv (mR M') outs with
      | some os => some (d, os, mc, ms)
      | none => none)
    | none => none)
  | none => none
end
