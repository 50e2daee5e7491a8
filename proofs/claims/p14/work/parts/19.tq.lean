noncomputable section
/-! ===== instructions on cells ===== -/
abbrev sH4 : Type := sCx × List sFc × List sC × List sV
abbrev sHr : Type := Nat × List sH4 × Nat × Nat
/-- known place -/
def sKx (env : sE) (x : sV) (n : Nat) : Option Nat := match sN env x with
  | (0, j) => if 0 ≤ j ∧ j < (n : Int) ∧ n ≤ 100000 then some j.toNat else none
  | _ => none
def sGetF (κ : sCx) (G : List sFc) (wd : List sC) (ax : List Nat) (st : List sV) : Option sHr := match ax, st with
  | [ci, k, _], (3, r) :: t => (match sObj wd r with
    | some (cj, fs) => if cj = ci then (match fs[k]? with
      | some x => some (3, [(κ, G, wd, x :: t)], 0, 0)
      | none => none) else none
    | none => none)
  | [w, _], (7, j) :: t => if 1 ≤ j ∧ j ≤ 50 then some (3, [(κ, G, wd, (if w = 0 then (7, j + 999) else (0, 0)) :: t)], 0, 0) else none
  | _, _ => none
def sPutF (κ : sCx) (G : List sFc) (wd : List sC) (ax : List Nat) (st : List sV) : Option sHr := match ax, st with
  | [ci, k, _, tc], x :: (3, r) :: t => (match sObj wd r with
    | some (cj, fs) => if cj = ci ∧ k < fs.length ∧ sFit κ.2.1 tc (sN κ.2.1 x) = true then some (3, [(κ, G, wd.set r.toNat (.inl (ci, fs.set k (sN κ.2.1 x))), t)], 0, 0) else none
    | none => none)
  | _, _ => none
def sLen (κ : sCx) (G : List sFc) (wd : List sC) (st : List sV) : Option sHr := match st with
  | (3, r) :: t => (match fAt wd r.toNat with
    | some (.inr (_, n, _)) => some (1, [(κ, G, wd, (0, (n : Int)) :: t)], 0, 0)
    | _ => none)
  | (7, j) :: t => if 1000 ≤ j then (match sSln[j.toNat - 1000]? with
    | some n => some (1, [(κ, G, wd, (0, (n : Int)) :: t)], 0, 0)
    | none => none) else none
  | _ => none
def sLds (l : List sLr) (wd : List sC) (t : List sV) : List sH4 := l.map fun q => (q.1, q.2.1, wd, q.2.2 :: t)
def sSfd (x : sV) : List sFc → Option sV
  | [] => none
  | (21, [x', y], ps) :: t => if x' = x ∧ sK y = 0 ∧ ps = [] then some y else sSfd x t
  | _ :: t => sSfd x t
def sIald (κ : sCx) (G : List sFc) (wd : List sC) (st : List sV) : Option sHr := match st with
  | x :: (3, r) :: t => (match fAt wd r.toNat with
    | some (.inr (0, n, ov)) => if sIx κ x n = true then (match sKx κ.2.1 x n with
      | some j => some (1, [(κ, G, wd, sLook (0, 0) ov j :: t)], 0, 0)
      | none => (match sAny κ with
        | (κ1, y) => some (1, [(κ1, G, wd, y :: t)], 0, 0))) else none
    | some (.inr (4, n, [(i, _)])) => if sIx κ x n = true ∧ (sPw1 r.toNat = none ∨ n ≤ 40) then (match sLdB κ G r.toNat i (sN κ.2.1 x) with
      | some l => some (1, sLds l wd t, 0, 0)
      | none => none) else none
    | _ => none)
  | x :: (7, 0) :: t => if sK x = 0 ∧ (sRg κ.2.1 x).isSome = true then (match sSfd (sN κ.2.1 x) G with
    | some y => some (1, [(κ, G, wd, y :: t)], 0, 0)
    | none => none) else none
  | _ => none
def sBald (κ : sCx) (G : List sFc) (wd : List sC) (st : List sV) : Option sHr := match st with
  | x :: (3, r) :: t => (match fAt wd r.toNat with
    | some (.inr (5, n, _)) => if sIx κ x n = true then some (1, sLds [sLdY κ G r.toNat (sN κ.2.1 x)] wd t, 0, 0) else none
    | _ => none)
  | x :: (7, j) :: t => if 1000 ≤ j then (match sSln[j.toNat - 1000]? with
    | some n => if sIx κ x n = true then (match sKx κ.2.1 x n, sSby[j.toNat - 1000]? with
      | some jj, some bs => (match bs[jj]? with
        | some b => some (1, [(κ, G, wd, (0, b) :: t)], 0, 0)
        | none => none)
      | _, _ => (match sFx κ (-128) 127 with
        | (κ1, y) => some (1, [(κ1, G, wd, y :: t)], 0, 0))) else none
    | none => none) else none
  | _ => none
/-- a row of longs that are known -/
def sLald (κ : sCx) (G : List sFc) (wd : List sC) (st : List sV) : Option sHr := match st with
  | x :: (3, r) :: t => (match fAt wd r.toNat with
    | some (.inr (2, n, ov)) => (match sKx κ.2.1 x n with
      | some j => some (1, [(κ, G, wd, sLook (1, 0) ov j :: t)], 0, 0)
      | none => none)
    | _ => none)
  | _ => none
def sAald (κ : sCx) (G : List sFc) (wd : List sC) (st : List sV) : Option sHr := match st with
  | x :: (3, r) :: t => (match fAt wd r.toNat with
    | some (.inr (3, n, ov)) => if sIx κ x n = true then (match sKx κ.2.1 x n with
      | some j => some (1, [(κ, G, wd, sLook (2, 0) ov j :: t)], 0, 0)
      | none => none) else none
    | _ => none)
  | _ => none
/-- a number within the bounds for the place -/
def sB4 (x y : sV) (m i : Nat) (f : sFc) : Bool := match f with
  | (4, [x', y'], [i']) => decide (i' = i) && (decide (y' = y) && (decide (x'.1 = x.1) && decide ((x'.2 - x.2) % (m : Int) = 0)))
  | _ => false
def sInB (κ : sCx) (x y : sV) (S : List (Int × Int)) (i : Nat) : Bool := (match sRg κ.2.1 y with
  | some (lo, hi) => (match sRs κ x S.length with
    | some k => (match S[k]? with
      | some (a, b) => decide (a ≤ lo) && decide (hi ≤ b)
      | none => false)
    | none => S.all fun q => decide (q.1 ≤ lo) && decide (hi ≤ q.2))
  | none => false) || κ.2.2.any (sB4 x y S.length i)
def sIast (κ : sCx) (G : List sFc) (wd : List sC) (st : List sV) : Option sHr := match st with
  | y :: x :: (3, r) :: t => (match fAt wd r.toNat with
    | some (.inr (0, n, ov)) => if sIx κ x n = true ∧ sK y = 0 then (match sKx κ.2.1 x n with
      | some j => some (1, [(κ, sKeep G r.toNat, wd.set r.toNat (.inr (0, n, sASet (0, 0) ov j (sN κ.2.1 y))), t)], 0, 0)
      | none => none) else none
    | some (.inr (4, n, [(i, z)])) => if sIx κ x n = true ∧ sK y = 0 ∧ (sRg κ.2.1 y).isSome = true then (match sSpec[i]? with
      | some S => if sInB κ (sN κ.2.1 x) (sN κ.2.1 y) S i = true then some (1, [(κ, sStG κ G r.toNat (sN κ.2.1 x) (sN κ.2.1 y), wd, t)], 0, 0) else none
      | none => none) else none
    | _ => none)
  | _ => none
def sBast (κ : sCx) (G : List sFc) (wd : List sC) (st : List sV) : Option sHr := match st with
  | y :: x :: (3, r) :: t => (match fAt wd r.toNat with
    | some (.inr (5, n, _)) => if sIx κ x n = true ∧ sK y = 0 then some (1, [(κ, sStB κ G r.toNat (sN κ.2.1 x) (sN κ.2.1 y), wd, t)], 0, 0) else none
    | _ => none)
  | _ => none
def sLast (κ : sCx) (G : List sFc) (wd : List sC) (st : List sV) : Option sHr := match st with
  | y :: x :: (3, r) :: t => (match fAt wd r.toNat with
    | some (.inr (6, n, _)) => if sIx κ x n = true ∧ sK y = 1 then some (1, [(κ, G, wd, t)], 0, 0) else none
    | some (.inr (2, n, ov)) => if sK y = 1 then (match sKx κ.2.1 x n with
      | some j => some (1, [(κ, G, wd.set r.toNat (.inr (2, n, sASet (1, 0) ov j y)), t)], 0, 0)
      | none => none) else none
    | _ => none)
  | _ => none
def sAstS (κ : sCx) (G : List sFc) (wd : List sC) (st : List sV) : Option sHr := match st with
  | (7, j0) :: x :: (3, r) :: t => (match fAt wd r.toNat with
    | some (.inr (3, n, ov)) => if sIx κ x n = true ∧ 1 ≤ j0.toNat ∧ j0.toNat ≤ sStr.length ∧ G = [] then (match sKx κ.2.1 x n with
      | some j => some (1, [(κ, G, wd.set r.toNat (.inr (3, n, sASet (2, 0) ov j (7, j0))), t)], 0, 0)
      | none => none) else none
    | _ => none)
  | _ => none
def sNewA (κ : sCx) (G : List sFc) (wd : List sC) (st : List sV) (tg len : Nat) : Option sHr := match st with
  | x :: t => (match sN κ.2.1 x with
    | (0, n) => if 0 ≤ n ∧ n ≤ 100000 ∧ G = [] then some (len, [(κ, G, wd ++ [.inr (tg, n.toNat, [])], (3, (wd.length : Int)) :: t)], 1, n.toNat) else none
    | _ => none)
  | _ => none
def sHp (κ : sCx) (G : List sFc) (wd : List sC) (ins : Instr) (ax : List Nat) (st : List sV) : Option sHr := match ins with
  | .getfield _ => sGetF κ G wd ax st
  | .putfield _ => sPutF κ G wd ax st
  | .getstatic _ => (match ax with
    | [_] => some (3, [(κ, G, wd, (0, 1) :: st)], 0, 0)
    | [_, 1] => some (3, [(κ, G, wd, (2, 1) :: st)], 0, 0)
    | _ => none)
  | .arraylength => sLen κ G wd st
  | .iaload => sIald κ G wd st
  | .baload => sBald κ G wd st
  | .aaload => sAald κ G wd st
  | .laload => sLald κ G wd st
  | .iastore => sIast κ G wd st
  | .bastore => sBast κ G wd st
  | .lastore => sLast κ G wd st
  | .aastore => sAstS κ G wd st
  | .newarray t => (match t with
    | .int => sNewA κ G wd st 0 2
    | .byte => sNewA κ G wd st 1 2
    | .long => sNewA κ G wd st 2 2
    | _ => none)
  | .anewarray _ => sNewA κ G wd st 3 3
  | .new _ => (match ax with
    | [0, ci, _] => (match vwCl[ci]? with
      | some q => if G = [] then some (3, [(κ, G, wd ++ [.inl (ci, sDf q)], (3, (wd.length : Int)) :: st)], 1, q.2.2) else none
      | none => none)
    | _ => none)
  | .ldc _ => (match ax with
    | [0, _, v] => if v < 2147483648 then some (2, [(κ, G, wd, (0, (v : Int)) :: st)], 0, 0) else none
    | [1, j] => some (2, [(κ, G, wd, (7, (j : Int) + 1) :: st)], 0, 0)
    | _ => none)
  | .ldc_w _ => (match ax with
    | [0, _, v] => if v < 2147483648 then some (3, [(κ, G, wd, (0, (v : Int)) :: st)], 0, 0) else none
    | [1, j] => some (3, [(κ, G, wd, (7, (j : Int) + 1) :: st)], 0, 0)
    | _ => none)
  | .ldc2_w _ => (match ax with
    | [_, v] => some (3, [(κ, G, wd, (1, (v : Int)) :: st)], 0, 0)
    | _ => none)
  | _ => none
end
