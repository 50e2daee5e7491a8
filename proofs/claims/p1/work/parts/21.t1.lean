def sYes (x : Option sRs) : Bool := match x with
  | some (os, mc, ms) => os.all (fun o => decide (o.1 = 0) && decide (o.2.1.2.2.2.2.1 = [(0, 1)])) && (decide (mc ≤ 124) && decide (ms ≤ 7216))
  | none => false
def sX (a b : Int) : Int × Int := (a, b)
def eB : Int × Int := (-2147483648, 2147483647)
def eK (k : Int) : sE := [eB, eB, eB, eB, eB, eB, (k, k), (6, 6)]
noncomputable def pGo (n : Nat) (env : sE) : Option sRs := sGoN pPT n 12 0 100000 (env, [], 0, [(0, (7, 0))], [], 0, 0)
set_option maxRecDepth 100000 in
theorem go_0 : sYes (pGo 1201 (eK 0)) = true := by decide +kernel
