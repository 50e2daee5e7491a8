/-! ===== runs of the law from its entry: what is asked of one ===== -/
def sYes (x : Option sRs) : Bool := match x with
  | some (os, mc, ms) => os.all (fun o => decide (o.1 = 0) && decide (o.2.1.2.2.2.2.1 = [(0, 1)])) && (decide (mc ≤ 124) && decide (ms ≤ 7216))
  | none => false
theorem sYes_ok {x : Option sRs} (h : sYes x = true) : ∃ (os : List sO) (mc ms : Nat), x = some (os, mc, ms) ∧ (∀ o ∈ os, o.1 = 0 ∧ o.2.1.2.2.2.2.1 = [(0, 1)]) ∧ mc ≤ 124 ∧ ms ≤ 7216 := by
  unfold sYes at h
  split at h
  · rename_i os mc ms
    simp only [Bool.and_eq_true, List.all_eq_true, decide_eq_true_eq] at h
    exact ⟨os, mc, ms, rfl, h.1, h.2.1, h.2.2⟩
  · cases h
def eB : Int × Int := (-2147483648, 2147483647)
/-- a script of fewer than six -/
def eS (k : Nat) : sE := [eB, eB, eB, eB, eB, eB, (0, 31), ((k : Int), (k : Int))]
/-- six, the call by its number -/
def eK (k : Nat) : sE := [eB, eB, eB, eB, eB, eB, ((k : Int), (k : Int)), (6, 6)]
/-- years, by how many -/
def eY (k : Nat) : sE := [eB, eB, ((k : Int), (k : Int)), eB, eB, eB, (29, 29), (6, 6)]
def eYn : sE := [eB, eB, (-2147483648, -1), eB, eB, eB, (29, 29), (6, 6)]
def eYp : sE := [eB, eB, (41, 2147483647), eB, eB, eB, (29, 29), (6, 6)]
noncomputable def pGo (n : Nat) (env : sE) : Option sRs := fGoN pPT pFT n 12 0 100000 (env, [], 0, [(0, (7, 0))], [], 0, 0)
