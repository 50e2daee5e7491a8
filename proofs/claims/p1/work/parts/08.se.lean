/-! ===== what stands at every point beside the world ===== -/
def sIAE : String := "java/lang/IllegalArgumentException"
def sNSE : String := "java/util/NoSuchElementException"
def sDcl : List String := ["java/lang/RuntimeException", "java/lang/Exception", "java/lang/Throwable"]
def sCtx (ρ : Nat → Int32) (ex : Nat → Nat) (g : sG) (n0 : Nat) (U : State) : Prop :=
  va_K g.1 vwCl (sTy g) U ∧
  (∀ (j : Nat) (q : String × Nat × String), sStr[j]? = some q → vk_R q.1 q.2.1 q.2.2 (ex (j + 1)) U ∧ va_Any "java/lang/String" U U.heap (ex (j + 1)) ∧ ex (j + 1) < n0) ∧
  (∀ q ∈ sNest, va_Nw (.methodLinkNest q.1 q.2.1 q.2.2.1 q.2.2.2) U) ∧
  (∀ E ∈ sExN, va_Nw (.castable E E) U) ∧
  va_AO "java/lang/String" U ∧
  vx_Zq Bundle.tN "UNASSIGNED_STACK" Bundle.steD (fun q => n0 ≤ q) U U.heap ∧ vx_Zq Bundle.tN "SUPPRESSED_SENTINEL" Bundle.listD (fun q => n0 ≤ q) U U.heap ∧
  (∃ L : Nat, va_X (ex 0) L ρ U U.heap ∧ (ρ 7).toInt = (L : Int)) ∧ ex 0 < n0 ∧ n0 ≤ U.heap.size ∧ va_Nc sIAE sNSE U ∧ (∀ y ∈ sDcl, va_Nw (.declares (Bundle.initS y)) U)
theorem sAny_to {E : String} {s U : State} {H H1 : Heap} {a : Nat} (hvm : s.vm.Alike U.vm) (hq : H1[a]? = H[a]?) (h : va_Any E s H a) : va_Any E U H1 a := by
  obtain ⟨cv, h1, h2, ⟨k, hk⟩, h4⟩ := h
  obtain ⟨k', hk', -⟩ := hvm.2.2 _ _ hk
  exact ⟨cv, hq.trans h1, h2, ⟨k', hk'⟩, fun comp hc => by rw [hvm.assignable]; exact h4 comp (by rw [← hvm.findClass]; exact hc)⟩
theorem sNc_to {C T : String} {s U : State} (hvm : s.vm.Alike U.vm) (h : va_Nc C T s) : va_Nc C T U := by
  obtain ⟨c, t, h1, h2, h3⟩ := h
  exact ⟨c, t, by rw [hvm.findClass]; exact h1, by rw [hvm.findClass]; exact h2, by rw [hvm.assignable]; exact h3⟩
theorem sCtx_to {ρ : Nat → Int32} {ex : Nat → Nat} {g : sG} {n0 : Nat} {s U : State} {locs : List Loc} (h : sCtx ρ ex g n0 s) (hW : s.WarmedH U.vm) (hS : va_S (fun q => n0 ≤ q) s.heap U.heap locs) : sCtx ρ ex g n0 U := by
  obtain ⟨h1, h2, h3, h4, h5, h6, h7, ⟨L, h8, h9⟩, h10, h11, h12, h13⟩ := h
  have hvm := hW.alike
  have old : ∀ a : Nat, a < n0 → U.heap[a]? = s.heap[a]? := fun a ha => hS.2.1 a (Nat.lt_of_lt_of_le ha h11) (Nat.not_le.mpr ha)
  refine ⟨va_K.moved hvm h1, fun j q hq => ?_, fun q hq => va_Nw.warmM hW (h3 q hq), fun E hE => va_Nw.warmC hW (h4 E hE), va_AO.moved hvm h5, (vx_Zq.moved hvm h6).kept hS.2.1, (vx_Zq.moved hvm h7).kept hS.2.1, ⟨L, va_X.moved hvm (va_X.kept h8 (old _ h10)), h9⟩, h10, Nat.le_trans h11 hS.1, sNc_to hvm h12, fun y hy => va_Nw.warmD hW (h13 y hy)⟩
  obtain ⟨q1, q2, q3⟩ := h2 j q hq
  exact ⟨vk_R.warm hW q1, sAny_to hvm (old _ q3) q2, q3⟩
theorem sCtx_call {ρ : Nat → Int32} {ex : Nat → Nat} {g : sG} {n0 : Nat} {U : State} (h : sCtx ρ ex g n0 U) (f : JFrame) (mk : MethodId) (a : Array Value) : sCtx ρ ex g n0 (U.calling f mk a) :=
  sCtx_to (s := U) (U := U.calling f mk a) (locs := []) h (State.WarmedH.refl U) va_S.rf
/-! ### instructions that read or write cells -/
def sEntH (own mn : String) (ins : Instr) (ax : List Nat) : Bool := match ins with
  | .getfield i => (match ax with
    | [ci, k, pos] => (match vwCl[ci]? with
      | some q => decide (k < q.2.2) && sAt pos (.fieldLink own i (q.2.1 k).1 (q.2.1 k).2.1 (q.2.1 k).2.2.1)
      | none => false)
    | _ => false)
  | .putfield i => (match ax with
    | [ci, k, pos, tc] => (match vwCl[ci]? with
      | some q => decide (k < q.2.2) && (sAt pos (.fieldLink own i (q.2.1 k).1 (q.2.1 k).2.1 (q.2.1 k).2.2.1) && ((match parseFieldDescriptor (q.2.1 k).2.2.1 with
          | some ty => sTc tc ty
          | none => false) && (!(q.2.1 k).2.2.2 || (decide (mn = "<init>") && decide ((q.2.1 k).1 = own)))))
      | none => false)
    | _ => false)
  | .new i => (match ax with
    | [0, ci, pos] => (match vwCl[ci]? with
      | some q => sAt pos (.classLink own i q.1)
      | none => false)
    | _ => false)
  | .anewarray i => (match ax with
    | [pos] => sAt pos (.classLink own i "java/lang/String")
    | _ => false)
  | .ldc i => (match ax with
    | [0, pos, v] => sAt pos (.constant own i (Int32.ofNat v))
    | [1, j] => (match sStr[j]? with
      | some q => decide (q.1 = own) && decide (q.2.1 = i)
      | none => false)
    | _ => false)
  | .ldc2_w i => (match ax with
    | [pos, v] => sAt pos (.constantLong own i (Int64.ofNat v))
    | _ => false)
  | _ => true
abbrev sH5 : Type := Nat × List sC × List sV × Nat × Nat
def sObj (wd : List sC) (r : Int) : Option (Nat × List sV) := match wd[r.toNat]? with
  | some (.inl q) => some q
  | _ => none
def sRow (wd : List sC) (r : Int) (t : Nat) : Option (Nat × List (Nat × sV)) := match wd[r.toNat]? with
  | some (.inr (t', n, ov)) => if t' = t then some (n, ov) else none
  | _ => none
def sIdx (env : sE) (x : sV) (n : Nat) : Option Nat := match sN env x with
  | (0, j) => if 0 ≤ j ∧ j < (n : Int) ∧ n ≤ 100000 then some j.toNat else none
  | _ => none
def sNar (env : sE) (x : sV) : sV := match sN env x with
  | (0, z) => (0, (vp_nar .byte (Int32.ofInt z)).toInt)
  | _ => (6, 0)
def sGetF (wd : List sC) (ax : List Nat) (st : List sV) : Option sH5 := match ax, st with
  | [ci, k, _], (3, r) :: t => (match sObj wd r with
    | some (cj, fs) => if cj = ci then (fs[k]?).map fun x => (3, wd, x :: t, 0, 0) else none
    | none => none)
  | _, _ => none
def sPutF (env : sE) (wd : List sC) (ax : List Nat) (st : List sV) : Option sH5 := match ax, st with
  | [ci, k, _, tc], x :: (3, r) :: t => (match sObj wd r with
    | some (cj, fs) => if cj = ci ∧ k < fs.length ∧ sFit tc (sN env x) = true then some (3, wd.set r.toNat (.inl (ci, fs.set k (sN env x))), t, 0, 0) else none
    | none => none)
  | _, _ => none
def sLen (wd : List sC) (st : List sV) : Option sH5 := match st with
  | (3, r) :: t => (match wd[r.toNat]? with
    | some (.inr (_, n, _)) => some (1, wd, (0, (n : Int)) :: t, 0, 0)
    | _ => none)
  | (7, 0) :: t => some (1, wd, (4, 7) :: t, 0, 0)
  | _ => none
def sAld (env : sE) (wd : List sC) (st : List sV) (tg : Nat) (d : sV) : Option sH5 := match st with
  | x :: (3, r) :: t => (match sRow wd r tg with
    | some (n, ov) => (sIdx env x n).map fun j => (1, wd, sLook d ov j :: t, 0, 0)
    | none => none)
  | x :: (7, 0) :: t => if tg = 0 then (match env[7]? with
    | some (lo, _) => (match sN env x with
      | (0, j) => if 0 ≤ j ∧ j < lo ∧ sI j = true then some (1, wd, (4, j) :: t, 0, 0) else none
      | _ => none)
    | none => none) else none
  | _ => none
def sAst (env : sE) (wd : List sC) (st : List sV) (tg kd : Nat) (d : sV) : Option sH5 := match st with
  | y :: x :: (3, r) :: t => (match sRow wd r tg with
    | some (n, ov) => if sK y = kd then (sIdx env x n).map fun j => (1, wd.set r.toNat (.inr (tg, n, sASet d ov j (if tg = 1 then sNar env y else sN env y))), t, 0, 0) else none
    | none => none)
  | _ => none
def sAstS (env : sE) (wd : List sC) (st : List sV) : Option sH5 := match st with
  | (7, j) :: x :: (3, r) :: t => (match sRow wd r 3 with
    | some (n, ov) => if 1 ≤ j.toNat ∧ j.toNat ≤ sStr.length then (sIdx env x n).map fun _ => (1, wd.set r.toNat (.inr (3, n, ov)), t, 0, 0) else none
    | none => none)
  | _ => none
def sNewA (env : sE) (wd : List sC) (st : List sV) (tg len : Nat) : Option sH5 := match st with
  | x :: t => (match sN env x with
    | (0, n) => if 0 ≤ n ∧ n ≤ 100000 then some (len, wd ++ [.inr (tg, n.toNat, [])], (3, (wd.length : Int)) :: t, 1, n.toNat) else none
    | _ => none)
  | _ => none
def sHp (env : sE) (wd : List sC) (ins : Instr) (ax : List Nat) (st : List sV) : Option sH5 := match ins with
  | .getfield _ => sGetF wd ax st
  | .putfield _ => sPutF env wd ax st
  | .arraylength => sLen wd st
  | .iaload => sAld env wd st 0 (0, 0)
  | .baload => sAld env wd st 1 (0, 0)
  | .laload => sAld env wd st 2 (1, 0)
  | .iastore => sAst env wd st 0 0 (0, 0)
  | .bastore => sAst env wd st 1 0 (0, 0)
  | .lastore => sAst env wd st 2 1 (1, 0)
  | .aastore => sAstS env wd st
  | .newarray t => (match t with
    | .int => sNewA env wd st 0 2
    | .byte => sNewA env wd st 1 2
    | .long => sNewA env wd st 2 2
    | _ => none)
  | .anewarray _ => sNewA env wd st 3 3
  | .new _ => (match ax with
    | [0, ci, _] => (match vwCl[ci]? with
      | some q => some (3, wd ++ [.inl (ci, sDf q)], (3, (wd.length : Int)) :: st, 1, q.2.2)
      | none => none)
    | _ => none)
  | .ldc _ => (match ax with
    | [0, _, v] => if v < 2147483648 then some (2, wd, (0, (v : Int)) :: st, 0, 0) else none
    | [1, j] => some (2, wd, (7, (j : Int) + 1) :: st, 0, 0)
    | _ => none)
  | .ldc2_w _ => (match ax with
    | [_, v] => some (3, wd, (1, (v : Int)) :: st, 0, 0)
    | _ => none)
  | _ => none
theorem sObj_ok {ρ : Nat → Int32} {ex : Nat → Nat} {g : sG} {wd : List sC} {ws : va_W} (h : sRW ρ ex g wd ws) {r : Int} {ci : Nat} {fs : List sV} (ho : sObj wd r = some (ci, fs)) : ∃ (a : Nat) (vs : List Value), ws[r.toNat]? = some (a, .inr (ci, vs)) ∧ sA2 (sRep ρ (ws.map Prod.fst) ex) fs vs := by
  unfold sObj at ho
  split at ho
  · rename_i q hq
    cases ho
    obtain ⟨a, e, h1, -, h3⟩ := sRW_get h hq
    cases e with
    | inl _ => exact h3.elim
    | inr o =>
      obtain ⟨cj, vs⟩ := o
      obtain ⟨rfl, h4⟩ := h3
      exact ⟨a, vs, h1, h4⟩
  · cases ho
theorem sRow_ok {ρ : Nat → Int32} {ex : Nat → Nat} {g : sG} {wd : List sC} {ws : va_W} (h : sRW ρ ex g wd ws) {r : Int} {t n : Nat} {ov : List (Nat × sV)} (ho : sRow wd r t = some (n, ov)) : ∃ (a : Nat) (e : va_E), ws[r.toNat]? = some (a, e) ∧ sRepC ρ (ws.map Prod.fst) ex g (.inr (t, n, ov)) e := by
  unfold sRow at ho
  split at ho
  · rename_i t' n' ov' hq
    split at ho
    · rename_i ht
      cases ho
      subst ht
      obtain ⟨a, e, h1, -, h3⟩ := sRW_get h hq
      exact ⟨a, e, h1, h3⟩
    · cases ho
  · cases ho
theorem sIdx_ok {ρ : Nat → Int32} {ads : List Nat} {ex : Nat → Nat} {env : sE} (hs : sSat ρ env) {x : sV} {v : Value} {n j : Nat} (hx : sRep ρ ads ex x v) (h : sIdx env x n = some j) : ∃ i : Int32, v = .int i ∧ vp_in i n ∧ i.toNatClampNeg = j ∧ j < n := by
  have hx' := sN_ok hs hx
  unfold sIdx at h
  generalize sN env x = x' at h hx'
  split at h
  · rename_i z
    split at h
    · rename_i hz
      cases h
      simp only [sRep] at hx'
      subst hx'
      obtain ⟨h1, h2, h3⟩ := hz
      have e : (Int32.ofInt z).toInt = z := Int32.toInt_ofInt_of_le (by omega) (by omega)
      refine ⟨_, rfl, vp_in_iff.mpr (by rw [e]; exact ⟨h1, h2⟩), ?_, by omega⟩
      show (Int32.ofInt z).toInt.toNat = z.toNat
      rw [e]
    · cases h
  · cases h
