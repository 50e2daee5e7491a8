/-! ===== instructions that touch locals and stack alone ===== -/
def s1 {β : Type} (st : List sV) (f : sV → List sV → Option β) : Option β := match st with
  | a :: r => f a r
  | _ => none
def s2 {β : Type} (st : List sV) (f : sV → sV → List sV → Option β) : Option β := match st with
  | b :: a :: r => f a b r
  | _ => none
theorem s1_some {β : Type} {st : List sV} {f : sV → List sV → Option β} {y : β} (h : s1 st f = some y) : ∃ a r, st = a :: r ∧ f a r = some y := by
  unfold s1 at h
  split at h
  · exact ⟨_, _, rfl, h⟩
  · cases h
theorem s2_some {β : Type} {st : List sV} {f : sV → sV → List sV → Option β} {y : β} (h : s2 st f = some y) : ∃ a b r, st = b :: a :: r ∧ f a b r = some y := by
  unfold s2 at h
  split at h
  · exact ⟨_, _, _, rfl, h⟩
  · cases h
def sLoad (k : Nat) (lv : sM) (st : List sV) (i n : Nat) : Option (Nat × sM × List sV) := match sGet lv i with
  | some x => if sK x = k then some (n, lv, x :: st) else none
  | none => none
def sStore (k : Nat) (nL : Nat) (lv : sM) (st : List sV) (i n : Nat) : Option (Nat × sM × List sV) :=
  s1 st fun x r => if sK x = k ∧ i < nL then some (n, sPut1 lv i x, r) else none
def sStore2 (nL : Nat) (lv : sM) (st : List sV) (i n : Nat) : Option (Nat × sM × List sV) :=
  s1 st fun x r => if sK x = 1 ∧ i + 1 < nL then some (n, sPut2 lv i x, r) else none
def sBZ (f : Int → Int → Int) (env : sE) (lv : sM) (st : List sV) : Option (Nat × sM × List sV) := s2 st fun a b r => (sZ f env a b).map fun x => (1, lv, x :: r)
def sBF (f : Int32 → Int32 → Int32) (env : sE) (lv : sM) (st : List sV) : Option (Nat × sM × List sV) := s2 st fun a b r => (sF f env a b).map fun x => (1, lv, x :: r)
/-- a division: the divisor is known and not 0 -/
def sBD (f : Int32 → Int32 → Int32) (env : sE) (lv : sM) (st : List sV) : Option (Nat × sM × List sV) := s2 st fun a b r => match sN env b with
  | (0, y) => if Int32.ofInt y = 0 then none else (sF f env a b).map fun x => (1, lv, x :: r)
  | _ => none
/-- one int, an operation of the machine's own -/
def sU (f : Int32 → Int32) (env : sE) (lv : sM) (st : List sV) : Option (Nat × sM × List sV) := s1 st fun a r => match sN env a with
  | (0, x) => some (1, lv, (0, (f (Int32.ofInt x)).toInt) :: r)
  | a' => if sK a' = 0 then some (1, lv, (6, 0) :: r) else none
def sI2l (env : sE) (lv : sM) (st : List sV) : Option (Nat × sM × List sV) := s1 st fun a r => match sN env a with
  | (0, x) => if sI x = true then some (1, lv, (1, x) :: r) else none
  | (4, i) => some (1, lv, (5, i) :: r)
  | _ => none
def sAnd (env : sE) (lv : sM) (st : List sV) : Option (Nat × sM × List sV) := s2 st fun a b r => if a = (4, 0) ∧ b = (0, 31) then some (1, lv, (4, 6) :: r) else (sF (fun x y => x &&& y) env a b).map fun x => (1, lv, x :: r)
def sInc (env : sE) (nL : Nat) (lv : sM) (st : List sV) (i : Nat) (n : Int) : Option (Nat × sM × List sV) := match sGet lv i with
  | some x => if i < nL then (sZ (fun a b => a + b) env x (0, n)).map fun y => (3, sPut1 lv i y, st) else none
  | none => none
def sPure (env : sE) (nL : Nat) (ins : Instr) (lv : sM) (st : List sV) : Option (Nat × sM × List sV) := match ins with
  | .iconst n => some (1, lv, (0, n) :: st)
  | .bipush n => some (2, lv, (0, ((Int8.ofInt n).toInt32).toInt) :: st)
  | .sipush n => some (3, lv, (0, ((Int16.ofInt n).toInt32).toInt) :: st)
  | .lconst n => some (1, lv, (1, (Int64.ofNat n.val).toInt) :: st)
  | .aconst_null => some (1, lv, (2, 0) :: st)
  | .iload_n k => sLoad 0 lv st k.val 1
  | .iload i => sLoad 0 lv st i 2
  | .lload_n k => sLoad 1 lv st k.val 1
  | .lload i => sLoad 1 lv st i 2
  | .aload_n k => sLoad 2 lv st k.val 1
  | .aload i => sLoad 2 lv st i 2
  | .istore_n k => sStore 0 nL lv st k.val 1
  | .istore i => sStore 0 nL lv st i 2
  | .lstore_n k => sStore2 nL lv st k.val 1
  | .lstore i => sStore2 nL lv st i 2
  | .astore_n k => sStore 2 nL lv st k.val 1
  | .astore i => sStore 2 nL lv st i 2
  | .iinc i n => sInc env nL lv st i n
  | .iadd => sBZ (fun a b => a + b) env lv st
  | .isub => sBZ (fun a b => a - b) env lv st
  | .imul => sBZ (fun a b => a * b) env lv st
  | .iand => sAnd env lv st
  | .ior => sBF (fun x y => x ||| y) env lv st
  | .ixor => sBF (fun x y => x ^^^ y) env lv st
  | .ishl => sBF (fun x y => x <<< (y &&& 31)) env lv st
  | .ishr => sBF (fun x y => x >>> (y &&& 31)) env lv st
  | .iushr => sBF (fun x y => (x.toUInt32 >>> (y.toUInt32 &&& Int32.toUInt32 31)).toInt32) env lv st
  | .idiv => sBD (fun x y => x / y) env lv st
  | .irem => sBD (fun x y => x - x / y * y) env lv st
  | .ineg => sU (fun x => -x) env lv st
  | .i2b => sU (fun x => x.toInt8.toInt32) env lv st
  | .i2c => sU (fun x => (x.toUInt32 % 65536).toInt32) env lv st
  | .i2l => sI2l env lv st
  | .dup => s1 st fun a r => if sK a = 1 then none else some (1, lv, a :: a :: r)
  | .pop => s1 st fun a r => if sK a = 1 then none else some (1, lv, r)
  | .dup_x1 => s2 st fun b a r => if sK a = 1 ∨ sK b = 1 then none else some (1, lv, a :: b :: a :: r)
  | .dup2 => s2 st fun b a r => if sK a = 1 then none else if sK b = 1 then none else some (1, lv, a :: b :: a :: b :: r)
  | _ => none
section SPW
variable {p : Program} {l : Launch} {e : Env} {R : Room} {s : State} {m : MethodId} {args : Array Value} {below : List Frame} {meth : Method} {c : Code} {H : Heap} {locs : List Loc} {cells slots : Nat} {Q : State → Prop}
variable {cc : ByteArray} {pc : Nat} {ls : Array Slot} {ρ : Nat → Int32} {ads : List Nat} {ex : Nat → Nat} {env : sE} {nL : Nat} {lv lv' : sM} {lc : List (Nat × Value)} {st st' : List sV} {vs : List Value} {n : Nat}
theorem sBZ_ok (hs : sSat ρ env) {f : Int → Int → Int} {F : Int32 → Int32 → Int32} (hF : ∀ x y, F (Int32.ofInt x) (Int32.ofInt y) = Int32.ofInt (f x y)) (hl : lv_has ls nL lc) (hL : sA2 (sRL ρ ads ex) lv lc) (hS : sA2 (sRep ρ ads ex) st vs) (h : sBZ f env lv st = some (n, lv', st'))
    (row : n = 1 → ∀ (x y : Int32) (rest : List Value), W p l e R s m args below meth c H locs cells slots Q (F0 m (pc + n) ls (.int (F x y) :: rest)) → W p l e R s m args below meth c H locs cells slots Q (F0 m pc ls (.int y :: .int x :: rest)))
    (k : ∀ (ls' : Array Slot) (lc' : List (Nat × Value)) (vs' : List Value), lv_has ls' nL lc' → sA2 (sRL ρ ads ex) lv' lc' → sA2 (sRep ρ ads ex) st' vs' → W p l e R s m args below meth c H locs cells slots Q (F0 m (pc + n) ls' vs')) : W p l e R s m args below meth c H locs cells slots Q (F0 m pc ls vs) := by
  obtain ⟨a, b, r, hst, hz⟩ := s2_some h
  subst hst
  replace h := hz
  clear hz
  obtain ⟨vb, vs1, rfl, hb, hS1⟩ := sA2_cons hS
  obtain ⟨va, rest, rfl, ha, hS2⟩ := sA2_cons hS1
  obtain ⟨y, hy, he⟩ := Option.map_eq_some_iff.mp h
  cases he
  obtain ⟨x1, y1, rfl, rfl, hr⟩ := sZ_ok hs hF ha hb hy
  exact row rfl x1 y1 rest (k ls lc _ hl hL ⟨hr, hS2⟩)
theorem sBF_ok (hs : sSat ρ env) {F : Int32 → Int32 → Int32} (hl : lv_has ls nL lc) (hL : sA2 (sRL ρ ads ex) lv lc) (hS : sA2 (sRep ρ ads ex) st vs) (h : sBF F env lv st = some (n, lv', st'))
    (row : n = 1 → ∀ (x y : Int32) (rest : List Value), W p l e R s m args below meth c H locs cells slots Q (F0 m (pc + n) ls (.int (F x y) :: rest)) → W p l e R s m args below meth c H locs cells slots Q (F0 m pc ls (.int y :: .int x :: rest)))
    (k : ∀ (ls' : Array Slot) (lc' : List (Nat × Value)) (vs' : List Value), lv_has ls' nL lc' → sA2 (sRL ρ ads ex) lv' lc' → sA2 (sRep ρ ads ex) st' vs' → W p l e R s m args below meth c H locs cells slots Q (F0 m (pc + n) ls' vs')) : W p l e R s m args below meth c H locs cells slots Q (F0 m pc ls vs) := by
  obtain ⟨a, b, r, hst, hz⟩ := s2_some h
  subst hst
  replace h := hz
  clear hz
  obtain ⟨vb, vs1, rfl, hb, hS1⟩ := sA2_cons hS
  obtain ⟨va, rest, rfl, ha, hS2⟩ := sA2_cons hS1
  obtain ⟨y, hy, he⟩ := Option.map_eq_some_iff.mp h
  cases he
  obtain ⟨x1, y1, rfl, rfl, hr⟩ := sF_ok hs ha hb hy
  exact row rfl x1 y1 rest (k ls lc _ hl hL ⟨hr, hS2⟩)
theorem sBD_ok (hs : sSat ρ env) {F : Int32 → Int32 → Int32} (hl : lv_has ls nL lc) (hL : sA2 (sRL ρ ads ex) lv lc) (hS : sA2 (sRep ρ ads ex) st vs) (h : sBD F env lv st = some (n, lv', st'))
    (row : n = 1 → ∀ (x y : Int32) (rest : List Value), ¬ y = 0 → W p l e R s m args below meth c H locs cells slots Q (F0 m (pc + n) ls (.int (F x y) :: rest)) → W p l e R s m args below meth c H locs cells slots Q (F0 m pc ls (.int y :: .int x :: rest)))
    (k : ∀ (ls' : Array Slot) (lc' : List (Nat × Value)) (vs' : List Value), lv_has ls' nL lc' → sA2 (sRL ρ ads ex) lv' lc' → sA2 (sRep ρ ads ex) st' vs' → W p l e R s m args below meth c H locs cells slots Q (F0 m (pc + n) ls' vs')) : W p l e R s m args below meth c H locs cells slots Q (F0 m pc ls vs) := by
  obtain ⟨a, b, r, hst, hz⟩ := s2_some h
  subst hst
  replace h := hz
  clear hz
  obtain ⟨vb, vs1, rfl, hb, hS1⟩ := sA2_cons hS
  obtain ⟨va, rest, rfl, ha, hS2⟩ := sA2_cons hS1
  split at h
  · rename_i yy hn
    split at h
    · cases h
    · rename_i h0
      obtain ⟨y, hy, he⟩ := Option.map_eq_some_iff.mp h
      cases he
      have hb2 := sN_ok hs hb
      rw [hn] at hb2
      obtain ⟨x1, y1, rfl, rfl, hr⟩ := sF_ok hs ha hb hy
      have e : y1 = Int32.ofInt yy := by simpa [sRep] using hb2
      exact row rfl x1 y1 rest (by rw [e]; exact h0) (k ls lc _ hl hL ⟨hr, hS2⟩)
  · cases h
theorem sU_ok (hs : sSat ρ env) {F : Int32 → Int32} (hl : lv_has ls nL lc) (hL : sA2 (sRL ρ ads ex) lv lc) (hS : sA2 (sRep ρ ads ex) st vs) (h : sU F env lv st = some (n, lv', st'))
    (row : n = 1 → ∀ (x : Int32) (rest : List Value), W p l e R s m args below meth c H locs cells slots Q (F0 m (pc + n) ls (.int (F x) :: rest)) → W p l e R s m args below meth c H locs cells slots Q (F0 m pc ls (.int x :: rest)))
    (k : ∀ (ls' : Array Slot) (lc' : List (Nat × Value)) (vs' : List Value), lv_has ls' nL lc' → sA2 (sRL ρ ads ex) lv' lc' → sA2 (sRep ρ ads ex) st' vs' → W p l e R s m args below meth c H locs cells slots Q (F0 m (pc + n) ls' vs')) : W p l e R s m args below meth c H locs cells slots Q (F0 m pc ls vs) := by
  obtain ⟨a, r, hst, hz⟩ := s1_some h
  subst hst
  replace h := hz
  clear hz
  obtain ⟨va, rest, rfl, ha, hS1⟩ := sA2_cons hS
  have ha' := sN_ok hs ha
  generalize sN env a = a' at h ha'
  split at h
  · cases h
    simp only [sRep] at ha'
    subst ha'
    exact row rfl _ rest (k ls lc _ hl hL ⟨by show Value.int _ = Value.int _; rw [Int32.ofInt_toInt], hS1⟩)
  · split at h
    · rename_i hk
      cases h
      obtain ⟨x, rfl⟩ := sRep_int ha' hk
      exact row rfl _ rest (k ls lc _ hl hL ⟨⟨_, rfl⟩, hS1⟩)
    · cases h
theorem sLoad_ok {kd i : Nat} (hl : lv_has ls nL lc) (hL : sA2 (sRL ρ ads ex) lv lc) (hS : sA2 (sRep ρ ads ex) st vs) {n0 : Nat} (h : sLoad kd lv st i n0 = some (n, lv', st')) (k : ∀ (ls' : Array Slot) (lc' : List (Nat × Value)) (vs' : List Value), lv_has ls' nL lc' → sA2 (sRL ρ ads ex) lv' lc' → sA2 (sRep ρ ads ex) st' vs' → W p l e R s m args below meth c H locs cells slots Q (F0 m (pc + n) ls' vs')) :
    n = n0 ∧ ∃ (x : sV) (v : Value), sK x = kd ∧ sRep ρ ads ex x v ∧ ls[i]? = some (.val v) ∧ W p l e R s m args below meth c H locs cells slots Q (F0 m (pc + n) ls (v :: vs)) := by
  unfold sLoad at h
  split at h
  · rename_i x hg
    split at h
    · rename_i hk
      cases h
      obtain ⟨k0, v, h1, h2⟩ := sGet_ok _ _ hL hg
      exact ⟨rfl, x, v, hk, h2, lv_at hl k0 h1, k ls lc _ hl hL ⟨h2, hS⟩⟩
    · cases h
  · cases h
theorem sStore_ok {kd i : Nat} (hS : sA2 (sRep ρ ads ex) st vs) {n0 : Nat} (h : sStore kd nL lv st i n0 = some (n, lv', st')) :
    n = n0 ∧ ∃ (x : sV) (v : Value) (rest : List Value), i < nL ∧ sK x = kd ∧ sRep ρ ads ex x v ∧ vs = v :: rest ∧ lv' = sPut1 lv i x ∧ sA2 (sRep ρ ads ex) st' rest := by
  obtain ⟨a, r, hst, hz⟩ := s1_some h
  subst hst
  replace h := hz
  clear hz
  obtain ⟨va, rest, rfl, ha, hS1⟩ := sA2_cons hS
  split at h
  · rename_i hk
    cases h
    exact ⟨rfl, a, va, rest, hk.2, hk.1, ha, rfl, rfl, hS1⟩
  · cases h
theorem sStore2_ok {i : Nat} (hS : sA2 (sRep ρ ads ex) st vs) {n0 : Nat} (h : sStore2 nL lv st i n0 = some (n, lv', st')) :
    n = n0 ∧ ∃ (x : sV) (v : Value) (rest : List Value), i + 1 < nL ∧ sK x = 1 ∧ sRep ρ ads ex x v ∧ vs = v :: rest ∧ lv' = sPut2 lv i x ∧ sA2 (sRep ρ ads ex) st' rest := by
  obtain ⟨a, r, hst, hz⟩ := s1_some h
  subst hst
  replace h := hz
  clear hz
  obtain ⟨va, rest, rfl, ha, hS1⟩ := sA2_cons hS
  split at h
  · rename_i hk
    cases h
    exact ⟨rfl, a, va, rest, hk.2, hk.1, ha, rfl, rfl, hS1⟩
  · cases h
theorem sCat1 {x : sV} {v : Value} (h : sRep ρ ads ex x v) (hk : ¬ sK x = 1) : v.category = 1 := by rw [sRep_cat h, if_neg hk]
set_option maxHeartbeats 4000000 in
theorem sPure_ok (hx : p.tables.exec = Jvm.exec) (hb : c.code = cc) (hs : sSat ρ env) (h6 : ρ 6 = ρ 0 &&& 31) (hl : lv_has ls nL lc) (hL : sA2 (sRL ρ ads ex) lv lc) (hS : sA2 (sRep ρ ads ex) st vs) {ins : Instr} (hd : decode cc pc = .ok (ins, n)) (h : sPure env nL ins lv st = some (n, lv', st'))
    (k : ∀ (ls' : Array Slot) (lc' : List (Nat × Value)) (vs' : List Value), lv_has ls' nL lc' → sA2 (sRL ρ ads ex) lv' lc' → sA2 (sRep ρ ads ex) st' vs' → W p l e R s m args below meth c H locs cells slots Q (F0 m (pc + n) ls' vs')) : W p l e R s m args below meth c H locs cells slots Q (F0 m pc ls vs) := by
  cases ins
  case iconst z => cases h; exact lv_iconst hx hb hd rfl (k ls lc _ hl hL ⟨rfl, hS⟩)
  case bipush z => cases h; exact lv_bipush hx hb hd rfl (k ls lc _ hl hL ⟨by show Value.int _ = Value.int _; rw [Int32.ofInt_toInt], hS⟩)
  case sipush z => cases h; exact lv_sipush hx hb hd rfl (k ls lc _ hl hL ⟨by show Value.int _ = Value.int _; rw [Int32.ofInt_toInt], hS⟩)
  case lconst z => cases h; exact lv_lconst hx hb hd rfl (k ls lc _ hl hL ⟨by show Value.long _ = Value.long _; rw [Int64.ofInt_toInt], hS⟩)
  case aconst_null => cases h; exact lv_null hx hb hd (k ls lc _ hl hL ⟨rfl, hS⟩)
  case iload_n j =>
    obtain ⟨rfl, x, v, hk, hr, hg, w⟩ := sLoad_ok hl hL hS h k
    obtain ⟨y, rfl⟩ := sRep_int hr hk
    exact lv_iload_n hx hb hd rfl hg w
  case iload j =>
    obtain ⟨rfl, x, v, hk, hr, hg, w⟩ := sLoad_ok hl hL hS h k
    obtain ⟨y, rfl⟩ := sRep_int hr hk
    exact lv_iload hx hb hd hg w
  case lload_n j =>
    obtain ⟨rfl, x, v, hk, hr, hg, w⟩ := sLoad_ok hl hL hS h k
    obtain ⟨y, rfl⟩ := sRep_long hr hk
    exact lv_lload_n hx hb hd rfl hg w
  case lload j =>
    obtain ⟨rfl, x, v, hk, hr, hg, w⟩ := sLoad_ok hl hL hS h k
    obtain ⟨y, rfl⟩ := sRep_long hr hk
    exact lv_lload hx hb hd hg w
  case aload_n j =>
    obtain ⟨rfl, x, v, hk, hr, hg, w⟩ := sLoad_ok hl hL hS h k
    obtain ⟨y, rfl⟩ := sRep_ref hr hk
    exact lv_aload_n hx hb hd rfl hg w
  case aload j =>
    obtain ⟨rfl, x, v, hk, hr, hg, w⟩ := sLoad_ok hl hL hS h k
    obtain ⟨y, rfl⟩ := sRep_ref hr hk
    exact lv_aload hx hb hd hg w
  case istore_n j =>
    obtain ⟨rfl, x, v, rest, hi, hk, hr, rfl, rfl, hS1⟩ := sStore_ok hS h
    obtain ⟨y, rfl⟩ := sRep_int hr hk
    exact lv_istore_n hx hb hd rfl hl hi rfl (fun ls' hl' => k ls' _ _ hl' (sPut1_ok hL hr) hS1)
  case istore j =>
    obtain ⟨rfl, x, v, rest, hi, hk, hr, rfl, rfl, hS1⟩ := sStore_ok hS h
    obtain ⟨y, rfl⟩ := sRep_int hr hk
    exact lv_istore hx hb hd hl hi rfl (fun ls' hl' => k ls' _ _ hl' (sPut1_ok hL hr) hS1)
  case lstore_n j =>
    obtain ⟨rfl, x, v, rest, hi, hk, hr, rfl, rfl, hS1⟩ := sStore2_ok hS h
    obtain ⟨y, rfl⟩ := sRep_long hr hk
    exact lv_lstore_n hx hb hd rfl hl hi rfl (fun ls' hl' => k ls' _ _ hl' (sPut2_ok hL hr) hS1)
  case lstore j =>
    obtain ⟨rfl, x, v, rest, hi, hk, hr, rfl, rfl, hS1⟩ := sStore2_ok hS h
    obtain ⟨y, rfl⟩ := sRep_long hr hk
    exact lv_lstore hx hb hd hl hi rfl (fun ls' hl' => k ls' _ _ hl' (sPut2_ok hL hr) hS1)
  case astore_n j =>
    obtain ⟨rfl, x, v, rest, hi, hk, hr, rfl, rfl, hS1⟩ := sStore_ok hS h
    obtain ⟨y, rfl⟩ := sRep_ref hr hk
    exact lv_astore_n hx hb hd rfl hl hi rfl (fun ls' hl' => k ls' _ _ hl' (sPut1_ok hL hr) hS1)
  case astore j =>
    obtain ⟨rfl, x, v, rest, hi, hk, hr, rfl, rfl, hS1⟩ := sStore_ok hS h
    obtain ⟨y, rfl⟩ := sRep_ref hr hk
    exact lv_astore hx hb hd hl hi rfl (fun ls' hl' => k ls' _ _ hl' (sPut1_ok hL hr) hS1)
  case iinc i z =>
    simp only [sPure, sInc] at h
    split at h
    · rename_i x hg
      split at h
      · rename_i hi
        obtain ⟨y, hy, he⟩ := Option.map_eq_some_iff.mp h
        cases he
        obtain ⟨k0, v, h1, h2⟩ := sGet_ok _ _ hL hg
        obtain ⟨x1, y1, rfl, e2, hr⟩ := sZ_ok (F := fun a b => a + b) (ads := ads) (ex := ex) hs (fun x y => (Int32.ofInt_add x y).symm) h2 (show sRep ρ ads ex (0, z) (.int (Int32.ofInt z)) from rfl) hy
        cases e2
        exact lv_iinc hx hb hd hl h1 rfl hi rfl (fun ls' hl' => k ls' _ _ hl' (sPut1_ok hL hr) hS)
      · cases h
    · cases h
  case iadd => exact sBZ_ok hs (F := fun a b => a + b) (fun x y => (Int32.ofInt_add x y).symm) hl hL hS h (fun e x y rest w => by subst e; exact lv_iadd hx hb hd w) k
  case isub => exact sBZ_ok hs (F := fun a b => a - b) (fun x y => (Int32.ofInt_sub x y).symm) hl hL hS h (fun e x y rest w => by subst e; exact lv_isub hx hb hd w) k
  case imul => exact sBZ_ok hs (F := fun a b => a * b) (fun x y => (Int32.ofInt_mul x y).symm) hl hL hS h (fun e x y rest w => by subst e; exact lv_imul hx hb hd w) k
  case iand =>
    obtain ⟨a, b, r, hst, hz⟩ := s2_some h
    subst hst
    replace h := hz
    clear hz
    split at h
    · rename_i e
      obtain ⟨rfl, rfl⟩ := e
      cases h
      obtain ⟨vb, vs1, rfl, h1, hS1⟩ := sA2_cons hS
      obtain ⟨va, rest, rfl, h2, hS2⟩ := sA2_cons hS1
      simp only [sRep] at h1 h2
      subst h1; subst h2
      exact lv_iand hx hb hd (k ls lc _ hl hL ⟨by show Value.int _ = Value.int _; rw [show ((6 : Int).toNat) = 6 from rfl, h6]; rfl, hS2⟩)
    · exact sBF_ok (F := fun x y => x &&& y) hs hl hL hS (show sBF (fun x y => x &&& y) env lv (b :: a :: r) = _ from h) (fun e x y rest w => by subst e; exact lv_iand hx hb hd w) k
  case ior => exact sBF_ok hs hl hL hS h (fun e x y rest w => by subst e; exact lv_ior hx hb hd w) k
  case ixor => exact sBF_ok hs hl hL hS h (fun e x y rest w => by subst e; exact lv_ixor hx hb hd w) k
  case ishl => exact sBF_ok hs hl hL hS h (fun e x y rest w => by subst e; exact lv_ishl hx hb hd w) k
  case ishr => exact sBF_ok hs hl hL hS h (fun e x y rest w => by subst e; exact lv_ishr hx hb hd w) k
  case iushr => exact sBF_ok hs hl hL hS h (fun e x y rest w => by subst e; exact lv_iushr hx hb hd rfl w) k
  case idiv => exact sBD_ok hs hl hL hS h (fun e x y rest hy w => by subst e; exact lv_idiv hx hb hd hy w) k
  case irem => exact sBD_ok hs hl hL hS h (fun e x y rest hy w => by subst e; exact lv_irem hx hb hd hy w) k
  case ineg => exact sU_ok hs hl hL hS h (fun e x rest w => by subst e; exact lv_ineg hx hb hd w) k
  case i2b => exact sU_ok (F := fun x => x.toInt8.toInt32) hs hl hL hS h (fun e x rest w => by subst e; exact lv_i2b hx hb hd rfl w) k
  case i2c => exact sU_ok (F := fun x => (x.toUInt32 % 65536).toInt32) hs hl hL hS h (fun e x rest w => by subst e; exact lv_i2c hx hb hd rfl w) k
  case i2l =>
    obtain ⟨a, r, hst, hz⟩ := s1_some h
    subst hst
    replace h := hz
    clear hz
    obtain ⟨va, rest, rfl, ha, hS1⟩ := sA2_cons hS
    have ha' := sN_ok hs ha
    generalize sN env a = a' at h ha'
    split at h
    · split at h
      · rename_i hI
        cases h
        simp only [sRep] at ha'
        subst ha'
        exact lv_i2l hx hb hd rfl (k ls lc _ hl hL ⟨by show Value.long _ = Value.long _; rw [← Int64.ofInt_int32ToInt, sI_toInt hI], hS1⟩)
      · cases h
    · cases h
      simp only [sRep] at ha'
      subst ha'
      exact lv_i2l hx hb hd rfl (k ls lc _ hl hL ⟨rfl, hS1⟩)
    · cases h
  case dup =>
    obtain ⟨a, r, hst, hz⟩ := s1_some h
    subst hst
    replace h := hz
    clear hz
    obtain ⟨va, rest, rfl, ha, hS1⟩ := sA2_cons hS
    split at h
    · cases h
    · rename_i hk
      cases h
      exact lv_dup hx hb hd (sCat1 ha hk) (k ls lc _ hl hL ⟨ha, ha, hS1⟩)
  case pop =>
    obtain ⟨a, r, hst, hz⟩ := s1_some h
    subst hst
    replace h := hz
    clear hz
    obtain ⟨va, rest, rfl, ha, hS1⟩ := sA2_cons hS
    split at h
    · cases h
    · rename_i hk
      cases h
      exact lv_pop hx hb hd (sCat1 ha hk) (k ls lc _ hl hL hS1)
  case dup_x1 =>
    obtain ⟨a, b, r, hst, hz⟩ := s2_some h
    subst hst
    replace h := hz
    clear hz
    obtain ⟨vb, vs1, rfl, h1, hS1⟩ := sA2_cons hS
    obtain ⟨va, rest, rfl, h2, hS2⟩ := sA2_cons hS1
    split at h
    · cases h
    · rename_i hk
      cases h
      exact lv_dup_x1 hx hb hd (sCat1 h1 (fun q => hk (Or.inl q))) (sCat1 h2 (fun q => hk (Or.inr q))) (k ls lc _ hl hL ⟨h1, h2, h1, hS2⟩)
  case dup2 =>
    obtain ⟨a, b, r, hst, hz⟩ := s2_some h
    subst hst
    replace h := hz
    clear hz
    obtain ⟨vb, vs1, rfl, h1, hS1⟩ := sA2_cons hS
    obtain ⟨va, rest, rfl, h2, hS2⟩ := sA2_cons hS1
    split at h
    · cases h
    · rename_i hk
      split at h
      · cases h
      · rename_i hk2
        cases h
        exact lv_dup2_11 hx hb hd (sCat1 h1 hk) (sCat1 h2 hk2) (k ls lc _ hl hL ⟨h1, h2, h1, h2, hS2⟩)
  all_goals exact absurd h (by simp [sPure])
end SPW
