noncomputable section
/-! ===== locals, and instructions that touch locals and stack alone ===== -/
def sGet : sM → Nat → Option sV
  | [], _ => none
  | (j, x) :: t, i => if j = i then some x else sGet t i
def sPut1 (lv : sM) (i : Nat) (x : sV) : sM := (i, x) :: lv.filter (fun q => !(q.1 == i) && !(q.1 + 1 == i && sK q.2 == 1))
def sPut2 (lv : sM) (i : Nat) (x : sV) : sM := (i, x) :: lv.filter (fun q => !(q.1 == i) && (!(q.1 == i + 1) && !(q.1 + 1 == i && sK q.2 == 1)))
def sRL (ρ : List Int) (ads : List Nat) (ex : Nat → Nat) (a : Nat × sV) (b : Nat × Value) : Prop := a.1 = b.1 ∧ sRep ρ ads ex a.2 b.2
theorem sGet_ok {ρ : List Int} {ads : List Nat} {ex : Nat → Nat} {i : Nat} {x : sV} : ∀ (lv : sM) (lc : List (Nat × Value)), sA2 (sRL ρ ads ex) lv lc → sGet lv i = some x → ∃ (k : Nat) (v : Value), lc[k]? = some (i, v) ∧ sRep ρ ads ex x v
  | [], [], _, h => by simp [sGet] at h
  | (j, y) :: t, (j', v) :: t', ⟨⟨h1, h2⟩, h3⟩, h => by
    simp only [sGet] at h
    split at h
    · rename_i e
      cases h
      subst e
      simp only at h1
      subst h1
      exact ⟨0, v, rfl, h2⟩
    · obtain ⟨k, w, hk, hr⟩ := sGet_ok t t' h3 h
      exact ⟨k + 1, w, by simpa using hk, hr⟩
  | [], _ :: _, q, _ => q.elim
  | _ :: _, [], q, _ => q.elim
theorem sCat {ρ : List Int} {ads : List Nat} {ex : Nat → Nat} {x : sV} {v : Value} (h : sRep ρ ads ex x v) : (v.category == 2) = (sK x == 1) := by
  rw [sRep_cat h]
  by_cases e : sK x = 1
  · simp [e]
  · simp [e]
theorem sPut1_ok {ρ : List Int} {ads : List Nat} {ex : Nat → Nat} {lv : sM} {lc : List (Nat × Value)} {i : Nat} {x : sV} {v : Value} (h : sA2 (sRL ρ ads ex) lv lc) (hx : sRep ρ ads ex x v) :
    sA2 (sRL ρ ads ex) (sPut1 lv i x) ((i, v) :: lc.filter (fun q => !(q.1 == i) && !(q.1 + 1 == i && q.2.category == 2))) := by
  refine ⟨⟨rfl, hx⟩, sA2_filter ?_ _ _ h⟩
  intro a b hab
  rw [hab.1, sCat hab.2]
theorem sPut2_ok {ρ : List Int} {ads : List Nat} {ex : Nat → Nat} {lv : sM} {lc : List (Nat × Value)} {i : Nat} {x : sV} {v : Value} (h : sA2 (sRL ρ ads ex) lv lc) (hx : sRep ρ ads ex x v) :
    sA2 (sRL ρ ads ex) (sPut2 lv i x) ((i, v) :: lc.filter (fun q => !(q.1 == i) && (!(q.1 == i + 1) && !(q.1 + 1 == i && q.2.category == 2)))) := by
  refine ⟨⟨rfl, hx⟩, sA2_filter ?_ _ _ h⟩
  intro a b hab
  rw [hab.1, sCat hab.2]
theorem sStM {ρ ρ' : List Int} {ads ads' : List Nat} {ex : Nat → Nat} (hr : ρ <+: ρ') (hp : ads <+: ads') {st : List sV} {vs : List Value} (h : sA2 (sRep ρ ads ex) st vs) : sA2 (sRep ρ' ads' ex) st vs := sA2_imp (fun _ _ q => sRep_mono hr hp q) _ _ h
theorem sLvM {ρ ρ' : List Int} {ads ads' : List Nat} {ex : Nat → Nat} (hr : ρ <+: ρ') (hp : ads <+: ads') {lv : sM} {lc : List (Nat × Value)} (h : sA2 (sRL ρ ads ex) lv lc) : sA2 (sRL ρ' ads' ex) lv lc := sA2_imp (fun _ _ q => ⟨q.1, sRep_mono hr hp q.2⟩) _ _ h
def s1 {β : Type} (st : List sV) (f : sV → List sV → Option β) : Option β := match st with
  | a :: r => f a r
  | _ => none
def s2 {β : Type} (st : List sV) (f : sV → sV → List sV → Option β) : Option β := match st with
  | b :: a :: r => f a b r
  | _ => none
theorem s1_some {β : Type} {st : List sV} {f : sV → List sV → Option β} {y : β} (h : s1 st f = some y) : ∃ a r, st = a :: r ∧ f a r = some y := by
  unfold s1 at h
  split at h
  · exact ⟨_, _, rfl, h⟩
  · cases h
theorem s2_some {β : Type} {st : List sV} {f : sV → sV → List sV → Option β} {y : β} (h : s2 st f = some y) : ∃ a b r, st = b :: a :: r ∧ f a b r = some y := by
  unfold s2 at h
  split at h
  · exact ⟨_, _, _, rfl, h⟩
  · cases h
abbrev sP4 : Type := Nat × sCx × sM × List sV
def sLoad (k : Nat) (κ : sCx) (lv : sM) (st : List sV) (i n : Nat) : Option sP4 := match sGet lv i with
  | some x => if sK x = k then some (n, κ, lv, x :: st) else none
  | none => none
def sStore (k : Nat) (nL : Nat) (κ : sCx) (lv : sM) (st : List sV) (i n : Nat) : Option sP4 :=
  s1 st fun x r => if sK x = k ∧ i < nL then some (n, κ, sPut1 lv i x, r) else none
def sStore2 (nL : Nat) (κ : sCx) (lv : sM) (st : List sV) (i n : Nat) : Option sP4 :=
  s1 st fun x r => if sK x = 1 ∧ i + 1 < nL then some (n, κ, sPut2 lv i x, r) else none
def sBin (op : sCx → sV → sV → Option (sCx × sV)) (κ : sCx) (lv : sM) (st : List sV) : Option sP4 := s2 st fun a b r => if sK a = 0 ∧ sK b = 0 then (match op κ (sN κ.2.1 a) (sN κ.2.1 b) with
  | some (κ', x) => some (1, κ', lv, x :: r)
  | none => none) else none
def sUn (op : sCx → sV → Option (sCx × sV)) (κ : sCx) (lv : sM) (st : List sV) : Option sP4 := s1 st fun a r => if sK a = 0 then (match op κ (sN κ.2.1 a) with
  | some (κ', x) => some (1, κ', lv, x :: r)
  | none => none) else none
def sInc (κ : sCx) (nL : Nat) (lv : sM) (st : List sV) (i : Nat) (n : Int) : Option sP4 := match sGet lv i with
  | some x => if i < nL ∧ sK x = 0 then (match sAdd κ (sN κ.2.1 x) (0, n) with
    | some (κ', y) => some (3, κ', sPut1 lv i y, st)
    | none => none) else none
  | none => none
/-- an int widened to a long: the same number -/
def sI2l (κ : sCx) (lv : sM) (st : List sV) : Option sP4 := s1 st fun a r => match sRg κ.2.1 (sN κ.2.1 a) with
  | some _ => if sK a = 0 then some (1, κ, lv, ((sN κ.2.1 a).1 + 1, (sN κ.2.1 a).2) :: r) else none
  | none => none
def sPure (κ : sCx) (nL : Nat) (ins : Instr) (lv : sM) (st : List sV) : Option sP4 := match ins with
  | .iconst n => some (1, κ, lv, (0, n) :: st)
  | .bipush n => some (2, κ, lv, (0, ((Int8.ofInt n).toInt32).toInt) :: st)
  | .sipush n => some (3, κ, lv, (0, ((Int16.ofInt n).toInt32).toInt) :: st)
  | .lconst n => some (1, κ, lv, (1, (Int64.ofNat n.val).toInt) :: st)
  | .aconst_null => some (1, κ, lv, (2, 0) :: st)
  | .iload_n k => sLoad 0 κ lv st k.val 1
  | .iload i => sLoad 0 κ lv st i 2
  | .lload_n k => sLoad 1 κ lv st k.val 1
  | .lload i => sLoad 1 κ lv st i 2
  | .aload_n k => sLoad 2 κ lv st k.val 1
  | .aload i => sLoad 2 κ lv st i 2
  | .istore_n k => sStore 0 nL κ lv st k.val 1
  | .istore i => sStore 0 nL κ lv st i 2
  | .lstore_n k => sStore2 nL κ lv st k.val 1
  | .lstore i => sStore2 nL κ lv st i 2
  | .astore_n k => sStore 2 nL κ lv st k.val 1
  | .astore i => sStore 2 nL κ lv st i 2
  | .iinc i n => sInc κ nL lv st i n
  | .iadd => sBin sAdd κ lv st
  | .isub => sBin sSub κ lv st
  | .imul => sBin sMul κ lv st
  | .iand => sBin sAnd κ lv st
  | .ior => sBin (sBor (fun x y => x ||| y) 8) κ lv st
  | .ixor => sBin (sBor (fun x y => x ^^^ y) 9) κ lv st
  | .ishl => sBin sShl κ lv st
  | .ishr => sBin sShr κ lv st
  | .iushr => sBin (sKn (fun x y => (x.toUInt32 >>> (y.toUInt32 &&& Int32.toUInt32 31)).toInt32)) κ lv st
  | .idiv => sBin (sDiv (fun x y => x / y)) κ lv st
  | .irem => sBin sRem κ lv st
  | .ineg => sUn (sU1 (fun x => -x) (-2147483648) 2147483647) κ lv st
  | .i2b => sUn sI2b κ lv st
  | .i2c => sUn sI2c κ lv st
  | .i2l => sI2l κ lv st
  | .dup => s1 st fun a r => if sK a = 1 then none else some (1, κ, lv, a :: a :: r)
  | .pop => s1 st fun a r => if sK a = 1 then none else some (1, κ, lv, r)
  | .dup_x1 => s2 st fun b a r => if sK a = 1 ∨ sK b = 1 then none else some (1, κ, lv, a :: b :: a :: r)
  | .dup2 => s2 st fun b a r => if sK a = 1 then none else if sK b = 1 then none else some (1, κ, lv, a :: b :: a :: b :: r)
  | _ => none
section SPW
variable {p : Program} {l : Launch} {e : Env} {R : Room} {s : State} {m : MethodId} {args : Array Value} {below : List Frame} {meth : Method} {c : Code} {H : Heap} {locs : List Loc} {cells slots : Nat} {Q : State → Prop}
variable {cc : ByteArray} {pc : Nat} {ls : Array Slot} {ρ : List Int} {ads : List Nat} {ex : Nat → Nat} {κ κ' : sCx} {nL : Nat} {lv lv' : sM} {lc : List (Nat × Value)} {st st' : List sV} {vs : List Value} {n : Nat}
/-- how a step over locals and stack goes on -/
def sPk (p : Program) (l : Launch) (e : Env) (R : Room) (s : State) (m : MethodId) (args : Array Value) (below : List Frame) (meth : Method) (c : Code) (H : Heap) (locs : List Loc) (cells slots : Nat) (Q : State → Prop) (ρ : List Int) (ads : List Nat) (ex : Nat → Nat) (nL : Nat) (κ' : sCx) (lv' : sM) (st' : List sV) (pc' : Nat) : Prop :=
  ∀ (ρ' : List Int) (ls' : Array Slot) (lc' : List (Nat × Value)) (vs' : List Value), ρ <+: ρ' → sCok ρ' κ' → lv_has ls' nL lc' → sA2 (sRL ρ' ads ex) lv' lc' → sA2 (sRep ρ' ads ex) st' vs' → W p l e R s m args below meth c H locs cells slots Q (F0 m pc' ls' vs')
theorem sBin_ok {op : sCx → sV → sV → Option (sCx × sV)} {G : Int32 → Int32 → Int32} (hop : sOpr op G) (hs : sCok ρ κ) (hl : lv_has ls nL lc) (hL : sA2 (sRL ρ ads ex) lv lc) (hS : sA2 (sRep ρ ads ex) st vs) (h : sBin op κ lv st = some (n, κ', lv', st'))
    (row : n = 1 → ∀ (a b : sV) (u w : Int) (rest : List Value), sEv ρ (sN κ.2.1 a) = some u → sEv ρ (sN κ.2.1 b) = some w → (∃ q, op κ (sN κ.2.1 a) (sN κ.2.1 b) = some q) → W p l e R s m args below meth c H locs cells slots Q (F0 m (pc + n) ls (.int (G (Int32.ofInt u) (Int32.ofInt w)) :: rest)) → W p l e R s m args below meth c H locs cells slots Q (F0 m pc ls (.int (Int32.ofInt w) :: .int (Int32.ofInt u) :: rest)))
    (k : sPk p l e R s m args below meth c H locs cells slots Q ρ ads ex nL κ' lv' st' (pc + n)) : W p l e R s m args below meth c H locs cells slots Q (F0 m pc ls vs) := by
  obtain ⟨a, b, r, hst, hz⟩ := s2_some h
  subst hst
  obtain ⟨vb, vs1, rfl, hb, hS1⟩ := sA2_cons hS
  obtain ⟨va, rest, rfl, ha, hS2⟩ := sA2_cons hS1
  split at hz
  · rename_i hk
    split at hz
    · rename_i κ1 x hx
      cases hz
      obtain ⟨u, rfl, hu⟩ := sRep_int (sN_ok hs.1 ha) ((sN_k _ _).trans hk.1)
      obtain ⟨w, rfl, hw⟩ := sRep_int (sN_ok hs.1 hb) ((sN_k _ _).trans hk.2)
      obtain ⟨ρ', r1, r2, r3, z, r4, r5⟩ := hop hs ((sN_k _ _).trans hk.1) ((sN_k _ _).trans hk.2) hu hw hx
      exact row rfl a b u w rest hu hw ⟨_, hx⟩ (k ρ' ls lc _ r1 r2 hl (sLvM r1 List.prefix_rfl hL) ⟨by rw [← r5]; exact sRep_of_int r3 r4, sStM r1 List.prefix_rfl hS2⟩)
    · cases hz
  · cases hz
theorem sUn_ok {op : sCx → sV → Option (sCx × sV)} {G : Int32 → Int32} (hop : sUpr op G) (hs : sCok ρ κ) (hl : lv_has ls nL lc) (hL : sA2 (sRL ρ ads ex) lv lc) (hS : sA2 (sRep ρ ads ex) st vs) (h : sUn op κ lv st = some (n, κ', lv', st'))
    (row : n = 1 → ∀ (x : Int32) (rest : List Value), W p l e R s m args below meth c H locs cells slots Q (F0 m (pc + n) ls (.int (G x) :: rest)) → W p l e R s m args below meth c H locs cells slots Q (F0 m pc ls (.int x :: rest)))
    (k : sPk p l e R s m args below meth c H locs cells slots Q ρ ads ex nL κ' lv' st' (pc + n)) : W p l e R s m args below meth c H locs cells slots Q (F0 m pc ls vs) := by
  obtain ⟨a, r, hst, hz⟩ := s1_some h
  subst hst
  obtain ⟨va, rest, rfl, ha, hS1⟩ := sA2_cons hS
  split at hz
  · rename_i hk
    split at hz
    · rename_i κ1 x hx
      cases hz
      obtain ⟨u, rfl, hu⟩ := sRep_int (sN_ok hs.1 ha) ((sN_k _ _).trans hk)
      obtain ⟨ρ', r1, r2, r3, z, r4, r5⟩ := hop hs ((sN_k _ _).trans hk) hu hx
      exact row rfl _ rest (k ρ' ls lc _ r1 r2 hl (sLvM r1 List.prefix_rfl hL) ⟨by rw [← r5]; exact sRep_of_int r3 r4, sStM r1 List.prefix_rfl hS1⟩)
    · cases hz
  · cases hz
theorem sLoad_ok {kd i : Nat} (hs : sCok ρ κ) (hl : lv_has ls nL lc) (hL : sA2 (sRL ρ ads ex) lv lc) (hS : sA2 (sRep ρ ads ex) st vs) {n0 : Nat} (h : sLoad kd κ lv st i n0 = some (n, κ', lv', st')) (k : sPk p l e R s m args below meth c H locs cells slots Q ρ ads ex nL κ' lv' st' (pc + n)) :
    n = n0 ∧ ∃ (x : sV) (v : Value), sK x = kd ∧ sRep ρ ads ex x v ∧ ls[i]? = some (.val v) ∧ W p l e R s m args below meth c H locs cells slots Q (F0 m (pc + n) ls (v :: vs)) := by
  unfold sLoad at h
  split at h
  · rename_i x hg
    split at h
    · rename_i hk
      cases h
      obtain ⟨k0, v, h1, h2⟩ := sGet_ok _ _ hL hg
      exact ⟨rfl, x, v, hk, h2, lv_at hl k0 h1, k ρ ls lc _ List.prefix_rfl hs hl hL ⟨h2, hS⟩⟩
    · cases h
  · cases h
theorem sStore_ok {kd i : Nat} (hS : sA2 (sRep ρ ads ex) st vs) {n0 : Nat} (h : sStore kd nL κ lv st i n0 = some (n, κ', lv', st')) :
    n = n0 ∧ κ' = κ ∧ ∃ (x : sV) (v : Value) (rest : List Value), i < nL ∧ sK x = kd ∧ sRep ρ ads ex x v ∧ vs = v :: rest ∧ lv' = sPut1 lv i x ∧ sA2 (sRep ρ ads ex) st' rest := by
  obtain ⟨a, r, hst, hz⟩ := s1_some h
  subst hst
  obtain ⟨va, rest, rfl, ha, hS1⟩ := sA2_cons hS
  split at hz
  · rename_i hk
    cases hz
    exact ⟨rfl, rfl, a, va, rest, hk.2, hk.1, ha, rfl, rfl, hS1⟩
  · cases hz
theorem sStore2_ok {i : Nat} (hS : sA2 (sRep ρ ads ex) st vs) {n0 : Nat} (h : sStore2 nL κ lv st i n0 = some (n, κ', lv', st')) :
    n = n0 ∧ κ' = κ ∧ ∃ (x : sV) (v : Value) (rest : List Value), i + 1 < nL ∧ sK x = 1 ∧ sRep ρ ads ex x v ∧ vs = v :: rest ∧ lv' = sPut2 lv i x ∧ sA2 (sRep ρ ads ex) st' rest := by
  obtain ⟨a, r, hst, hz⟩ := s1_some h
  subst hst
  obtain ⟨va, rest, rfl, ha, hS1⟩ := sA2_cons hS
  split at hz
  · rename_i hk
    cases hz
    exact ⟨rfl, rfl, a, va, rest, hk.2, hk.1, ha, rfl, rfl, hS1⟩
  · cases hz
theorem sCat1 {x : sV} {v : Value} (h : sRep ρ ads ex x v) (hk : ¬ sK x = 1) : v.category = 1 := by rw [sRep_cat h, if_neg hk]
theorem sRep_iv {x : sV} {v : Value} (h : sRep ρ ads ex x v) (hk : sK x = 0) : ∃ y : Int32, v = .int y := by
  obtain ⟨n, h, -⟩ := sRep_int h hk
  exact ⟨_, h⟩
theorem sRep_lv {x : sV} {v : Value} (h : sRep ρ ads ex x v) (hk : sK x = 1) : ∃ y : Int64, v = .long y := by
  obtain ⟨n, h, -⟩ := sRep_long h hk
  exact ⟨_, h⟩
set_option maxHeartbeats 4000000 in
theorem sPure_ok (hx : p.tables.exec = Jvm.exec) (hb : c.code = cc) (hs : sCok ρ κ) (hl : lv_has ls nL lc) (hL : sA2 (sRL ρ ads ex) lv lc) (hS : sA2 (sRep ρ ads ex) st vs) {ins : Instr} (hd : decode cc pc = .ok (ins, n)) (h : sPure κ nL ins lv st = some (n, κ', lv', st'))
    (k : sPk p l e R s m args below meth c H locs cells slots Q ρ ads ex nL κ' lv' st' (pc + n)) : W p l e R s m args below meth c H locs cells slots Q (F0 m pc ls vs) := by
  have hrf : ρ <+: ρ := List.prefix_rfl
  cases ins
  case iconst z => cases h; exact lv_iconst hx hb hd rfl (k ρ ls lc _ hrf hs hl hL ⟨rfl, hS⟩)
  case bipush z => cases h; exact lv_bipush hx hb hd rfl (k ρ ls lc _ hrf hs hl hL ⟨by show Value.int _ = Value.int _; rw [Int32.ofInt_toInt], hS⟩)
  case sipush z => cases h; exact lv_sipush hx hb hd rfl (k ρ ls lc _ hrf hs hl hL ⟨by show Value.int _ = Value.int _; rw [Int32.ofInt_toInt], hS⟩)
  case lconst z => cases h; exact lv_lconst hx hb hd rfl (k ρ ls lc _ hrf hs hl hL ⟨by show Value.long _ = Value.long _; rw [Int64.ofInt_toInt], hS⟩)
  case aconst_null => cases h; exact lv_null hx hb hd (k ρ ls lc _ hrf hs hl hL ⟨Or.inl rfl, hS⟩)
  case iload_n j =>
    obtain ⟨rfl, x, v, hk, hr, hg, w⟩ := sLoad_ok hs hl hL hS h k
    obtain ⟨y, rfl⟩ := sRep_iv hr hk
    exact lv_iload_n hx hb hd rfl hg w
  case iload j =>
    obtain ⟨rfl, x, v, hk, hr, hg, w⟩ := sLoad_ok hs hl hL hS h k
    obtain ⟨y, rfl⟩ := sRep_iv hr hk
    exact lv_iload hx hb hd hg w
  case lload_n j =>
    obtain ⟨rfl, x, v, hk, hr, hg, w⟩ := sLoad_ok hs hl hL hS h k
    obtain ⟨y, rfl⟩ := sRep_lv hr hk
    exact lv_lload_n hx hb hd rfl hg w
  case lload j =>
    obtain ⟨rfl, x, v, hk, hr, hg, w⟩ := sLoad_ok hs hl hL hS h k
    obtain ⟨y, rfl⟩ := sRep_lv hr hk
    exact lv_lload hx hb hd hg w
  case aload_n j =>
    obtain ⟨rfl, x, v, hk, hr, hg, w⟩ := sLoad_ok hs hl hL hS h k
    obtain ⟨y, rfl⟩ := sRep_ref hr hk
    exact lv_aload_n hx hb hd rfl hg w
  case aload j =>
    obtain ⟨rfl, x, v, hk, hr, hg, w⟩ := sLoad_ok hs hl hL hS h k
    obtain ⟨y, rfl⟩ := sRep_ref hr hk
    exact lv_aload hx hb hd hg w
  case istore_n j =>
    obtain ⟨rfl, rfl, x, v, rest, hi, hk, hr, rfl, rfl, hS1⟩ := sStore_ok hS h
    obtain ⟨y, rfl⟩ := sRep_iv hr hk
    exact lv_istore_n hx hb hd rfl hl hi rfl (fun ls' hl' => k ρ ls' _ _ hrf hs hl' (sPut1_ok hL hr) hS1)
  case istore j =>
    obtain ⟨rfl, rfl, x, v, rest, hi, hk, hr, rfl, rfl, hS1⟩ := sStore_ok hS h
    obtain ⟨y, rfl⟩ := sRep_iv hr hk
    exact lv_istore hx hb hd hl hi rfl (fun ls' hl' => k ρ ls' _ _ hrf hs hl' (sPut1_ok hL hr) hS1)
  case lstore_n j =>
    obtain ⟨rfl, rfl, x, v, rest, hi, hk, hr, rfl, rfl, hS1⟩ := sStore2_ok hS h
    obtain ⟨y, rfl⟩ := sRep_lv hr hk
    exact lv_lstore_n hx hb hd rfl hl hi rfl (fun ls' hl' => k ρ ls' _ _ hrf hs hl' (sPut2_ok hL hr) hS1)
  case lstore j =>
    obtain ⟨rfl, rfl, x, v, rest, hi, hk, hr, rfl, rfl, hS1⟩ := sStore2_ok hS h
    obtain ⟨y, rfl⟩ := sRep_lv hr hk
    exact lv_lstore hx hb hd hl hi rfl (fun ls' hl' => k ρ ls' _ _ hrf hs hl' (sPut2_ok hL hr) hS1)
  case astore_n j =>
    obtain ⟨rfl, rfl, x, v, rest, hi, hk, hr, rfl, rfl, hS1⟩ := sStore_ok hS h
    obtain ⟨y, rfl⟩ := sRep_ref hr hk
    exact lv_astore_n hx hb hd rfl hl hi rfl (fun ls' hl' => k ρ ls' _ _ hrf hs hl' (sPut1_ok hL hr) hS1)
  case astore j =>
    obtain ⟨rfl, rfl, x, v, rest, hi, hk, hr, rfl, rfl, hS1⟩ := sStore_ok hS h
    obtain ⟨y, rfl⟩ := sRep_ref hr hk
    exact lv_astore hx hb hd hl hi rfl (fun ls' hl' => k ρ ls' _ _ hrf hs hl' (sPut1_ok hL hr) hS1)
  case iinc i z =>
    simp only [sPure, sInc] at h
    split at h
    · rename_i x hg
      split at h
      · rename_i hi
        split at h
        · rename_i κ1 y hy
          cases h
          obtain ⟨k0, v, h1, h2⟩ := sGet_ok _ _ hL hg
          obtain ⟨u, rfl, hu⟩ := sRep_int (sN_ok hs.1 h2) ((sN_k _ _).trans hi.2)
          obtain ⟨ρ', r1, r2, r3, w, r4, r5⟩ := sAdd_ok hs ((sN_k _ _).trans hi.2) rfl hu (show sEv ρ (0, z) = some z from rfl) hy
          exact lv_iinc hx hb hd hl h1 rfl hi.1 rfl (fun ls' hl' => k ρ' ls' _ _ r1 r2 hl' (sPut1_ok (sLvM r1 List.prefix_rfl hL) (by rw [← show Int32.ofInt w = Int32.ofInt u + Int32.ofInt z from r5]; exact sRep_of_int r3 r4)) (sStM r1 List.prefix_rfl hS))
        · cases h
      · cases h
    · cases h
  case iadd => exact sBin_ok sAdd_ok hs hl hL hS h (fun e a b x y rest _ _ _ w => by subst e; exact lv_iadd hx hb hd w) k
  case isub => exact sBin_ok sSub_ok hs hl hL hS h (fun e a b x y rest _ _ _ w => by subst e; exact lv_isub hx hb hd w) k
  case imul => exact sBin_ok sMul_ok hs hl hL hS h (fun e a b x y rest _ _ _ w => by subst e; exact lv_imul hx hb hd w) k
  case iand => exact sBin_ok sAnd_ok hs hl hL hS h (fun e a b x y rest _ _ _ w => by subst e; exact lv_iand hx hb hd w) k
  case ior => exact sBin_ok (sBor_ok (op := 8) (fun _ _ => rfl) sOr_n) hs hl hL hS h (fun e a b x y rest _ _ _ w => by subst e; exact lv_ior hx hb hd w) k
  case ixor => exact sBin_ok (sBor_ok (op := 9) (fun _ _ => rfl) sXor_n) hs hl hL hS h (fun e a b x y rest _ _ _ w => by subst e; exact lv_ixor hx hb hd w) k
  case ishl => exact sBin_ok (G := fun x y => x <<< (y &&& 31)) sShl_ok hs hl hL hS h (fun e a b x y rest _ _ _ w => by subst e; exact lv_ishl hx hb hd w) k
  case ishr => exact sBin_ok (G := fun x y => x >>> (y &&& 31)) sShr_ok hs hl hL hS h (fun e a b x y rest _ _ _ w => by subst e; exact lv_ishr hx hb hd w) k
  case iushr => exact sBin_ok (G := fun x y => (x.toUInt32 >>> (y.toUInt32 &&& Int32.toUInt32 31)).toInt32) (sKn_ok _) hs hl hL hS h (fun e a b x y rest _ _ _ w => by subst e; exact lv_iushr hx hb hd rfl w) k
  case idiv =>
    exact sBin_ok (G := fun x y => x / y) (sDiv_ok _) hs hl hL hS h (fun e a b x y rest _ hy hq w => by
      subst e
      refine lv_idiv hx hb hd ?_ w
      obtain ⟨q, hq⟩ := hq
      unfold sDiv at hq
      split at hq
      · rename_i hz
        exact sNz_n hs.1 hy hz
      · cases hq) k
  case irem =>
    exact sBin_ok (G := fun x y => x - x / y * y) sRem_ok hs hl hL hS h (fun e a b x y rest _ hy hq w => by
      subst e
      refine lv_irem hx hb hd ?_ w
      obtain ⟨q, hq⟩ := hq
      unfold sRem at hq
      split at hq
      · rename_i hz
        exact sNz_n hs.1 hy hz
      · cases hq) k
  case ineg => exact sUn_ok (sU1_ok (fun x => sFul _)) hs hl hL hS h (fun e x rest w => by subst e; exact lv_ineg hx hb hd w) k
  case i2b => exact sUn_ok (G := fun x => x.toInt8.toInt32) sI2b_ok hs hl hL hS h (fun e x rest w => by subst e; exact lv_i2b hx hb hd rfl w) k
  case i2c => exact sUn_ok (G := fun x => (x.toUInt32 % 65536).toInt32) sI2c_ok hs hl hL hS h (fun e x rest w => by subst e; exact lv_i2c hx hb hd rfl w) k
  case i2l =>
    obtain ⟨a, r, hst, hz⟩ := s1_some h
    subst hst
    obtain ⟨va, rest, rfl, ha, hS1⟩ := sA2_cons hS
    split at hz
    · rename_i q hq
      split at hz
      · rename_i hk
        cases hz
        have ha' := sN_ok hs.1 ha
        have hk' : sK (sN κ.2.1 a) = 0 := (sN_k _ _).trans hk
        generalize sN κ.2.1 a = b at *
        obtain ⟨u, rfl, hu⟩ := sRep_int ha' hk'
        obtain ⟨-, -, h3⟩ := sRg_ev (lo := q.1) (hi := q.2) hs.1 hu hq
        refine lv_i2l hx hb hd rfl (k ρ ls lc _ hrf hs hl hL ⟨?_, hS1⟩)
        have e1 : (Int32.ofInt u).toInt64 = Int64.ofInt u := by rw [← Int64.ofInt_int32ToInt, sI_toInt h3]
        rw [e1]
        obtain ⟨t, z⟩ := b
        simp only
        by_cases h0 : t = 0
        · subst h0
          simp only [sEv, Option.some.injEq] at hu
          subst hu
          rfl
        · have h16 : 16 ≤ t := by
            rw [sRg_eq] at hq
            split at hq
            · rename_i e0; cases e0; exact absurd rfl h0
            · rename_i e0
              cases e0
              split at hq
              · assumption
              · cases hq
          have ht : t % 2 = 0 := by
            rw [sK_gen ⟨by omega, by omega, by omega, by omega, by omega⟩, if_pos h16] at hk'
            exact hk'
          refine sRep_of_long ?_ ?_
          · rw [sK_gen ⟨by omega, by omega, by omega, by omega, by omega⟩, if_pos (by omega)]
            omega
          · rw [sEv_gen ⟨by omega, by omega⟩, if_pos h16] at hu
            rw [sEv_gen ⟨by omega, by omega⟩, if_pos (by omega), show (t + 1 - 16) / 2 = (t - 16) / 2 by omega]
            exact hu
      · cases hz
    · cases hz
  case dup =>
    obtain ⟨a, r, hst, hz⟩ := s1_some h
    subst hst
    obtain ⟨va, rest, rfl, ha, hS1⟩ := sA2_cons hS
    split at hz
    · cases hz
    · rename_i hk
      cases hz
      exact lv_dup hx hb hd (sCat1 ha hk) (k ρ ls lc _ hrf hs hl hL ⟨ha, ha, hS1⟩)
  case pop =>
    obtain ⟨a, r, hst, hz⟩ := s1_some h
    subst hst
    obtain ⟨va, rest, rfl, ha, hS1⟩ := sA2_cons hS
    split at hz
    · cases hz
    · rename_i hk
      cases hz
      exact lv_pop hx hb hd (sCat1 ha hk) (k ρ ls lc _ hrf hs hl hL hS1)
  case dup_x1 =>
    obtain ⟨a, b, r, hst, hz⟩ := s2_some h
    subst hst
    obtain ⟨vb, vs1, rfl, h1, hS1⟩ := sA2_cons hS
    obtain ⟨va, rest, rfl, h2, hS2⟩ := sA2_cons hS1
    split at hz
    · cases hz
    · rename_i hk
      cases hz
      exact lv_dup_x1 hx hb hd (sCat1 h1 (fun q => hk (Or.inl q))) (sCat1 h2 (fun q => hk (Or.inr q))) (k ρ ls lc _ hrf hs hl hL ⟨h1, h2, h1, hS2⟩)
  case dup2 =>
    obtain ⟨a, b, r, hst, hz⟩ := s2_some h
    subst hst
    obtain ⟨vb, vs1, rfl, h1, hS1⟩ := sA2_cons hS
    obtain ⟨va, rest, rfl, h2, hS2⟩ := sA2_cons hS1
    split at hz
    · cases hz
    · rename_i hk
      split at hz
      · cases hz
      · rename_i hk2
        cases hz
        exact lv_dup2_11 hx hb hd (sCat1 h1 hk) (sCat1 h2 hk2) (k ρ ls lc _ hrf hs hl hL ⟨h1, h2, h1, h2, hS2⟩)
  all_goals exact absurd h (by simp [sPure])
end SPW
end
