/-! ===== branches: which bounds hold on which side ===== -/
abbrev sCn : Type := Jvm.ClassFile.Cond
def sCnd (c : sCn) (x y : Int) : Prop := match c with
  | .eq => x = y
  | .ne => x ≠ y
  | .lt => x < y
  | .ge => y ≤ x
  | .gt => y < x
  | .le => x ≤ y
def sCb (c : sCn) (x y : Int) : Bool := match c with
  | .eq => decide (x = y)
  | .ne => decide (x ≠ y)
  | .lt => decide (x < y)
  | .ge => decide (y ≤ x)
  | .gt => decide (y < x)
  | .le => decide (x ≤ y)
theorem sCb_iff (c : sCn) (x y : Int) : sCb c x y = true ↔ sCnd c x y := by cases c <;> simp [sCb, sCnd]
def sNeg (c : sCn) : sCn := match c with
  | .eq => .ne
  | .ne => .eq
  | .lt => .ge
  | .ge => .lt
  | .gt => .le
  | .le => .gt
def sFlip (c : sCn) : sCn := match c with
  | .eq => .eq
  | .ne => .ne
  | .lt => .gt
  | .ge => .le
  | .gt => .lt
  | .le => .ge
theorem sNeg_iff (c : sCn) (x y : Int) : sCnd (sNeg c) x y ↔ ¬ sCnd c x y := by cases c <;> simp only [sNeg, sCnd] <;> omega
theorem sFlip_iff (c : sCn) (x y : Int) : sCnd (sFlip c) x y ↔ sCnd c y x := by cases c <;> simp only [sFlip, sCnd] <;> omega
def sTr (c : sCn) (z lo hi : Int) : List (Int × Int) := (match c with
  | .eq => [(max lo z, min hi z)]
  | .ne => [(lo, min hi (z - 1)), (max lo (z + 1), hi)]
  | .lt => [(lo, min hi (z - 1))]
  | .ge => [(max lo z, hi)]
  | .gt => [(max lo (z + 1), hi)]
  | .le => [(lo, min hi z)]).filter (fun q => decide (q.1 ≤ q.2))
theorem sTr_ok {c : sCn} {z lo hi v : Int} (h1 : lo ≤ v) (h2 : v ≤ hi) (h : sCnd c v z) : ∃ q ∈ sTr c z lo hi, q.1 ≤ v ∧ v ≤ q.2 := by
  cases c
  case eq => simp only [sCnd] at h; exact ⟨(max lo z, min hi z), by simp [sTr, List.mem_filter]; omega, by simp only; omega, by simp only; omega⟩
  case ne =>
    simp only [sCnd] at h
    rcases (by omega : v < z ∨ z < v) with q | q
    · exact ⟨(lo, min hi (z - 1)), by simp [sTr, List.mem_filter]; omega, by simp only; omega, by simp only; omega⟩
    · exact ⟨(max lo (z + 1), hi), by simp [sTr, List.mem_filter]; omega, by simp only; omega, by simp only; omega⟩
  case lt => simp only [sCnd] at h; exact ⟨(lo, min hi (z - 1)), by simp [sTr, List.mem_filter]; omega, by simp only; omega, by simp only; omega⟩
  case ge => simp only [sCnd] at h; exact ⟨(max lo z, hi), by simp [sTr, List.mem_filter]; omega, by simp only; omega, by simp only; omega⟩
  case gt => simp only [sCnd] at h; exact ⟨(max lo (z + 1), hi), by simp [sTr, List.mem_filter]; omega, by simp only; omega, by simp only; omega⟩
  case le => simp only [sCnd] at h; exact ⟨(lo, min hi z), by simp [sTr, List.mem_filter]; omega, by simp only; omega, by simp only; omega⟩
theorem sSat_set {ρ : Nat → Int32} {env : sE} (h : sSat ρ env) {i : Nat} {q : Int × Int} (h1 : q.1 ≤ (ρ i).toInt) (h2 : (ρ i).toInt ≤ q.2) : sSat ρ (env.set i q) := by
  intro j lo hi hj
  by_cases e : i = j
  · subst e
    rw [List.getElem?_set] at hj
    simp only [if_true] at hj
    split at hj
    · cases hj
      exact ⟨h1, h2⟩
    · cases hj
  · rw [List.getElem?_set_ne e] at hj
    exact h j lo hi hj
/-- the bounds under which 'a c b' holds -/
def sDc (c : sCn) (env : sE) (a b : sV) : Option (List sE) := match sN env a, sN env b with
  | (0, x), (0, y) => if sI x = true ∧ sI y = true then some (if sCb c x y = true then [env] else []) else none
  | (4, i), (0, z) => if sI z = true then (match env[i.toNat]? with
      | some (lo, hi) => some ((sTr c z lo hi).map fun q => env.set i.toNat q)
      | none => none) else none
  | (0, z), (4, i) => if sI z = true then (match env[i.toNat]? with
      | some (lo, hi) => some ((sTr (sFlip c) z lo hi).map fun q => env.set i.toNat q)
      | none => none) else none
  | a', b' => if sK a' = 0 ∧ sK b' = 0 then some [env] else none
theorem sDc_ok {ρ : Nat → Int32} {ads : List Nat} {ex : Nat → Nat} {c : sCn} {env : sE} (hs : sSat ρ env) {a b : sV} {x y : Int32} (ha : sRep ρ ads ex a (.int x)) (hb : sRep ρ ads ex b (.int y)) {es : List sE} (h : sDc c env a b = some es) (hc : sCnd c x.toInt y.toInt) : ∃ e' ∈ es, sSat ρ e' := by
  have ha' := sN_ok hs ha
  have hb' := sN_ok hs hb
  unfold sDc at h
  generalize sN env a = a' at h ha'
  generalize sN env b = b' at h hb'
  split at h
  · rename_i x0 y0
    split at h
    · rename_i hI
      simp only [sRep] at ha' hb'
      cases ha'
      cases hb'
      rw [sI_toInt hI.1, sI_toInt hI.2] at hc
      rw [if_pos ((sCb_iff c _ _).mpr hc)] at h
      cases h
      exact ⟨env, by simp, hs⟩
    · cases h
  · rename_i i z
    split at h
    · rename_i hI
      split at h
      · rename_i lo hi he
        cases h
        simp only [sRep] at ha' hb'
        cases ha'
        cases hb'
        rw [sI_toInt hI] at hc
        obtain ⟨h1, h2⟩ := hs _ _ _ he
        obtain ⟨q, hq, q1, q2⟩ := sTr_ok h1 h2 hc
        exact ⟨_, List.mem_map.mpr ⟨q, hq, rfl⟩, sSat_set hs q1 q2⟩
      · cases h
    · cases h
  · rename_i z i
    split at h
    · rename_i hI
      split at h
      · rename_i lo hi he
        cases h
        simp only [sRep] at ha' hb'
        cases ha'
        cases hb'
        rw [sI_toInt hI] at hc
        obtain ⟨h1, h2⟩ := hs _ _ _ he
        obtain ⟨q, hq, q1, q2⟩ := sTr_ok h1 h2 ((sFlip_iff c _ _).mpr hc)
        exact ⟨_, List.mem_map.mpr ⟨q, hq, rfl⟩, sSat_set hs q1 q2⟩
      · cases h
    · cases h
  · split at h
    · cases h
      exact ⟨env, by simp, hs⟩
    · cases h
/-- two longs compared: the bounds, and the answer under them -/
def sL3 (env : sE) (a b : sV) : Option (List (sE × Int)) := match sN env a, sN env b with
  | (1, x), (1, y) => if sI x = true ∧ sI y = true then some [(env, if y < x then 1 else if x = y then 0 else -1)] else none
  | (5, i), (1, z) => if sI z = true then (match env[i.toNat]? with
      | some (lo, hi) => some (((sTr .gt z lo hi).map fun q => (env.set i.toNat q, (1 : Int))) ++ (((sTr .eq z lo hi).map fun q => (env.set i.toNat q, (0 : Int))) ++ ((sTr .lt z lo hi).map fun q => (env.set i.toNat q, (-1 : Int)))))
      | none => none) else none
  | (1, z), (5, i) => if sI z = true then (match env[i.toNat]? with
      | some (lo, hi) => some (((sTr .lt z lo hi).map fun q => (env.set i.toNat q, (1 : Int))) ++ (((sTr .eq z lo hi).map fun q => (env.set i.toNat q, (0 : Int))) ++ ((sTr .gt z lo hi).map fun q => (env.set i.toNat q, (-1 : Int)))))
      | none => none) else none
  | _, _ => none
theorem sI64 {z : Int} (h : sI z = true) : (Int64.ofInt z).toInt = z := by
  simp only [sI, Bool.and_eq_true, decide_eq_true_eq] at h
  exact Int64.toInt_ofInt_of_le (by omega) (by omega)
theorem sCmp (x y : Int64) (u v : Int) (hx : x.toInt = u) (hy : y.toInt = v) : lg_cmp x y = Int32.ofInt (if v < u then 1 else if u = v then 0 else -1) := by
  subst hx; subst hy
  unfold lg_cmp
  simp only [gt_iff_lt, Int64.lt_iff_toInt_lt, ← Int64.toInt_inj]
  split
  · rfl
  · split <;> rfl
theorem sL3_ok {ρ : Nat → Int32} {ads : List Nat} {ex : Nat → Nat} {env : sE} (hs : sSat ρ env) {a b : sV} {va vb : Value} (ha : sRep ρ ads ex a va) (hb : sRep ρ ads ex b vb) {es : List (sE × Int)} (h : sL3 env a b = some es) :
    ∃ x y : Int64, va = .long x ∧ vb = .long y ∧ ∃ q ∈ es, sSat ρ q.1 ∧ lg_cmp x y = Int32.ofInt q.2 := by
  have ha' := sN_ok hs ha
  have hb' := sN_ok hs hb
  unfold sL3 at h
  generalize sN env a = a' at h ha'
  generalize sN env b = b' at h hb'
  split at h
  · rename_i x0 y0
    split at h
    · rename_i hI
      cases h
      exact ⟨_, _, ha', hb', _, List.mem_cons_self, hs, sCmp _ _ _ _ (sI64 hI.1) (sI64 hI.2)⟩
    · cases h
  · rename_i i z
    split at h
    · rename_i hI
      split at h
      · rename_i lo hi he
        cases h
        refine ⟨_, _, ha', hb', ?_⟩
        obtain ⟨h1, h2⟩ := hs _ _ _ he
        rw [sCmp _ _ _ _ (Int32.toInt_toInt64 _) (sI64 hI)]
        rcases (by omega : z < (ρ i.toNat).toInt ∨ (ρ i.toNat).toInt = z ∨ (ρ i.toNat).toInt < z) with q | q | q
        · obtain ⟨r, hr, r1, r2⟩ := sTr_ok (c := .gt) (z := z) h1 h2 q
          exact ⟨_, List.mem_append_left _ (List.mem_map.mpr ⟨r, hr, rfl⟩), sSat_set hs r1 r2, by rw [if_pos q]⟩
        · obtain ⟨r, hr, r1, r2⟩ := sTr_ok (c := .eq) (z := z) h1 h2 q
          exact ⟨_, List.mem_append_right _ (List.mem_append_left _ (List.mem_map.mpr ⟨r, hr, rfl⟩)), sSat_set hs r1 r2, by rw [if_neg (by omega), if_pos q]⟩
        · obtain ⟨r, hr, r1, r2⟩ := sTr_ok (c := .lt) (z := z) h1 h2 q
          exact ⟨_, List.mem_append_right _ (List.mem_append_right _ (List.mem_map.mpr ⟨r, hr, rfl⟩)), sSat_set hs r1 r2, by rw [if_neg (by omega), if_neg (by omega)]⟩
      · cases h
    · cases h
  · rename_i z i
    split at h
    · rename_i hI
      split at h
      · rename_i lo hi he
        cases h
        refine ⟨_, _, ha', hb', ?_⟩
        obtain ⟨h1, h2⟩ := hs _ _ _ he
        rw [sCmp _ _ _ _ (sI64 hI) (Int32.toInt_toInt64 _)]
        rcases (by omega : (ρ i.toNat).toInt < z ∨ (ρ i.toNat).toInt = z ∨ z < (ρ i.toNat).toInt) with q | q | q
        · obtain ⟨r, hr, r1, r2⟩ := sTr_ok (c := .lt) (z := z) h1 h2 q
          exact ⟨_, List.mem_append_left _ (List.mem_map.mpr ⟨r, hr, rfl⟩), sSat_set hs r1 r2, by rw [if_pos q]⟩
        · obtain ⟨r, hr, r1, r2⟩ := sTr_ok (c := .eq) (z := z) h1 h2 q
          exact ⟨_, List.mem_append_right _ (List.mem_append_left _ (List.mem_map.mpr ⟨r, hr, rfl⟩)), sSat_set hs r1 r2, by rw [if_neg (by omega), if_pos q.symm]⟩
        · obtain ⟨r, hr, r1, r2⟩ := sTr_ok (c := .gt) (z := z) h1 h2 q
          exact ⟨_, List.mem_append_right _ (List.mem_append_right _ (List.mem_map.mpr ⟨r, hr, rfl⟩)), sSat_set hs r1 r2, by rw [if_neg (by omega), if_neg (by omega)]⟩
      · cases h
    · cases h
  · cases h
abbrev sNx : Type := sE × Nat × List sV
def sTg (pc : Nat) (off : Int) : Option Nat := if 0 ≤ (pc : Int) + off then some ((pc : Int) + off).toNat else none
theorem sTg_ok {pc t : Nat} {off : Int} (h : sTg pc off = some t) : (pc : Int) + off = (t : Int) := by
  unfold sTg at h
  split at h
  · cases h
    omega
  · cases h
def sIf (c : sCn) (off : Int) (env : sE) (pc len : Nat) (a b : sV) (r : List sV) : Option (List sNx) := match sTg pc off, sDc c env a b, sDc (sNeg c) env a b with
  | some t, some es, some fs => if len = 3 then some ((es.map fun e => (e, t, r)) ++ (fs.map fun e => (e, pc + 3, r))) else none
  | _, _, _ => none
def sTabM (env : sE) (pc i : Nat) (lo0 hi0 : Int) (r : List sV) : Int → List Int → Option (List sNx)
  | _, [] => some []
  | v, off :: t => match sTabM env pc i lo0 hi0 r (v + 1) t with
    | none => none
    | some rest => if lo0 ≤ v ∧ v ≤ hi0 then (sTg pc off).map fun tg => (env.set i (v, v), tg, r) :: rest else some rest
def sTab (env : sE) (pc : Nat) (d lo hi : Int) (offs : List Int) (a : sV) (r : List sV) : Option (List sNx) := match sN env a, sTg pc d with
  | (0, x), some td => if sI x = true then (if x < lo ∨ hi < x then some [(env, td, r)] else match offs[(x - lo).toNat]? with
      | some off => (sTg pc off).map fun t => [(env, t, r)]
      | none => none) else none
  | (4, i), some td => match env[i.toNat]? with
      | some (lo0, hi0) => if hi = lo + (offs.length : Int) - 1 then (sTabM env pc i.toNat lo0 hi0 r lo offs).map fun q => ((sTr .lt lo lo0 hi0 ++ sTr .gt hi lo0 hi0).map fun q => (env.set i.toNat q, td, r)) ++ q else none
      | none => none
  | _, _ => none
theorem sTabM_ok {env : sE} {pc i : Nat} {lo0 hi0 : Int} {r : List sV} : ∀ (v : Int) (offs : List Int) (q : List sNx), sTabM env pc i lo0 hi0 r v offs = some q → ∀ x : Int, lo0 ≤ x → x ≤ hi0 → v ≤ x → x < v + (offs.length : Int) →
    ∃ (off : Int) (t : Nat), offs[(x - v).toNat]? = some off ∧ sTg pc off = some t ∧ (env.set i (x, x), t, r) ∈ q
  | v, [], q, h, x, h1, h2, h3, h4 => by simp at h4; omega
  | v, off :: t, q, h, x, h1, h2, h3, h4 => by
    simp only [sTabM] at h
    split at h
    · cases h
    · rename_i rest hr
      by_cases e : x = v
      · subst e
        rw [if_pos ⟨h1, h2⟩] at h
        obtain ⟨tg, ht, he⟩ := Option.map_eq_some_iff.mp h
        subst he
        exact ⟨off, tg, by simp, ht, by simp⟩
      · obtain ⟨o, tg, g1, g2, g3⟩ := sTabM_ok (v + 1) t rest hr x h1 h2 (by omega) (by simp at h4; omega)
        refine ⟨o, tg, ?_, g2, ?_⟩
        · rw [show (x - v).toNat = (x - (v + 1)).toNat + 1 by omega]
          simpa using g1
        · split at h
          · obtain ⟨tg2, ht, he⟩ := Option.map_eq_some_iff.mp h
            subst he
            exact List.mem_cons_of_mem _ g3
          · cases h
            exact g3
def sBr (env : sE) (pc len : Nat) (ins : Instr) (st : List sV) : Option (List sNx) := match ins with
  | .goto off => if len = 3 then (sTg pc off).map fun t => [(env, t, st)] else none
  | .ifCond c off => s1 st fun a r => sIf c off env pc len a (0, 0) r
  | .if_icmp c off => s2 st fun a b r => sIf c off env pc len a b r
  | .lcmp => s2 st fun a b r => if len = 1 then (sL3 env a b).map fun es => es.map fun q => (q.1, pc + 1, (0, q.2) :: r) else none
  | .tableswitch d lo hi offs => s1 st fun a r => sTab env pc d lo hi offs.toList a r
  | _ => none
section SBW
variable {p : Program} {l : Launch} {e : Env} {R : Room} {s : State} {m : MethodId} {args : Array Value} {below : List Frame} {meth : Method} {c : Code} {H : Heap} {locs : List Loc} {cells slots : Nat} {Q : State → Prop}
variable {cc : ByteArray} {pc : Nat} {ls : Array Slot} {rest : List Value} {ρ : Nat → Int32} {ads : List Nat} {ex : Nat → Nat} {env : sE} {st : List sV} {vs : List Value} {n : Nat}
theorem sIcmp (hx : p.tables.exec = Jvm.exec) (hb : c.code = cc) {k : sCn} {x y : Int32} {off : Int} {tgt : Nat} (hd : decode cc pc = .ok (.if_icmp k off, 3)) (ht : (pc : Int) + off = (tgt : Int))
    (kt : sCnd k x.toInt y.toInt → W p l e R s m args below meth c H locs cells slots Q (F0 m tgt ls rest)) (kf : ¬ sCnd k x.toInt y.toInt → W p l e R s m args below meth c H locs cells slots Q (F0 m (pc + 3) ls rest)) : W p l e R s m args below meth c H locs cells slots Q (F0 m pc ls (.int y :: .int x :: rest)) := by
  cases k
  case eq => exact lv_icmp_eq hx hb hd ht (fun h => kt (by rw [h]; rfl)) (fun h => kf (fun q => h (Int32.toInt_inj.mp q)))
  case ne => exact lv_icmp_ne hx hb hd ht (fun h => kt (fun q => h (Int32.toInt_inj.mp q))) (fun h => kf (fun q => q (by rw [h])))
  case lt => exact lv_icmp_lt hx hb hd ht (fun h => kt (Int32.lt_iff_toInt_lt.mp h)) (fun h => kf (fun q => h (Int32.lt_iff_toInt_lt.mpr q)))
  case ge => exact lv_icmp_ge hx hb hd ht (fun h => kt (Int32.le_iff_toInt_le.mp h)) (fun h => kf (fun q => h (Int32.le_iff_toInt_le.mpr q)))
  case gt => exact lv_icmp_gt hx hb hd ht (fun h => kt (Int32.lt_iff_toInt_lt.mp h)) (fun h => kf (fun q => h (Int32.lt_iff_toInt_lt.mpr q)))
  case le => exact lv_icmp_le hx hb hd ht (fun h => kt (Int32.le_iff_toInt_le.mp h)) (fun h => kf (fun q => h (Int32.le_iff_toInt_le.mpr q)))
theorem sIfc (hx : p.tables.exec = Jvm.exec) (hb : c.code = cc) {k : sCn} {x : Int32} {off : Int} {tgt : Nat} (hd : decode cc pc = .ok (.ifCond k off, 3)) (ht : (pc : Int) + off = (tgt : Int))
    (kt : sCnd k x.toInt (0 : Int32).toInt → W p l e R s m args below meth c H locs cells slots Q (F0 m tgt ls rest)) (kf : ¬ sCnd k x.toInt (0 : Int32).toInt → W p l e R s m args below meth c H locs cells slots Q (F0 m (pc + 3) ls rest)) : W p l e R s m args below meth c H locs cells slots Q (F0 m pc ls (.int x :: rest)) := by
  cases k
  case eq => exact lv_if_eq hx hb hd ht (fun h => kt (by rw [h]; rfl)) (fun h => kf (fun q => h (Int32.toInt_inj.mp q)))
  case ne => exact lv_if_ne hx hb hd ht (fun h => kt (fun q => h (Int32.toInt_inj.mp q))) (fun h => kf (fun q => q (by rw [h])))
  case lt => exact lv_if_lt hx hb hd ht (fun h => kt (Int32.lt_iff_toInt_lt.mp h)) (fun h => kf (fun q => h (Int32.lt_iff_toInt_lt.mpr q)))
  case ge => exact lv_if_ge hx hb hd ht (fun h => kt (Int32.le_iff_toInt_le.mp h)) (fun h => kf (fun q => h (Int32.le_iff_toInt_le.mpr q)))
  case gt => exact lv_if_gt hx hb hd ht (fun h => kt (Int32.lt_iff_toInt_lt.mp h)) (fun h => kf (fun q => h (Int32.lt_iff_toInt_lt.mpr q)))
  case le => exact lv_if_le hx hb hd ht (fun h => kt (Int32.le_iff_toInt_le.mp h)) (fun h => kf (fun q => h (Int32.le_iff_toInt_le.mpr q)))
theorem sDc_k {k : sCn} {env : sE} {a b : sV} {es : List sE} (h : sDc k env a b = some es) : sK a = 0 ∧ sK b = 0 := by
  rw [← sN_k env a, ← sN_k env b]
  unfold sDc at h
  generalize sN env a = a' at h
  generalize sN env b = b' at h
  split at h
  · exact ⟨rfl, rfl⟩
  · exact ⟨rfl, rfl⟩
  · exact ⟨rfl, rfl⟩
  · split at h
    · assumption
    · cases h
theorem sIf_ok (hs : sSat ρ env) {k : sCn} {off : Int} {a b : sV} {r : List sV} {va vb : Value} (ha : sRep ρ ads ex a va) (hb2 : sRep ρ ads ex b vb) (hS : sA2 (sRep ρ ads ex) r rest) {nx : List sNx} (h : sIf k off env pc n a b r = some nx)
    (kk : ∀ q ∈ nx, ∀ vs' : List Value, sSat ρ q.1 → sA2 (sRep ρ ads ex) q.2.2 vs' → W p l e R s m args below meth c H locs cells slots Q (F0 m q.2.1 ls vs')) :
    n = 3 ∧ ∃ (x y : Int32) (t : Nat), va = .int x ∧ vb = .int y ∧ (pc : Int) + off = (t : Int) ∧ (sCnd k x.toInt y.toInt → W p l e R s m args below meth c H locs cells slots Q (F0 m t ls rest)) ∧ (¬ sCnd k x.toInt y.toInt → W p l e R s m args below meth c H locs cells slots Q (F0 m (pc + 3) ls rest)) := by
  unfold sIf at h
  split at h
  · rename_i t es fs ht he hf
    split at h
    · rename_i hn
      cases h
      obtain ⟨k1, k2⟩ := sDc_k he
      obtain ⟨x, rfl⟩ := sRep_int ha k1
      obtain ⟨y, rfl⟩ := sRep_int hb2 k2
      refine ⟨hn, x, y, t, rfl, rfl, sTg_ok ht, fun hc => ?_, fun hc => ?_⟩
      · obtain ⟨e', he', hs'⟩ := sDc_ok hs ha hb2 he hc
        exact kk _ (List.mem_append_left _ (List.mem_map.mpr ⟨e', he', rfl⟩)) _ hs' hS
      · obtain ⟨e', he', hs'⟩ := sDc_ok hs ha hb2 hf ((sNeg_iff k _ _).mpr hc)
        exact kk _ (List.mem_append_right _ (List.mem_map.mpr ⟨e', he', rfl⟩)) _ hs' hS
    · cases h
  · cases h
set_option maxHeartbeats 4000000 in
theorem sBr_ok (hx : p.tables.exec = Jvm.exec) (hb : c.code = cc) (hs : sSat ρ env) (hS : sA2 (sRep ρ ads ex) st vs) {ins : Instr} (hd : decode cc pc = .ok (ins, n)) {nx : List sNx} (h : sBr env pc n ins st = some nx)
    (k : ∀ q ∈ nx, ∀ vs' : List Value, sSat ρ q.1 → sA2 (sRep ρ ads ex) q.2.2 vs' → W p l e R s m args below meth c H locs cells slots Q (F0 m q.2.1 ls vs')) : W p l e R s m args below meth c H locs cells slots Q (F0 m pc ls vs) := by
  cases ins
  case goto off =>
    simp only [sBr] at h
    split at h
    · rename_i hn
      subst hn
      obtain ⟨t, ht, he⟩ := Option.map_eq_some_iff.mp h
      subst he
      exact lv_goto hx hb hd (sTg_ok ht) (k _ List.mem_cons_self _ hs hS)
    · cases h
  case ifCond cn off =>
    obtain ⟨a, r, hst, hz⟩ := s1_some h
    subst hst
    obtain ⟨va, rest, rfl, ha, hS1⟩ := sA2_cons hS
    obtain ⟨rfl, x, y, t, rfl, e2, ht, kt, kf⟩ := sIf_ok hs ha (show sRep ρ ads ex (0, 0) (.int 0) from rfl) hS1 hz k
    cases e2
    exact sIfc hx hb hd ht kt kf
  case if_icmp cn off =>
    obtain ⟨a, b, r, hst, hz⟩ := s2_some h
    subst hst
    obtain ⟨vb, vs1, rfl, h1, hS1⟩ := sA2_cons hS
    obtain ⟨va, rest, rfl, h2, hS2⟩ := sA2_cons hS1
    obtain ⟨rfl, x, y, t, rfl, rfl, ht, kt, kf⟩ := sIf_ok hs h2 h1 hS2 hz k
    exact sIcmp hx hb hd ht kt kf
  case lcmp =>
    obtain ⟨a, b, r, hst, hz⟩ := s2_some h
    subst hst
    obtain ⟨vb, vs1, rfl, h1, hS1⟩ := sA2_cons hS
    obtain ⟨va, rest, rfl, h2, hS2⟩ := sA2_cons hS1
    split at hz
    · rename_i hn
      subst hn
      obtain ⟨es, he, e2⟩ := Option.map_eq_some_iff.mp hz
      subst e2
      obtain ⟨x, y, rfl, rfl, q, hq, hs', hv⟩ := sL3_ok hs h2 h1 he
      exact W.lcmp hx hb hd (by rw [hv]; exact k _ (List.mem_map.mpr ⟨q, hq, rfl⟩) _ hs' ⟨rfl, hS2⟩)
    · cases hz
  case tableswitch d lo hi offs =>
    obtain ⟨a, r, hst, hz⟩ := s1_some h
    subst hst
    obtain ⟨va, rest, rfl, ha, hS1⟩ := sA2_cons hS
    have ha' := sN_ok hs ha
    unfold sTab at hz
    generalize sN env a = a' at hz ha'
    split at hz
    · rename_i x td htd
      split at hz
      · rename_i hI
        simp only [sRep] at ha'
        subst ha'
        split at hz
        · rename_i ho
          cases hz
          exact lv_tableOut hx hb hd (by rw [sI_toInt hI]; exact ho) (sTg_ok htd) (k _ List.mem_cons_self _ hs hS1)
        · rename_i ho
          split at hz
          · rename_i off hof
            obtain ⟨t, ht, he⟩ := Option.map_eq_some_iff.mp hz
            subst he
            exact lv_tableIn hx hb hd (by rw [sI_toInt hI]; omega) (by rw [sI_toInt hI]; omega) (by rw [sI_toInt hI, ← Array.getElem?_toList]; exact hof) (sTg_ok ht) (k _ List.mem_cons_self _ hs hS1)
          · cases hz
      · cases hz
    · rename_i i td htd
      split at hz
      · rename_i lo0 hi0 he
        split at hz
        · rename_i hlen
          obtain ⟨q, hq, e2⟩ := Option.map_eq_some_iff.mp hz
          subst e2
          simp only [sRep] at ha'
          subst ha'
          obtain ⟨h1, h2⟩ := hs _ _ _ he
          by_cases hlo : (ρ i.toNat).toInt < lo
          · obtain ⟨r0, hr, r1, r2⟩ := sTr_ok (c := .lt) (z := lo) h1 h2 hlo
            exact lv_tableOut hx hb hd (Or.inl hlo) (sTg_ok htd) (k _ (List.mem_append_left _ (List.mem_map.mpr ⟨r0, List.mem_append_left _ hr, rfl⟩)) _ (sSat_set hs r1 r2) hS1)
          · by_cases hhi : hi < (ρ i.toNat).toInt
            · obtain ⟨r0, hr, r1, r2⟩ := sTr_ok (c := .gt) (z := hi) h1 h2 hhi
              exact lv_tableOut hx hb hd (Or.inr hhi) (sTg_ok htd) (k _ (List.mem_append_left _ (List.mem_map.mpr ⟨r0, List.mem_append_right _ hr, rfl⟩)) _ (sSat_set hs r1 r2) hS1)
            · obtain ⟨off, t, g1, g2, g3⟩ := sTabM_ok lo offs.toList q hq (ρ i.toNat).toInt h1 h2 (by omega) (by omega)
              exact lv_tableIn hx hb hd hlo hhi (by rw [← Array.getElem?_toList]; exact g1) (sTg_ok g2) (k _ (List.mem_append_right _ g3) _ (sSat_set hs (Int.le_refl _) (Int.le_refl _)) hS1)
        · cases hz
      · cases hz
    · cases hz
  all_goals exact absurd h (by simp [sBr])
end SBW
