noncomputable section
/-! ===== bounds, facts between numbers, and what follows from them ===== -/
/-! ### whole numbers, cheap for the kernel -/
/-- two whole numbers -/
def sIe (x y : Int) : Bool := Int.rec (motive := fun _ => Bool) (fun m => Int.rec (motive := fun _ => Bool) (fun n => Nat.beq m n) (fun _ => false) y) (fun m => Int.rec (motive := fun _ => Bool) (fun _ => false) (fun n => Nat.beq m n) y) x
theorem sIe_eq {x y : Int} (h : sIe x y = true) : x = y := by
  cases x with
  | ofNat m =>
    cases y with
    | ofNat n => rw [Nat.eq_of_beq_eq_true (show Nat.beq m n = true from h)]
    | negSucc n => cases h
  | negSucc m =>
    cases y with
    | ofNat n => cases h
    | negSucc n => rw [Nat.eq_of_beq_eq_true (show Nat.beq m n = true from h)]
def sZ0 (z : Int) : Bool := Int.rec (motive := fun _ => Bool) (fun n => Nat.beq n 0) (fun _ => false) z
theorem sZ0_eq {z : Int} (h : sZ0 z = true) : z = 0 := by
  cases z with
  | ofNat n => rw [Nat.eq_of_beq_eq_true (show Nat.beq n 0 = true from h)]; rfl
  | negSucc n => cases h
def gLe (x y : Int) : Bool := Int.rec (motive := fun _ => Bool) (fun m => Int.rec (motive := fun _ => Bool) (fun n => Nat.ble m n) (fun _ => false) y) (fun m => Int.rec (motive := fun _ => Bool) (fun _ => true) (fun n => Nat.ble n m) y) x
theorem gBle (a b : Nat) : Nat.ble a b = decide (a ≤ b) := by
  by_cases h : a ≤ b
  · rw [Nat.ble_eq_true_of_le h, decide_eq_true h]
  · rw [decide_eq_false h]
    cases q : Nat.ble a b with
    | false => rfl
    | true => exact absurd (Nat.le_of_ble_eq_true q) h
theorem gLe_iff {x y : Int} : gLe x y = true ↔ x ≤ y := by
  cases x with
  | ofNat m =>
    cases y with
    | ofNat n =>
      show Nat.ble m n = true ↔ _
      rw [gBle, decide_eq_true_eq]
      simp only [Int.ofNat_eq_natCast]
      omega
    | negSucc n =>
      show false = true ↔ _
      simp only [Int.ofNat_eq_natCast, Bool.false_eq_true, false_iff]
      omega
  | negSucc m =>
    cases y with
    | ofNat n =>
      show true = true ↔ _
      simp only [Int.ofNat_eq_natCast, true_iff]
      omega
    | negSucc n =>
      show Nat.ble n m = true ↔ _
      rw [gBle, decide_eq_true_eq]
      omega
/-- a pair of bounds within an int's -/
def gRgc (lo hi : Int) : Option (Int × Int) := Bool.rec (motive := fun _ => Option (Int × Int)) none (Bool.rec (motive := fun _ => Option (Int × Int)) none (some (lo, hi)) (gLe hi 2147483647)) (gLe (-2147483648) lo)
theorem gRgc_eq (lo hi : Int) : gRgc lo hi = if -2147483648 ≤ lo ∧ hi ≤ 2147483647 then some (lo, hi) else none := by
  unfold gRgc
  cases e1 : gLe (-2147483648) lo with
  | false =>
    rw [if_neg]
    intro q
    rw [gLe_iff.mpr q.1] at e1
    cases e1
  | true =>
    have h1 := gLe_iff.mp e1
    cases e2 : gLe hi 2147483647 with
    | false =>
      rw [if_neg]
      intro q
      rw [gLe_iff.mpr q.2] at e2
      cases e2
    | true => rw [if_pos ⟨h1, gLe_iff.mp e2⟩]
/-- an entry of a list -/
def fAt {β : Type} (l : List β) (n : Nat) : Option β := List.rec (motive := fun _ => Nat → Option β) (fun _ => none) (fun x _ ih n => Nat.rec (motive := fun _ => Option β) (some x) (fun m _ => ih m) n) l n
theorem fAt_eq {β : Type} : ∀ (l : List β) (n : Nat), fAt l n = l[n]?
  | [], _ => rfl
  | _ :: _, 0 => rfl
  | _ :: t, n + 1 => by
    have e := fAt_eq t n
    rw [List.getElem?_cons_succ, ← e]
    rfl
def sBase (i : Nat) : Int × Int := match fAt sLocB i with
  | some b => b
  | none => (-2147483648, 2147483647)
def sBnd (env : sE) (i : Nat) : Int × Int := List.rec (motive := fun _ => Int × Int) (-2147483648, 2147483647) (fun q _ ih => Prod.rec (motive := fun _ => Int × Int) (fun j b => Bool.rec (motive := fun _ => Int × Int) (Bool.rec (motive := fun _ => Int × Int) ih b (Nat.beq j i)) (Bool.rec (motive := fun _ => Int × Int) (Bool.rec (motive := fun _ => Int × Int) ih b (Nat.beq j i)) (sBase i) (decide (b.2 < b.1))) (Nat.beq j 1000000)) q) env
theorem sBr1 {α : Type} {a b : Nat} (x y : α) : Bool.rec (motive := fun _ => α) x y (Nat.beq a b) = if a = b then y else x := by
  by_cases h : a = b
  · subst h
    rw [Nat.beq_refl, if_pos rfl]
  · have hb : Nat.beq a b = false := by
      cases q : Nat.beq a b with
      | false => rfl
      | true => exact absurd (Nat.eq_of_beq_eq_true q) h
    rw [hb, if_neg h]
theorem sBnd_cons (j : Nat) (b : Int × Int) (t : sE) (i : Nat) : sBnd ((j, b) :: t) i = if j = 1000000 ∧ b.2 < b.1 then sBase i else if j = i then b else sBnd t i := by
  show Bool.rec (motive := fun _ => Int × Int) (Bool.rec (motive := fun _ => Int × Int) (sBnd t i) b (Nat.beq j i)) (Bool.rec (motive := fun _ => Int × Int) (Bool.rec (motive := fun _ => Int × Int) (sBnd t i) b (Nat.beq j i)) (sBase i) (decide (b.2 < b.1))) (Nat.beq j 1000000) = _
  rw [sBr1 (a := j) (b := i)]
  generalize (if j = i then b else sBnd t i) = z
  rw [sBr1]
  by_cases h : j = 1000000
  · rw [if_pos h]
    by_cases h2 : b.2 < b.1
    · rw [decide_eq_true h2]
      exact (if_pos ⟨h, h2⟩).symm
    · rw [decide_eq_false h2]
      exact (if_neg (fun q => h2 q.2)).symm
  · rw [if_neg h]
    exact (if_neg (fun q => h q.1)).symm
theorem sBnd_ok {ρ : List Int} {i : Nat} {y : Int} (hI : sI y = true) (hy : ρ[i]? = some y) : ∀ env : sE, (∀ q ∈ env, sQe ρ q) → (sBnd env i).1 ≤ y ∧ y ≤ (sBnd env i).2
  | [], _ => by rw [sI_iff] at hI; exact hI
  | (j, b) :: t, h => by
    have hq := h (j, b) List.mem_cons_self
    rw [sBnd_cons]
    unfold sQe at hq
    split
    · rename_i hc
      rw [if_pos hc] at hq
      unfold sBase
      rw [fAt_eq]
      split
      · rename_i b' hb
        obtain ⟨z, hz, h1, h2⟩ := hq i b' hb
        cases Option.some.inj (hy.symm.trans hz)
        exact ⟨h1, h2⟩
      · rw [sI_iff] at hI; exact hI
    · rename_i hc
      rw [if_neg hc] at hq
      split
      · rename_i e
        subst e
        obtain ⟨z, hz, h1, h2⟩ := hq
        cases Option.some.inj (hy.symm.trans hz)
        exact ⟨h1, h2⟩
      · exact sBnd_ok hI hy t (fun q hq => h q (List.mem_cons_of_mem _ hq))
def sRg (env : sE) (x : sV) : Option (Int × Int) := Prod.rec (motive := fun _ => Option (Int × Int)) (fun t c => Bool.rec (motive := fun _ => Option (Int × Int)) (Bool.rec (motive := fun _ => Option (Int × Int)) none (gRgc c c) (Nat.beq t 0)) (Prod.rec (motive := fun _ => Option (Int × Int)) (fun lo hi => Bool.rec (motive := fun _ => Option (Int × Int)) (gRgc (lo + c) (hi + c)) (gRgc lo hi) (sZ0 c)) (sBnd env ((t - 16) / 2))) (Nat.ble 16 t)) x
theorem sRg_eq (env : sE) (x : sV) : sRg env x = match x with
  | (0, z) => if sI z = true then some (z, z) else none
  | (t, c) => if 16 ≤ t then (match sBnd env ((t - 16) / 2) with
    | (lo, hi) => if -2147483648 ≤ lo + c ∧ hi + c ≤ 2147483647 then some (lo + c, hi + c) else none) else none := by
  split
  · rename_i z
    show gRgc z z = _
    rw [gRgc_eq]
    by_cases h : sI z = true
    · rw [if_pos h, if_pos (sI_iff.mp h)]
    · rw [if_neg h, if_neg (fun q => h (sI_iff.mpr q))]
  · rename_i t c h0
    show Bool.rec (motive := fun _ => Option (Int × Int)) (Bool.rec (motive := fun _ => Option (Int × Int)) none (gRgc c c) (Nat.beq t 0)) (Prod.rec (motive := fun _ => Option (Int × Int)) (fun lo hi => Bool.rec (motive := fun _ => Option (Int × Int)) (gRgc (lo + c) (hi + c)) (gRgc lo hi) (sZ0 c)) (sBnd env ((t - 16) / 2))) (Nat.ble 16 t) = _
    by_cases h16 : 16 ≤ t
    · rw [if_pos h16, Nat.ble_eq_true_of_le h16]
      generalize sBnd env ((t - 16) / 2) = q
      obtain ⟨lo, hi⟩ := q
      show Bool.rec (motive := fun _ => Option (Int × Int)) (gRgc (lo + c) (hi + c)) (gRgc lo hi) (sZ0 c) = _
      cases e : sZ0 c with
      | false => exact gRgc_eq _ _
      | true =>
        have ec := sZ0_eq e
        subst ec
        show gRgc lo hi = if -2147483648 ≤ lo + 0 ∧ hi + 0 ≤ 2147483647 then some (lo + 0, hi + 0) else none
        rw [Int.add_zero, Int.add_zero]
        exact gRgc_eq _ _
    · have hb : Nat.ble 16 t = false := by
        cases q : Nat.ble 16 t with
        | false => rfl
        | true => exact absurd (Nat.le_of_ble_eq_true q) h16
      rw [if_neg h16, hb]
      show Bool.rec (motive := fun _ => Option (Int × Int)) none (gRgc c c) (Nat.beq t 0) = none
      rw [sBr1, if_neg (fun q => h0 q)]
theorem sRg_ev {ρ : List Int} {nx : Nat} {env : sE} (h : sOk ρ nx env) {x : sV} {n lo hi : Int} (hn : sEv ρ x = some n) (hr : sRg env x = some (lo, hi)) : lo ≤ n ∧ n ≤ hi ∧ sI n = true := by
  rw [sRg_eq] at hr
  split at hr
  · split at hr
    · rename_i hI
      simp only [sEv, Option.some.injEq] at hn
      cases hr
      subst hn
      exact ⟨Int.le_refl _, Int.le_refl _, hI⟩
    · cases hr
  · rename_i t c h0
    split at hr
    · rename_i h16
      rw [sEv_gen ⟨by omega, by omega⟩, if_pos h16] at hn
      obtain ⟨y, hy, rfl⟩ := Option.map_eq_some_iff.mp hn
      obtain ⟨b1, b2⟩ := sBnd_ok (h.2.1 y (List.mem_of_getElem? hy)) hy env h.2.2
      simp only at hr
      split at hr
      · rename_i hc
        cases hr
        refine ⟨by omega, by omega, ?_⟩
        rw [sI_iff]
        omega
      · cases hr
    · cases hr
theorem sRg_ok {ρ : List Int} {ads : List Nat} {ex : Nat → Nat} {nx : Nat} {env : sE} (h : sOk ρ nx env) {x : sV} {v : Value} {lo hi : Int} (hv : sRep ρ ads ex x v) (hk : sK x = 0) (hr : sRg env x = some (lo, hi)) : ∃ y : Int32, v = .int y ∧ lo ≤ y.toInt ∧ y.toInt ≤ hi ∧ sEv ρ x = some y.toInt := by
  obtain ⟨n, rfl, hn⟩ := sRep_int hv hk
  obtain ⟨h1, h2, h3⟩ := sRg_ev h hn hr
  exact ⟨_, rfl, by rw [sI_toInt h3]; exact h1, by rw [sI_toInt h3]; exact h2, by rw [sI_toInt h3]; exact hn⟩
/-- an unknown int whose bounds have met is known -/
def sN (env : sE) (x : sV) : sV := if sK x = 0 then (match sRg env x with
  | some (lo, hi) => if sIe lo hi = true then (0, lo) else x
  | none => x) else x
theorem sN_ev {ρ : List Int} {nx : Nat} {env : sE} (h : sOk ρ nx env) {x : sV} {n : Int} (hn : sEv ρ x = some n) : sEv ρ (sN env x) = some n := by
  unfold sN
  split
  · split
    · rename_i lo hi hr
      split
      · rename_i e
        have e := sIe_eq e
        obtain ⟨h1, h2, -⟩ := sRg_ev h hn hr
        simp only [sEv]
        congr 1
        omega
      · exact hn
    · exact hn
  · exact hn
theorem sN_k (env : sE) (x : sV) : sK (sN env x) = sK x := by
  unfold sN
  split
  · rename_i hk
    split
    · split
      · rw [hk]; rfl
      · rfl
    · rfl
  · rfl
theorem sN_ok {ρ : List Int} {ads : List Nat} {ex : Nat → Nat} {nx : Nat} {env : sE} (h : sOk ρ nx env) {x : sV} {v : Value} (hv : sRep ρ ads ex x v) : sRep ρ ads ex (sN env x) v := by
  by_cases hk : sK x = 0
  · obtain ⟨n, rfl, hn⟩ := sRep_int hv hk
    exact sRep_of_int ((sN_k env x).trans hk) (sN_ev h hn)
  · unfold sN
    rw [if_neg hk]
    exact hv
/-- one more unknown number, within bounds -/
def sFr (nx : Nat) (env : sE) (lo hi : Int) : Nat × sE × sV := if lo = hi then (nx, env, (0, lo)) else if -2147483648 < lo ∨ hi < 2147483647 then (nx + 1, (nx, lo, hi) :: env, (16 + 2 * nx, 0)) else (nx + 1, env, (16 + 2 * nx, 0))
theorem sOk_push {ρ : List Int} {nx : Nat} {env : sE} (h : sOk ρ nx env) {y : Int} (hI : sI y = true) : sOk (ρ ++ [y]) (nx + 1) env := by
  obtain ⟨h1, h2, h3⟩ := h
  refine ⟨by rw [List.length_append, h1]; rfl, fun z hz => ?_, fun q hq => ?_⟩
  · rcases List.mem_append.mp hz with hz | hz
    · exact h2 z hz
    · rw [List.mem_singleton] at hz
      subst hz
      exact hI
  · exact sQe_mono (List.prefix_append _ _) (h3 q hq)
theorem sOk_cons {ρ : List Int} {nx : Nat} {env : sE} (h : sOk ρ nx env) {i : Nat} {y lo hi : Int} (hy : ρ[i]? = some y) (h1 : lo ≤ y) (h2 : y ≤ hi) : sOk ρ nx ((i, lo, hi) :: env) := by
  refine ⟨h.1, h.2.1, fun q hq => ?_⟩
  rcases List.mem_cons.mp hq with rfl | hq
  · exact sQe_of hy h1 h2
  · exact h.2.2 q hq
theorem sNew_ev (ρ : List Int) (y : Int) : sEv (ρ ++ [y]) (16 + 2 * ρ.length, 0) = some y := by
  rw [sEv_gen ⟨by omega, by omega⟩, if_pos (by omega), show (16 + 2 * ρ.length - 16) / 2 = ρ.length by omega]
  simp
theorem sNew_k (n : Nat) (c : Int) : sK (16 + 2 * n, c) = 0 := by
  rw [sK_gen ⟨by omega, by omega, by omega, by omega, by omega⟩, if_pos (by omega)]
  omega
theorem sNew_at (ρ : List Int) (y : Int) : (ρ ++ [y])[ρ.length]? = some y := by simp
theorem sFr_ok {ρ : List Int} {nx : Nat} {env : sE} (h : sOk ρ nx env) {lo hi y : Int} (hI : sI y = true) (h1 : lo ≤ y) (h2 : y ≤ hi) : ∃ ρ' : List Int, ρ <+: ρ' ∧ sOk ρ' (sFr nx env lo hi).1 (sFr nx env lo hi).2.1 ∧ sEv ρ' (sFr nx env lo hi).2.2 = some y ∧ sK (sFr nx env lo hi).2.2 = 0 := by
  unfold sFr
  split
  · exact ⟨ρ, List.prefix_rfl, h, by simp only [sEv]; congr 1; omega, rfl⟩
  · have hl := h.1
    subst hl
    have hp := sOk_push h hI
    split
    · exact ⟨ρ ++ [y], List.prefix_append _ _, sOk_cons hp (sNew_at ρ y) h1 h2, sNew_ev ρ y, sNew_k _ _⟩
    · exact ⟨ρ ++ [y], List.prefix_append _ _, hp, sNew_ev ρ y, sNew_k _ _⟩
/-- bounds that may lie beyond an int: then any int -/
def sFw (nx : Nat) (env : sE) (lo hi : Int) : Nat × sE × sV := if -2147483648 ≤ lo ∧ hi ≤ 2147483647 then sFr nx env lo hi else sFr nx env (-2147483648) 2147483647
theorem sFw_ok {ρ : List Int} {nx : Nat} {env : sE} (h : sOk ρ nx env) {lo hi y : Int} (hI : sI y = true) (h1 : -2147483648 ≤ lo → hi ≤ 2147483647 → lo ≤ y ∧ y ≤ hi) : ∃ ρ' : List Int, ρ <+: ρ' ∧ sOk ρ' (sFw nx env lo hi).1 (sFw nx env lo hi).2.1 ∧ sEv ρ' (sFw nx env lo hi).2.2 = some y ∧ sK (sFw nx env lo hi).2.2 = 0 := by
  unfold sFw
  split
  · rename_i hc
    exact sFr_ok h hI (h1 hc.1 hc.2).1 (h1 hc.1 hc.2).2
  · rw [sI_iff] at hI
    exact sFr_ok h (sI_iff.mpr hI) hI.1 hI.2
/-! ### facts between numbers: 0: a >= b; 1: t = 0 or a >= b; 2: a >= b + z; 3: a leaves the rest r by m; 4: y lies within the bounds that stand for x's rest -/
def sSpec : List (List (Int × Int)) := [[(0, 5), (0, 7), (0, 60)], [(-2147483648, 2147483647), (-2147483648, 2147483647), (-2147483648, 2147483647), (-2147483648, 2147483647), (0, 4), (0, 5), (0, 7), (0, 60), (0, 5), (0, 7), (0, 60), (0, 5), (0, 7), (0, 60), (0, 5), (0, 7), (0, 60)], [(-2147483648, 2147483647)], [(0, 7)], [(-1, 7)], [(0, 5)], [(0, 255)]]
/-- 5: r is what op makes of a and b (sum, product, lesser, difference, a shift, a signed byte, an unsigned one); 6: a is not b -/
def sOp5 (op : Nat) (x m n : Int) : Prop := match op with
  | 0 => x = m + n
  | 1 => x = m * n
  | 2 => n ≤ m → x = n
  | 3 => x = m - n
  | 4 => x = m / 2 ^ n.toNat
  | 5 => x = gSg (m % 256)
  | 6 => x = m % 256
  | 7 => x = gBo 7 m n
  | 8 => x = gBo 8 m n
  | 9 => x = gBo 9 m n
  | 10 => x = gBo 10 m n
  | 11 => x = gBo 11 m n
  | 12 => x = gBo 12 m n
  | _ => True
def sPf (ρ : List Int) (f : sFc) : Prop := match f with
  | (0, [a, b], _) => ∃ m n : Int, sEv ρ a = some m ∧ sEv ρ b = some n ∧ n ≤ m
  | (1, [a, b, t], _) => ∃ m n k : Int, sEv ρ a = some m ∧ sEv ρ b = some n ∧ sEv ρ t = some k ∧ (k = 0 ∨ n ≤ m)
  | (2, [a, b, z], _) => ∃ m n k : Int, sEv ρ a = some m ∧ sEv ρ b = some n ∧ sEv ρ z = some k ∧ n + k ≤ m
  | (3, [a], [md, r]) => ∃ m q : Int, sEv ρ a = some m ∧ m = (md : Int) * q + (r : Int)
  | (4, [x, y], [j]) => ∃ (m n : Int) (S : List (Int × Int)) (lo hi : Int), sEv ρ x = some m ∧ sEv ρ y = some n ∧ sSpec[j]? = some S ∧ S[(m % (S.length : Int)).toNat]? = some (lo, hi) ∧ lo ≤ n ∧ n ≤ hi
  | (5, [r, a, b], [op]) => ∃ x m n : Int, sEv ρ r = some x ∧ sEv ρ a = some m ∧ sEv ρ b = some n ∧ sOp5 op x m n
  | (6, [a, b], _) => ∃ m n : Int, sEv ρ a = some m ∧ sEv ρ b = some n ∧ m ≠ n
  | _ => True
theorem sPf_mono {ρ ρ' : List Int} (hp : ρ <+: ρ') {f : sFc} (h : sPf ρ f) : sPf ρ' f := by
  unfold sPf at h ⊢
  split at h
  · obtain ⟨m, n, h1, h2, h3⟩ := h
    exact ⟨m, n, sEv_mono hp h1, sEv_mono hp h2, h3⟩
  · obtain ⟨m, n, k, h1, h2, h3, h4⟩ := h
    exact ⟨m, n, k, sEv_mono hp h1, sEv_mono hp h2, sEv_mono hp h3, h4⟩
  · obtain ⟨m, n, k, h1, h2, h3, h4⟩ := h
    exact ⟨m, n, k, sEv_mono hp h1, sEv_mono hp h2, sEv_mono hp h3, h4⟩
  · obtain ⟨m, q, h1, h2⟩ := h
    exact ⟨m, q, sEv_mono hp h1, h2⟩
  · obtain ⟨m, n, S, lo, hi, h1, h2, h3⟩ := h
    exact ⟨m, n, S, lo, hi, sEv_mono hp h1, sEv_mono hp h2, h3⟩
  · obtain ⟨x, m, n, h1, h2, h3, h4⟩ := h
    exact ⟨x, m, n, sEv_mono hp h1, sEv_mono hp h2, sEv_mono hp h3, h4⟩
  · obtain ⟨m, n, h1, h2, h3⟩ := h
    exact ⟨m, n, sEv_mono hp h1, sEv_mono hp h2, h3⟩
  · trivial
/-! ### the best known distance of two numbers, the best known upper bound -/
def sMax (a b : Option Int) : Option Int := match a, b with
  | some x, some y => some (if x ≤ y then y else x)
  | some x, none => some x
  | none, b => b
def sMin (a b : Option Int) : Option Int := match a, b with
  | some x, some y => some (if x ≤ y then x else y)
  | some x, none => some x
  | none, b => b
theorem sMax_P {P : Int → Prop} {a b : Option Int} {c : Int} (ha : ∀ x, a = some x → P x) (hb : ∀ x, b = some x → P x) (h : sMax a b = some c) : P c := by
  unfold sMax at h
  split at h
  · rename_i x y
    cases h
    split
    · exact hb y rfl
    · exact ha x rfl
  · cases h
    exact ha _ rfl
  · exact hb c h
theorem sMin_P {P : Int → Prop} {a b : Option Int} {c : Int} (ha : ∀ x, a = some x → P x) (hb : ∀ x, b = some x → P x) (h : sMin a b = some c) : P c := by
  unfold sMin at h
  split at h
  · rename_i x y
    cases h
    split
    · exact ha x rfl
    · exact hb y rfl
  · cases h
    exact ha _ rfl
  · exact hb c h
def sFold (op : Option Int → Option Int → Option Int) (g : sFc → Option Int) (F : List sFc) (b : Option Int) : Option Int := List.rec (motive := fun _ => Option Int) b (fun f _ ih => Option.rec (motive := fun _ => Option Int) ih (fun z => op (some z) ih) (g f)) F
theorem sFold_P {P : Int → Prop} {op : Option Int → Option Int → Option Int} (hop : ∀ {a b : Option Int} {c : Int}, (∀ x, a = some x → P x) → (∀ x, b = some x → P x) → op a b = some c → P c) {g : sFc → Option Int} {b : Option Int} (hb : ∀ x, b = some x → P x) : ∀ (F : List sFc), (∀ f ∈ F, ∀ x, g f = some x → P x) → ∀ x, sFold op g F b = some x → P x
  | [], _, x, h => hb x h
  | f :: t, hg, x, h => by
    have ih := sFold_P hop hb t (fun f hf => hg f (List.mem_cons_of_mem _ hf))
    have h' : Option.rec (motive := fun _ => Option Int) (sFold op g t b) (fun z => op (some z) (sFold op g t b)) (g f) = some x := h
    cases e : g f with
    | none => rw [e] at h'; exact ih x h'
    | some z =>
      rw [e] at h'
      exact hop (fun y hy => by cases hy; exact hg f List.mem_cons_self z e) ih h'
/-- a number that is known not to be 0 -/
def sNz (env : sE) (t : sV) : Bool := match sRg env t with
  | some (lo, hi) => decide (0 < lo) || decide (hi < 0)
  | none => false
theorem sNz_ok {ρ : List Int} {nx : Nat} {env : sE} (h : sOk ρ nx env) {t : sV} {k : Int} (hk : sEv ρ t = some k) (hz : sNz env t = true) : k ≠ 0 := by
  unfold sNz at hz
  split at hz
  · rename_i lo hi hr
    obtain ⟨h1, h2, -⟩ := sRg_ev h hk hr
    simp only [Bool.or_eq_true, decide_eq_true_eq] at hz
    omega
  · cases hz
def sLo (env : sE) (x : sV) : Option Int := (sRg env x).map Prod.fst
def sHi (env : sE) (x : sV) : Option Int := (sRg env x).map Prod.snd
theorem sLo_ok {ρ : List Int} {nx : Nat} {env : sE} (h : sOk ρ nx env) {x : sV} {n c : Int} (hn : sEv ρ x = some n) (hl : sLo env x = some c) : c ≤ n := by
  obtain ⟨q, hq, rfl⟩ := Option.map_eq_some_iff.mp hl
  exact (sRg_ev (lo := q.1) (hi := q.2) h hn hq).1
theorem sHi_ok {ρ : List Int} {nx : Nat} {env : sE} (h : sOk ρ nx env) {x : sV} {n c : Int} (hn : sEv ρ x = some n) (hl : sHi env x = some c) : n ≤ c := by
  obtain ⟨q, hq, rfl⟩ := Option.map_eq_some_iff.mp hl
  exact (sRg_ev (lo := q.1) (hi := q.2) h hn hq).2.1
def sD0 (env : sE) (x y : sV) : Option Int := match sLo env x, sHi env y with
  | some a, some b => some (a - b)
  | _, _ => none
def sDg (env : sE) (r : sV → Option Int) (x : sV) (f : sFc) : Option Int := match f with
  | (0, [a, b], _) => if a.1 = x.1 then (r b).map (fun c => c + (x.2 - a.2)) else none
  | (1, [a, b, t], _) => if a.1 = x.1 then (if sNz env t = true then (r b).map (fun c => c + (x.2 - a.2)) else none) else none
  | (2, [a, b, z], _) => if a.1 = x.1 then (match sLo env z with
    | some l => (r b).map (fun c => c + l + (x.2 - a.2))
    | none => none) else none
  | _ => none
/-- the first of a fact's numbers -/
def sHd1 (f : sFc) (t : Nat) : Bool := Bool.rec (motive := fun _ => Bool) false (List.rec (motive := fun _ => Bool) false (fun a _ _ => Nat.beq a.1 t) f.2.1) (Nat.ble f.1 2)
def sDq (env : sE) (r : sV → Option Int) (x : sV) (f : sFc) : Option Int := Bool.rec (motive := fun _ => Option Int) none (sDg env r x f) (sHd1 f x.1)
theorem sDq_some {env : sE} {r : sV → Option Int} {x : sV} {f : sFc} {c : Int} (h : sDq env r x f = some c) : sDg env r x f = some c := by
  unfold sDq at h
  cases e : sHd1 f x.1 with
  | false => rw [e] at h; cases h
  | true => rw [e] at h; exact h
def sDm (env : sE) (F : List sFc) (d : Nat) : sV → sV → Option Int := Nat.rec (motive := fun _ => sV → sV → Option Int) (fun x y => Bool.rec (motive := fun _ => Option Int) (sD0 env x y) (some (x.2 - y.2)) (Nat.beq x.1 y.1)) (fun _ ih x y => Bool.rec (motive := fun _ => Option Int) (Bool.rec (motive := fun _ => Option Int) (sD0 env x y) (sFold sMax (sDq env (fun b => ih b y) x) F (sD0 env x y)) (Nat.ble 16 x.1)) (some (x.2 - y.2)) (Nat.beq x.1 y.1)) d
theorem sDm_zero (env : sE) (F : List sFc) (x y : sV) : sDm env F 0 x y = if x.1 = y.1 then some (x.2 - y.2) else sD0 env x y := sBr1 _ _
theorem sDm_succ (env : sE) (F : List sFc) (d : Nat) (x y : sV) : sDm env F (d + 1) x y = if x.1 = y.1 then some (x.2 - y.2) else if x.1 < 16 then sD0 env x y else sFold sMax (sDq env (fun b => sDm env F d b y) x) F (sD0 env x y) := by
  show Bool.rec (motive := fun _ => Option Int) (Bool.rec (motive := fun _ => Option Int) (sD0 env x y) (sFold sMax (sDq env (fun b => sDm env F d b y) x) F (sD0 env x y)) (Nat.ble 16 x.1)) (some (x.2 - y.2)) (Nat.beq x.1 y.1) = _
  rw [sBr1]
  congr 1
  by_cases h : x.1 < 16
  · rw [if_pos h]
    have hb : Nat.ble 16 x.1 = false := by
      cases q : Nat.ble 16 x.1 with
      | false => rfl
      | true => exact absurd (Nat.le_of_ble_eq_true q) (by omega)
    rw [hb]
  · rw [if_neg h, Nat.ble_eq_true_of_le (by omega)]
theorem sEv_same {ρ : List Int} {x y : sV} {m n : Int} (h : x.1 = y.1) (hm : sEv ρ x = some m) (hn : sEv ρ y = some n) : x.2 - y.2 = m - n := by
  obtain ⟨t, c⟩ := x
  obtain ⟨t', c'⟩ := y
  simp only at h
  subst h
  by_cases h0 : t = 0
  · subst h0
    simp only [sEv, Option.some.injEq] at hm hn
    subst hm; subst hn
    rfl
  · by_cases h1 : t = 1
    · subst h1
      simp only [sEv, Option.some.injEq] at hm hn
      subst hm; subst hn
      rfl
    · rw [sEv_gen ⟨h0, h1⟩] at hm hn
      split at hm
      · obtain ⟨u, hu, rfl⟩ := Option.map_eq_some_iff.mp hm
        rename_i h16
        rw [if_pos h16, hu] at hn
        cases hn
        simp only
        omega
      · cases hm
theorem sD0_ok {ρ : List Int} {nx : Nat} {env : sE} (h : sOk ρ nx env) {x y : sV} {m n c : Int} (hm : sEv ρ x = some m) (hn : sEv ρ y = some n) (hc : sD0 env x y = some c) : c ≤ m - n := by
  unfold sD0 at hc
  split at hc
  · rename_i a b ha hb
    cases hc
    have := sLo_ok h hm ha
    have := sHi_ok h hn hb
    omega
  · cases hc
theorem sDg_ok {ρ : List Int} {nx : Nat} {env : sE} (h : sOk ρ nx env) {r : sV → Option Int} {x y : sV} {m n : Int} (hm : sEv ρ x = some m) (hr : ∀ (b : sV) (k c : Int), sEv ρ b = some k → r b = some c → c ≤ k - n) {f : sFc} (hf : sPf ρ f) {c : Int} (hc : sDg env r x f = some c) : c ≤ m - n := by
  unfold sDg at hc
  split at hc
  · split at hc
    · rename_i a b ps e
      obtain ⟨u, k, h1, h2, h3⟩ := hf
      obtain ⟨c0, hc0, rfl⟩ := Option.map_eq_some_iff.mp hc
      have := hr b k c0 h2 hc0
      have := sEv_same e h1 hm
      omega
    · cases hc
  · split at hc
    · rename_i a b t ps e
      split at hc
      · rename_i hz
        obtain ⟨u, k, w, h1, h2, h3, h4⟩ := hf
        obtain ⟨c0, hc0, rfl⟩ := Option.map_eq_some_iff.mp hc
        have := hr b k c0 h2 hc0
        have := sEv_same e h1 hm
        have := sNz_ok h h3 hz
        omega
      · cases hc
    · cases hc
  · split at hc
    · rename_i a b z ps e
      split at hc
      · rename_i l hl
        obtain ⟨u, k, w, h1, h2, h3, h4⟩ := hf
        obtain ⟨c0, hc0, rfl⟩ := Option.map_eq_some_iff.mp hc
        have := hr b k c0 h2 hc0
        have := sEv_same e h1 hm
        have := sLo_ok h h3 hl
        omega
      · cases hc
    · cases hc
  · cases hc
theorem sDm_ok {ρ : List Int} {nx : Nat} {env : sE} {F : List sFc} (h : sOk ρ nx env) (hF : ∀ f ∈ F, sPf ρ f) : ∀ (d : Nat) {x y : sV} {m n c : Int}, sEv ρ x = some m → sEv ρ y = some n → sDm env F d x y = some c → c ≤ m - n
  | 0, x, y, m, n, c, hm, hn, hc => by
    rw [sDm_zero] at hc
    split at hc
    · rename_i e
      cases hc
      rw [sEv_same e hm hn]
      exact Int.le_refl _
    · exact sD0_ok h hm hn hc
  | d + 1, x, y, m, n, c, hm, hn, hc => by
    rw [sDm_succ] at hc
    split at hc
    · rename_i e
      cases hc
      rw [sEv_same e hm hn]
      exact Int.le_refl _
    · split at hc
      · exact sD0_ok h hm hn hc
      · exact sFold_P (P := fun c => c ≤ m - n) (fun ha hb q => sMax_P (P := fun c => c ≤ m - n) ha hb q) (fun _ q => sD0_ok h hm hn q) F (fun f hf _ q => sDg_ok (y := y) h hm (fun b k c0 hb hc0 => sDm_ok h hF d hb hn hc0) (hF f hf) (sDq_some q)) c hc
/-- a first look, then a deeper one -/
def sDn (env : sE) (F : List sFc) (a b : sV) : Bool := (match sDm env F 1 a b with
  | some z => gLe 0 z
  | none => false) || (match sDm env F 5 a b with
  | some z => gLe 0 z
  | none => false)
theorem sDn_ok {ρ : List Int} {nx : Nat} {env : sE} {F : List sFc} (h : sOk ρ nx env) (hF : ∀ f ∈ F, sPf ρ f) {x y : sV} {m n : Int} (hm : sEv ρ x = some m) (hn : sEv ρ y = some n) (hd : sDn env F x y = true) : n ≤ m := by
  unfold sDn at hd
  rw [Bool.or_eq_true] at hd
  rcases hd with hd | hd
  · split at hd
    · rename_i z hz
      have := sDm_ok h hF 1 hm hn hz
      have := gLe_iff.mp hd
      omega
    · cases hd
  · split at hd
    · rename_i z hz
      have := sDm_ok h hF 5 hm hn hz
      have := gLe_iff.mp hd
      omega
    · cases hd
end
