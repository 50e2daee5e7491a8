noncomputable section
/-! ===== which number is which: found by places, then by facts (nothing of this is trusted) ===== -/
def sToN (x : sV) : sV := if x.1 = 1 then (0, x.2) else if 17 ≤ x.1 ∧ x.1 % 2 = 1 then (x.1 - 1, x.2) else x
def sPad : Nat → List sV → List sV
  | 0, l => l
  | k + 1, l => sPad k ((0, 0) :: l)
abbrev sQm : Type := Nat × List sV
def gFN {α : Type} (n : Nat) (k : Nat → α) : α := Nat.rec (motive := fun _ => α) (k Nat.zero) (fun m _ => k (Nat.succ m)) n
def gFZ {α : Type} (z : Int) (k : Int → α) : α := Int.rec (motive := fun _ => α) (fun n => gFN n fun m => k (Int.ofNat m)) (fun n => gFN n fun m => k (Int.negSucc m)) z
def gMt1 {α : Type} (env : sE) (x y : sV) (n : Nat) (l : List sV) (k : Nat → List sV → α) : α := Prod.rec (motive := fun _ => α) (fun t c => Bool.rec (motive := fun _ => α) (k n l) (Prod.rec (motive := fun _ => α) (fun tx zx => gFN tx fun tx => gFZ (zx - c) fun zx => gFN ((t - 16) / 2) fun j => k (Nat.succ j) ((tx, zx) :: sPad (j - n) l)) (sToN (sN env x))) (Nat.ble (16 + 2 * n) t)) y
def gMtL {α : Type} (env : sE) (xs ys : List sV) (n : Nat) (l : List sV) (k : Nat → List sV → α) : α := List.rec (motive := fun _ => List sV → Nat → List sV → (Nat → List sV → α) → α) (fun _ n l k => k n l) (fun x _ ih ys n l k => List.rec (motive := fun _ => α) (k n l) (fun y ys' _ => gMt1 env x y n l (fun n l => ih ys' n l k)) ys) xs ys n l k
def gMtO {α : Type} (d : sV) (env : sE) (ov : List (Nat × sV)) (ov' : List (Nat × sV)) (n : Nat) (l : List sV) (k : Nat → List sV → α) : α := List.rec (motive := fun _ => Nat → List sV → (Nat → List sV → α) → α) (fun n l k => k n l) (fun q _ ih n l k => gMt1 env (sLook d ov q.1) q.2 n l (fun n l => ih n l k)) ov' n l k
def gMtC {α : Type} (env : sE) (c c' : sC) (n : Nat) (l : List sV) (k : Nat → List sV → α) : α := Sum.rec (motive := fun _ => α) (fun o => Sum.rec (motive := fun _ => α) (fun o' => gMtL env o.2 o'.2 n l k) (fun _ => k n l) c') (fun r => Sum.rec (motive := fun _ => α) (fun _ => k n l) (fun r' => Bool.rec (motive := fun _ => α) (Bool.rec (motive := fun _ => α) (k n l) (Bool.rec (motive := fun _ => α) (k n l) (gMtO (1, 0) env r.2.2 r'.2.2 n l k) (Nat.beq r'.1 2)) (Nat.beq r.1 2)) (gMtO (0, 0) env r.2.2 r'.2.2 n l k) (Nat.beq (r.1 + r'.1) 0)) c') c
def gMtW {α : Type} (env : sE) (xs ys : List sC) (n : Nat) (l : List sV) (k : Nat → List sV → α) : α := List.rec (motive := fun _ => List sC → Nat → List sV → (Nat → List sV → α) → α) (fun _ n l k => k n l) (fun x _ ih ys n l k => List.rec (motive := fun _ => α) (k n l) (fun y ys' _ => gMtC env x y n l (fun n l => ih ys' n l k)) ys) xs ys n l k
def gMtV {α : Type} (env : sE) (lv lv' : sM) (n : Nat) (l : List sV) (k : Nat → List sV → α) : α := List.rec (motive := fun _ => Nat → List sV → (Nat → List sV → α) → α) (fun n l k => k n l) (fun q _ ih n l k => Option.rec (motive := fun _ => α) (ih n l k) (fun x => gMt1 env x q.2 n l (fun n l => ih n l k)) (sGet lv q.1)) lv' n l k
def sG16 (env : sE) (n : sV) : List sFc → Option sV
  | [] => none
  | (16, [d, n'], _) :: t => if sVe (sN env n') n = true then some (sN env d) else sG16 env n t
  | _ :: t => sG16 env n t
def sG15 (env : sE) (k : List Nat) (x : sV) : List sFc → Option sV
  | [] => none
  | (15, [x', y], k') :: t => if k' = k ∧ sVe (sN env x') x = true then some (sN env y) else sG15 env k x t
  | _ :: t => sG15 env k x t
def sG62 (env : sE) (k : List Nat) : List sFc → Option sV
  | [] => none
  | (62, [m], k') :: t => if sNl k' k = true then some (sN env m) else sG62 env k t
  | _ :: t => sG62 env k t
/-- the last of them -/
def sG13 (env : sE) (w : Bool) : List sFc → Option sV
  | [] => none
  | (60, [a, b], [13]) :: t => (match sG13 env w t with
    | some y => some y
    | none => some (sN env (if w = true then b else a)))
  | _ :: t => sG13 env w t
def sGi (n : Nat) : List sV → Nat → Option (Nat × sV)
  | [], _ => none
  | x :: t, i => if x.1 = n then some (i, x) else sGi n t (i + 1)
def sG12 (env : sE) (u i : Nat) : List sFc → Option sV
  | [] => none
  | (60, as, [12, u']) :: t => if u' = u then (match as[i]? with
    | some y => some (sN env y)
    | none => none) else sG12 env u i t
  | _ :: t => sG12 env u i t
/-- the last of them -/
def sG65 (env : sE) (k : List Nat) (x1 x2 : sV) : List sFc → Option sV
  | [] => none
  | (65, [m, y1, y2], k') :: t => (match sG65 env k x1 x2 t with
    | some y => some y
    | none => if (sNl k' k && (sVe (sN env y1) x1 && sVe (sN env y2) x2)) = true then some (sN env m) else none)
  | _ :: t => sG65 env k x1 x2 t
def sG66 (env : sE) (k : List Nat) : List sFc → Option sV
  | [] => none
  | (66, [_, m, _], k') :: t => if sNl k' k = true then some (sN env m) else sG66 env k t
  | _ :: t => sG66 env k t
/-- the least number that stands third in a fact of sums -/
def sZmin (env : sE) (b : Nat) : List sFc → Option Nat
  | [] => none
  | (2, [_, b', z'], _) :: t => if 16 ≤ z'.1 ∧ (sN env b').1 = b then (match sZmin env b t with
      | some w => some (if z'.1 ≤ w then z'.1 else w)
      | none => some z'.1) else sZmin env b t
  | _ :: t => sZmin env b t
def sGhG (κ : sCx) (G : List sFc) (k0 : Nat) (sg : List sV) (j : Nat) : List sFc → Option sV
  | [] => none
  | (16, [d, n], _) :: t => if d.1 = 16 + 2 * j then (match sSb k0 sg n with
      | some n' => (match sG16 κ.2.1 (sN κ.2.1 n') G with
        | some d' => some (d'.1, d'.2 - d.2)
        | none => some (0, - d.2))
      | none => none) else sGhG κ G k0 sg j t
  | (15, [x, y], k) :: t => if y.1 = 16 + 2 * j then (match sSb k0 sg x with
      | some x' => (match sG15 κ.2.1 k (sN κ.2.1 x') G with
        | some y' => some (y'.1, y'.2 - y.2)
        | none => none)
      | none => none) else sGhG κ G k0 sg j t
  | (65, [m, x1, x2], k) :: t => if m.1 = 16 + 2 * j then (match sG65 κ.2.1 k x1 x2 G with
      | some y => some (y.1, y.2 - m.2)
      | none => some (0, - m.2)) else sGhG κ G k0 sg j t
  | (66, [_, m, _], k) :: t => if m.1 = 16 + 2 * j then (match sG66 κ.2.1 k G with
      | some y => some (y.1, y.2 - m.2)
      | none => none) else sGhG κ G k0 sg j t
  | (62, [m], k) :: t => if m.1 = 16 + 2 * j then (match sG62 κ.2.1 k G with
      | some y => some (y.1, y.2 - m.2)
      | none => none) else sGhG κ G k0 sg j t
  | (60, [a, b], [13]) :: t => if a.1 = 16 + 2 * j then (match sG13 κ.2.1 false G with
      | some y => some (y.1, y.2 - a.2)
      | none => none) else if b.1 = 16 + 2 * j then (match sG13 κ.2.1 true G with
      | some y => some (y.1, y.2 - b.2)
      | none => none) else sGhG κ G k0 sg j t
  | (60, as, [12, u]) :: t => (match sGi (16 + 2 * j) as 0 with
      | some (i, x) => (match sG12 κ.2.1 u i G with
        | some y => some (y.1, y.2 - x.2)
        | none => none)
      | none => sGhG κ G k0 sg j t)
  | _ :: t => sGhG κ G k0 sg j t
def sGhF (κ : sCx) (k0 : Nat) (sg : List sV) (j : Nat) : List sFc → Option sV
  | [] => none
  | (2, [a, b, z], _) :: t => if z.1 = 16 + 2 * j then (match sSb k0 sg a, sSb k0 sg b with
      | some x, some y => (match sZmin κ.2.1 (sN κ.2.1 y).1 κ.2.2 with
        | some w => (match sTm κ.2.1 κ.2.2 (sN κ.2.1 x) (sN κ.2.1 y) (w, 0) with
          | some c => some (w, c - z.2)
          | none => none)
        | none => (match sDm κ.2.1 κ.2.2 5 (sN κ.2.1 x) (sN κ.2.1 y) with
          | some c => some (0, (if 0 ≤ c then c else 0) - z.2)
          | none => none))
      | _, _ => none) else sGhF κ k0 sg j t
  | _ :: t => sGhF κ k0 sg j t
def sGh (κ : sCx) (G : List sFc) (κc : sCx) (Gc : List sFc) (k0 : Nat) (sg : List sV) (j : Nat) : sV := match sGhG κ G k0 sg j Gc with
  | some y => y
  | none => (match sGhF κ k0 sg j κc.2.2 with
    | some y => y
    | none => (0, 0))
def sGhs (κ : sCx) (G : List sFc) (κc : sCx) (Gc : List sFc) (k0 : Nat) (sg : List sV) : Nat → Nat → List sV
  | _, 0 => []
  | j, k + 1 => sGh κ G κc Gc k0 sg j :: sGhs κ G κc Gc k0 sg (j + 1) k
def sSig (κ : sCx) (G : List sFc) (wd : List sC) (lv : sM) (st : List sV) (κc : sCx) (Gc : List sFc) (wdc : List sC) (lvc : sM) (stc : List sV) (k0 : Nat) : List sV := gMtW κ.2.1 wd wdc k0 [] fun n l => gMtV κ.2.1 lv lvc n l fun n l => gMtL κ.2.1 st stc n l fun n l => Bool.rec (motive := fun _ => List sV) (l.reverse ++ sGhs κ G κc Gc k0 l.reverse n (κc.1 - n)) l.reverse (Nat.beq n κc.1)
/-! ===== callees by what is known of them ===== -/
/-- which method, how deep, its entry, its ends, its room -/
abbrev sIn : Type := Nat × Nat × sCx × List sFc × List sC × List sV × List sOc × Nat × Nat
def sInOk (PT : List sMd) (I : sIn) : Prop := ∀ M, PT[I.1]? = some M → I.1 ≠ 0 → ∀ l : Launch, l.stackTraces = false → sMetP l M I.2.1 I.2.2.2.2.2.2.2.1 I.2.2.2.2.2.2.2.2 I.2.2.1 I.2.2.2.1 I.2.2.2.2.1 I.2.2.2.2.2.1 I.2.2.2.2.2.2.1
def sTr1 (κ : sCx) (G : List sFc) (wd : List sC) (As : List sV) (I : sIn) (sg : List sV) : Option sCr := if (fSmL κ.2.1 0 16 sg As I.2.2.2.2.2.1 && sCov κ G wd I.2.2.1 (sNo70 I.2.2.2.1) I.2.2.2.2.1 0 sg) = true then some (I.2.1, I.2.2.2.2.2.2.1.filterMap (sRnO κ G sg), I.2.2.2.2.2.2.2.1, I.2.2.2.2.2.2.2.2) else none
def sFnd (κ : sCx) (G : List sFc) (wd : List sC) (As : List sV) (mj : Nat) : List sIn → Option sCr
  | [] => none
  | I :: t => if I.1 = mj then (match sTr1 κ G wd As I (sSig κ G wd [] As I.2.2.1 I.2.2.2.1 I.2.2.2.2.1 [] I.2.2.2.2.2.1 0) with
    | some r => some r
    | none => sFnd κ G wd As mj t) else sFnd κ G wd As mj t
def sClS (PT : List sMd) (SM : List sIn) (R : sRun) : sClr := fun d mj κ G wd As => match sFnd κ G wd As mj SM with
  | some r => some r
  | none => sInl PT R d mj κ G wd As
theorem sFnd_ok {PT : List sMd} {κ : sCx} {G : List sFc} {wd : List sC} {As : List sV} {mj : Nat} {r : sCr} : ∀ SM : List sIn, (∀ I ∈ SM, sInOk PT I) → sFnd κ G wd As mj SM = some r → ∀ M', PT[mj]? = some M' → mj ≠ 0 → ∀ l : Launch, l.stackTraces = false → sMetP l M' r.1 r.2.2.1 r.2.2.2 κ G wd As r.2.1
  | [], _, h => by cases h
  | I :: t, hS, h => by
    intro M' hM' hmj l hst
    simp only [sFnd] at h
    split at h
    · rename_i e
      split at h
      · rename_i r' hr
        cases h
        unfold sTr1 at hr
        split at hr
        · rename_i hc
          cases hr
          subst e
          rw [Bool.and_eq_true] at hc
          exact sMetP_rn (hS I List.mem_cons_self M' hM' hmj l hst) hc.2 (fSmL_ok rfl _ _ hc.1)
        · cases hr
      · exact sFnd_ok t (fun I hI => hS I (List.mem_cons_of_mem _ hI)) h M' hM' hmj l hst
    · exact sFnd_ok t (fun I hI => hS I (List.mem_cons_of_mem _ hI)) h M' hM' hmj l hst
theorem sClS_ok {PT : List sMd} {SM : List sIn} {R : sRun} (hPT : sOkP PT) (hS : ∀ I ∈ SM, sInOk PT I) (hR : sSnd PT R) : sCsnd PT (sClS PT SM R) := by
  intro d mj κ G wd As r h M' hM' hmj hsum l hst
  unfold sClS at h
  split at h
  · rename_i r' hr
    cases h
    exact sFnd_ok SM hS hr M' hM' hmj l hst
  · exact sInl_ok hPT.2.1 hR d mj κ G wd As r h M' hM' hmj hsum l hst
noncomputable def sGoN (PT : List sMd) (SM : List sIn) (n : Nat) : sRun := Nat.rec (fun _ _ _ _ => none) (fun _ R => sStep PT (sClS PT SM R) R) n
theorem sGoN_succ (PT : List sMd) (SM : List sIn) (n : Nat) : sGoN PT SM (n + 1) = sStep PT (sClS PT SM (sGoN PT SM n)) (sGoN PT SM n) := rfl
theorem sGoN_ok {PT : List sMd} {SM : List sIn} (hPT : sOkP PT) (hS : ∀ I ∈ SM, sInOk PT I) : ∀ n : Nat, sSnd PT (sGoN PT SM n)
  | 0 => fun d mi cuts S r h => by cases h
  | n + 1 => by
    rw [sGoN_succ]
    exact sStep_ok hPT (sGoN_ok hPT hS n) (sClS_ok hPT hS (sGoN_ok hPT hS n))
/-! ===== loops: places where ways meet, and what falls on each way ===== -/
abbrev sMs : Type := List (Bool × sV)
abbrev sCu : Type := Nat × sCx × List sFc × List sC × sM × List sV × sMs
def sMv1 (ρ : List Int) (q : Bool × sV) : Nat := match sEv ρ q.2 with
  | some n => min (if q.1 = true then (n + 2147483648).toNat else (2147483648 - n).toNat) 4294967296
  | none => 0
def sMu (ρ : List Int) : sMs → Nat
  | [] => 0
  | q :: t => sMv1 ρ q * 4294967297 ^ t.length + sMu ρ t
theorem sMv1_le (ρ : List Int) (q : Bool × sV) : sMv1 ρ q ≤ 4294967296 := by
  unfold sMv1
  split
  · exact Nat.min_le_right _ _
  · exact Nat.zero_le _
theorem sMu_lt (ρ : List Int) : ∀ m : sMs, sMu ρ m < 4294967297 ^ m.length
  | [] => by simp [sMu]
  | q :: t => by
    have h1 := sMu_lt ρ t
    have h2 := sMv1_le ρ q
    simp only [sMu, List.length_cons, Nat.pow_succ]
    have h3 : sMv1 ρ q * 4294967297 ^ t.length ≤ 4294967296 * 4294967297 ^ t.length := Nat.mul_le_mul_right _ h2
    rw [Nat.mul_comm (4294967297 ^ t.length)]
    omega
def sGe (c : Option Int) (b : Int) : Bool := match c with
  | some z => decide (b ≤ z)
  | none => false
/-- it falls: by the first where it differs -/
def sLex (κ : sCx) : sMs → sMs → Bool
  | (d, x) :: t, (d', y) :: t' => decide (d = d') && (Nat.beq t.length t'.length && ((sRg κ.2.1 x).isSome && ((sRg κ.2.1 y).isSome && (sDef κ.1 x && (sDef κ.1 y && (match (if d = true then sDm κ.2.1 κ.2.2 5 x y else sDm κ.2.1 κ.2.2 5 y x) with
    | some c => decide (1 ≤ c) || (decide (0 ≤ c) && sLex κ t t')
    | none => false))))))
  | _, _ => false
theorem sLex_ok {ρ : List Int} {κ : sCx} (hs : sCok ρ κ) : ∀ (a b : sMs), sLex κ a b = true → sMu ρ b < sMu ρ a ∧ a.length = b.length
  | [], _, h => by cases h
  | _ :: _, [], h => by cases h
  | (d, x) :: t, (d', y) :: t', h => by
    simp only [sLex, Bool.and_eq_true, decide_eq_true_eq] at h
    obtain ⟨rfl, hl, rx, ry, dx, dy, h⟩ := h
    have hl := Nat.eq_of_beq_eq_true hl
    obtain ⟨m, hm⟩ := sDef_ev hs.1 dx
    obtain ⟨n, hn⟩ := sDef_ev hs.1 dy
    obtain ⟨qx, hqx⟩ := Option.isSome_iff_exists.mp rx
    obtain ⟨qy, hqy⟩ := Option.isSome_iff_exists.mp ry
    obtain ⟨-, -, im⟩ := sRg_ev (lo := qx.1) (hi := qx.2) hs.1 hm hqx
    obtain ⟨-, -, in_⟩ := sRg_ev (lo := qy.1) (hi := qy.2) hs.1 hn hqy
    rw [sI_iff] at im in_
    refine ⟨?_, by simp [hl]⟩
    split at h
    · rename_i c hc
      simp only [Bool.or_eq_true, Bool.and_eq_true, decide_eq_true_eq] at h
      have hx : sMv1 ρ (d, x) = if d = true then (m + 2147483648).toNat else (2147483648 - m).toNat := by
        unfold sMv1
        simp only [hm]
        apply Nat.min_eq_left
        split <;> omega
      have hy : sMv1 ρ (d, y) = if d = true then (n + 2147483648).toNat else (2147483648 - n).toNat := by
        unfold sMv1
        simp only [hn]
        apply Nat.min_eq_left
        split <;> omega
      have hd : (if d = true then m - n else n - m) ≥ c := by
        cases d with
        | true => exact sDm_ok hs.1 hs.2 5 hm hn hc
        | false => exact sDm_ok hs.1 hs.2 5 hn hm hc
      simp only [sMu]
      rw [← hl]
      have hb := sMu_lt ρ t'
      rw [← hl] at hb
      have hlt : 1 ≤ c → sMv1 ρ (d, y) + 1 ≤ sMv1 ρ (d, x) := fun h1 => by
        rw [hx, hy]
        cases d with
        | true => simp only [if_true] at hd ⊢; omega
        | false => simp only [Bool.false_eq_true, if_false] at hd ⊢; omega
      have hle : 0 ≤ c → sMv1 ρ (d, y) ≤ sMv1 ρ (d, x) := fun h1 => by
        rw [hx, hy]
        cases d with
        | true => simp only [if_true] at hd ⊢; omega
        | false => simp only [Bool.false_eq_true, if_false] at hd ⊢; omega
      rcases h with h | h
      · have h3 := Nat.mul_le_mul_right (4294967297 ^ t.length) (hlt h)
        rw [Nat.add_mul] at h3
        omega
      · have h3 := Nat.mul_le_mul_right (4294967297 ^ t.length) (hle h.1)
        have h4 := (sLex_ok hs t t' h.2).1
        omega
    · cases h
def sMsb (k0 : Nat) (sg : List sV) : sMs → Option sMs
  | [] => some []
  | (d, y) :: t => match sSb k0 sg y, sMsb k0 sg t with
    | some y', some r => if sK y' = 0 then some ((d, y') :: r) else none
    | _, _ => none
theorem sMsb_ok {ρ : List Int} {κ : sCx} {k0 : Nat} {sg : List sV} (hs : sCok ρ κ) (h : sSgO κ k0 sg = true) : ∀ (m m' : sMs), sMsb k0 sg m = some m' → sMu (sRz ρ k0 sg) m = sMu ρ m' ∧ m.length = m'.length
  | [], m', e => by
    cases e
    exact ⟨rfl, rfl⟩
  | (d, y) :: t, m', e => by
    simp only [sMsb] at e
    split at e
    · rename_i y' r h1 h2
      split at e
      · rename_i hk
        cases e
        obtain ⟨e1, e2⟩ := sMsb_ok hs h t r h2
        obtain ⟨q1, -, q3, -⟩ := sSb_ok hs h h1
        obtain ⟨n, hn⟩ := q3 hk
        refine ⟨?_, by simp [e2]⟩
        simp only [sMu]
        rw [e1, e2]
        unfold sMv1
        simp only [q1 n hn, hn]
      · cases e
    · cases e
theorem sMu_mono {ρ ρ' : List Int} (hp : ρ <+: ρ') {nx : Nat} {env : sE} (hs : sOk ρ nx env) : ∀ m : sMs, (m.all fun q => sDef nx q.2) = true → sMu ρ' m = sMu ρ m
  | [], _ => rfl
  | (d, x) :: t, h => by
    simp only [List.all_cons, Bool.and_eq_true] at h
    obtain ⟨n, hn⟩ := sDef_ev hs h.1
    simp only [sMu]
    rw [sMu_mono hp hs t h.2]
    unfold sMv1
    simp only [hn, sEv_mono hp hn]
end
