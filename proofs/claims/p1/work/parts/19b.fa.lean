/-! ===== the same walker in small pieces, cheap for the kernel ===== -/
noncomputable def fB {α : Type} (b : Bool) (t e : α) : α := Bool.rec (motive := fun _ => α) e t b
noncomputable def fL {α β : Type} (l : List β) (e : α) (k : β → List β → α) : α := List.rec (motive := fun _ => α) e (fun x t _ => k x t) l
noncomputable def fV {α : Type} (x : sV) (k : Nat → Int → α) : α := Prod.rec (motive := fun _ => α) k x
noncomputable def fO {α β : Type} (o : Option β) (e : α) (k : β → α) : α := Option.rec (motive := fun _ => α) e k o
theorem fB_eq {α : Type} {a b : Nat} {x y : α} (h : a = b) : fB (Nat.beq a b) x y = x := by
  subst h
  rw [Nat.beq_refl]
  rfl
theorem fB_ne {α : Type} {a b : Nat} {x y : α} (h : a ≠ b) : fB (Nat.beq a b) x y = y := by
  have hb : Nat.beq a b = false := by
    cases q : Nat.beq a b with
    | false => rfl
    | true => exact absurd (Nat.eq_of_beq_eq_true q) h
  rw [hb]
  rfl
theorem fB_le {α : Type} {a b : Nat} {x y : α} (h : a ≤ b) : fB (Nat.ble a b) x y = x := by
  rw [Nat.ble_eq_true_of_le h]
  rfl
theorem fB_gt {α : Type} {a b : Nat} {x y : α} (h : ¬ a ≤ b) : fB (Nat.ble a b) x y = y := by
  have hb : Nat.ble a b = false := by
    cases q : Nat.ble a b with
    | false => rfl
    | true => exact absurd (Nat.le_of_ble_eq_true q) h
  rw [hb]
  rfl
noncomputable def fK (t : Nat) : Nat := fB (Nat.beq t 0) 0 (fB (Nat.beq t 3) 2 (fB (Nat.beq t 4) 0 (fB (Nat.beq t 1) 1 (fB (Nat.beq t 2) 3 (fB (Nat.beq t 5) 1 (fB (Nat.beq t 6) 0 2))))))
theorem fK_eq (t : Nat) (z : Int) : fK t = sK (t, z) := by
  rcases t with _ | _ | _ | _ | _ | _ | _ | t <;> rfl
/-! ### lists -/
noncomputable def fGet (lv : sM) (i : Nat) : Option sV := List.rec (motive := fun _ => Option sV) none (fun q _ ih => Prod.rec (motive := fun _ => Option sV) (fun j x => fB (Nat.beq j i) (some x) ih) q) lv
theorem fGet_eq (i : Nat) : ∀ lv : sM, fGet lv i = sGet lv i
  | [] => rfl
  | (j, x) :: t => by
    have e : fGet ((j, x) :: t) i = fB (Nat.beq j i) (some x) (fGet t i) := rfl
    rw [e, fGet_eq i t]
    by_cases h : j = i
    · rw [fB_eq h]
      simp [sGet, h]
    · rw [fB_ne h]
      simp [sGet, h]
noncomputable def fAt {β : Type} (l : List β) (n : Nat) : Option β := List.rec (motive := fun _ => Nat → Option β) (fun _ => none) (fun x _ ih n => Nat.rec (motive := fun _ => Option β) (some x) (fun m _ => ih m) n) l n
theorem fAt_eq {β : Type} : ∀ (l : List β) (n : Nat), fAt l n = l[n]?
  | [], _ => rfl
  | _ :: _, 0 => rfl
  | _ :: t, n + 1 => by
    have e := fAt_eq t n
    rw [List.getElem?_cons_succ, ← e]
    rfl
noncomputable def fSet {α β : Type} (l : List β) (n : Nat) (x : β) (k : List β → α) : α := List.rec (motive := fun _ => Nat → (List β → α) → α) (fun _ k => k []) (fun y t ih n k => Nat.rec (motive := fun _ => α) (k (x :: t)) (fun m _ => ih m (fun l => k (y :: l))) n) l n k
theorem fSet_eq {α β : Type} (x : β) : ∀ (l : List β) (n : Nat) (k : List β → α), fSet l n x k = k (l.set n x)
  | [], _, _ => rfl
  | _ :: _, 0, _ => rfl
  | y :: t, n + 1, k => fSet_eq x t n (fun l => k (y :: l))
noncomputable def fFlt {α : Type} (lv : sM) (i : Nat) (k : sM → α) : α := List.rec (motive := fun _ => (sM → α) → α) (fun k => k []) (fun q _ ih k => Prod.rec (motive := fun _ => α) (fun j y => fB (Nat.beq j i) (ih k) (fB (Nat.beq (Nat.succ j) i) (fV y (fun t _ => fB (Nat.beq (fK t) 1) (ih k) (ih (fun l => k ((j, y) :: l))))) (ih (fun l => k ((j, y) :: l))))) q) lv k
theorem fFlt_eq {α : Type} (i : Nat) : ∀ (lv : sM) (k : sM → α), fFlt lv i k = k (lv.filter (fun q => !(q.1 == i) && !(q.1 + 1 == i && sK q.2 == 1)))
  | [], _ => rfl
  | (j, (t, z)) :: r, k => by
    have e : fFlt ((j, (t, z)) :: r) i k = fB (Nat.beq j i) (fFlt r i k) (fB (Nat.beq (Nat.succ j) i) (fB (Nat.beq (fK t) 1) (fFlt r i k) (fFlt r i (fun l => k ((j, (t, z)) :: l)))) (fFlt r i (fun l => k ((j, (t, z)) :: l)))) := rfl
    rw [e, fFlt_eq i r, fFlt_eq i r, List.filter_cons, fK_eq t z]
    by_cases h : j = i
    · rw [fB_eq h]
      simp [h]
    · rw [fB_ne h]
      by_cases h1 : Nat.succ j = i
      · rw [fB_eq h1]
        have h1' : j + 1 = i := h1
        by_cases h2 : sK (t, z) = 1
        · rw [fB_eq h2]
          simp [h1', h2]
        · rw [fB_ne h2]
          simp [h, h2]
      · rw [fB_ne h1]
        have h1' : ¬ j + 1 = i := h1
        simp [h, h1']
noncomputable def fPut {α : Type} (lv : sM) (i : Nat) (x : sV) (k : sM → α) : α := fFlt lv i (fun l => k ((i, x) :: l))
theorem fPut_eq {α : Type} {lv : sM} {i : Nat} {x : sV} {k : sM → α} : fPut lv i x k = k (sPut1 lv i x) := by
  unfold fPut
  rw [fFlt_eq]
  rfl
noncomputable def fOv {α : Type} (ov : List (Nat × sV)) (i : Nat) (k : List (Nat × sV) → α) : α := List.rec (motive := fun _ => (List (Nat × sV) → α) → α) (fun k => k []) (fun q _ ih k => Prod.rec (motive := fun _ => α) (fun j y => fB (Nat.beq j i) (ih k) (ih (fun l => k ((j, y) :: l)))) q) ov k
theorem fOv_eq {α : Type} (i : Nat) : ∀ (ov : List (Nat × sV)) (k : List (Nat × sV) → α), fOv ov i k = k (ov.filter (fun q => !(q.1 == i)))
  | [], _ => rfl
  | (j, y) :: r, k => by
    have e : fOv ((j, y) :: r) i k = fB (Nat.beq j i) (fOv r i k) (fOv r i (fun l => k ((j, y) :: l))) := rfl
    rw [e, fOv_eq i r, fOv_eq i r, List.filter_cons]
    by_cases h : j = i
    · rw [fB_eq h]
      simp [h]
    · rw [fB_ne h]
      simp [h]
noncomputable def fLk (d : sV) (ov : List (Nat × sV)) (j : Nat) : sV := List.rec (motive := fun _ => sV) d (fun q _ ih => Prod.rec (motive := fun _ => sV) (fun i x => fB (Nat.beq i j) x ih) q) ov
theorem fLk_eq (d : sV) (j : Nat) : ∀ ov : List (Nat × sV), fLk d ov j = sLook d ov j
  | [] => rfl
  | (i, x) :: t => by
    have e : fLk d ((i, x) :: t) j = fB (Nat.beq i j) x (fLk d t j) := rfl
    rw [e, fLk_eq d j t]
    by_cases h : i = j
    · rw [fB_eq h]
      simp [sLook, h]
    · rw [fB_ne h]
      simp [sLook, h]
/-! ### whole numbers -/
noncomputable def fZ {α : Type} (z : Int) (p : Nat → α) (q : Nat → α) : α := Int.rec (motive := fun _ => α) p q z
noncomputable def fFN {α : Type} (n : Nat) (k : Nat → α) : α := Nat.rec (motive := fun _ => α) (k Nat.zero) (fun m _ => k (Nat.succ m)) n
theorem fFN_eq {α : Type} (n : Nat) (k : Nat → α) : fFN n k = k n := by
  cases n <;> rfl
noncomputable def fFI {α : Type} (z : Int) (k : Int → α) : α := fZ z (fun n => fFN n (fun m => k (Int.ofNat m))) (fun n => fFN n (fun m => k (Int.negSucc m)))
theorem fFI_eq {α : Type} (z : Int) (k : Int → α) : fFI z k = k z := by
  cases z with
  | ofNat n => exact fFN_eq n (fun m => k (Int.ofNat m))
  | negSucc n => exact fFN_eq n (fun m => k (Int.negSucc m))
noncomputable def fI (z : Int) : Bool := fZ z (fun n => Nat.ble n 2147483647) (fun n => Nat.ble n 2147483647)
theorem fI_eq (z : Int) : fI z = sI z := by
  cases z with
  | ofNat n =>
    show Nat.ble n 2147483647 = (decide (-2147483648 ≤ (Int.ofNat n)) && decide (Int.ofNat n ≤ 2147483647))
    by_cases h : n ≤ 2147483647
    · have a : -2147483648 ≤ Int.ofNat n := by simp only [Int.ofNat_eq_natCast]; omega
      have b : Int.ofNat n ≤ 2147483647 := by simp only [Int.ofNat_eq_natCast]; omega
      rw [Nat.ble_eq_true_of_le h, decide_eq_true a, decide_eq_true b]
      rfl
    · have b : ¬ Int.ofNat n ≤ 2147483647 := by simp only [Int.ofNat_eq_natCast]; omega
      rw [decide_eq_false b, Bool.and_false]
      cases q : Nat.ble n 2147483647 with
      | false => rfl
      | true => exact absurd (Nat.le_of_ble_eq_true q) h
  | negSucc n =>
    show Nat.ble n 2147483647 = (decide (-2147483648 ≤ (Int.negSucc n)) && decide (Int.negSucc n ≤ 2147483647))
    by_cases h : n ≤ 2147483647
    · have a : -2147483648 ≤ Int.negSucc n := by omega
      have b : Int.negSucc n ≤ 2147483647 := by omega
      rw [Nat.ble_eq_true_of_le h, decide_eq_true a, decide_eq_true b]
      rfl
    · have b : ¬ -2147483648 ≤ Int.negSucc n := by omega
      rw [decide_eq_false b, Bool.false_and]
      cases q : Nat.ble n 2147483647 with
      | false => rfl
      | true => exact absurd (Nat.le_of_ble_eq_true q) h
noncomputable def fWr {α : Type} (z : Int) (k : Int → α) : α := fFI (fB (fI z) z (Int32.ofInt z).toInt) k
theorem fWr_eq {α : Type} (z : Int) (k : Int → α) : fWr z k = k (sW z) := by
  unfold fWr sW
  rw [fFI_eq, fI_eq]
  cases sI z <;> rfl
noncomputable def fLe (x y : Int) : Bool := fZ x (fun m => fZ y (fun n => Nat.ble m n) (fun _ => false)) (fun m => fZ y (fun _ => true) (fun n => Nat.ble n m))
theorem fLe_eq (x y : Int) : fLe x y = decide (x ≤ y) := by
  have hb : ∀ a b : Nat, Nat.ble a b = decide (a ≤ b) := by
    intro a b
    by_cases h : a ≤ b
    · rw [Nat.ble_eq_true_of_le h, decide_eq_true h]
    · rw [decide_eq_false h]
      cases q : Nat.ble a b with
      | false => rfl
      | true => exact absurd (Nat.le_of_ble_eq_true q) h
  cases x with
  | ofNat m =>
    cases y with
    | ofNat n =>
      show Nat.ble m n = _
      rw [hb]
      apply decide_eq_decide.mpr
      simp only [Int.ofNat_eq_natCast]
      omega
    | negSucc n =>
      show false = _
      rw [decide_eq_false]
      simp only [Int.ofNat_eq_natCast]
      omega
  | negSucc m =>
    cases y with
    | ofNat n =>
      show true = _
      rw [decide_eq_true]
      simp only [Int.ofNat_eq_natCast]
      omega
    | negSucc n =>
      show Nat.ble n m = _
      rw [hb]
      apply decide_eq_decide.mpr
      omega
noncomputable def fTn (z : Int) : Nat := fZ z (fun n => n) (fun _ => 0)
theorem fTn_eq (z : Int) : fTn z = z.toNat := by
  cases z <;> rfl
noncomputable def fEq (x y : Int) : Bool := fB (fLe x y) (fLe y x) false
theorem fEq_eq (x y : Int) : fEq x y = decide (x = y) := by
  unfold fEq
  rw [fLe_eq, fLe_eq]
  by_cases h : x ≤ y
  · rw [decide_eq_true h]
    show decide (y ≤ x) = decide (x = y)
    apply decide_eq_decide.mpr
    omega
  · rw [decide_eq_false h]
    show false = decide (x = y)
    rw [decide_eq_false]
    omega
/-- a condition by its number -/
def fCn (a : Nat) : sCn := match a with
  | 0 => .eq
  | 1 => .ne
  | 2 => .lt
  | 3 => .ge
  | 4 => .gt
  | _ => .le
noncomputable def fCb (a : Nat) (x y : Int) : Bool := fB (Nat.beq a 0) (fEq x y) (fB (Nat.beq a 1) (fB (fEq x y) false true) (fB (Nat.beq a 2) (fB (fLe y x) false true) (fB (Nat.beq a 3) (fLe y x) (fB (Nat.beq a 4) (fB (fLe x y) false true) (fLe x y)))))
theorem fNo (b : Bool) : fB b false true = !b := by
  cases b <;> rfl
theorem fCb_eq (a : Nat) (x y : Int) : fCb a x y = sCb (fCn a) x y := by
  rcases a with _ | _ | _ | _ | _ | a
  · exact fEq_eq x y
  · show fB (fEq x y) false true = decide (x ≠ y)
    rw [fNo, fEq_eq, ← decide_not]
  · show fB (fLe y x) false true = decide (x < y)
    rw [fNo, fLe_eq, ← decide_not]
    apply decide_eq_decide.mpr
    omega
  · exact fLe_eq y x
  · show fB (fLe x y) false true = decide (y < x)
    rw [fNo, fLe_eq, ← decide_not]
    apply decide_eq_decide.mpr
    omega
  · exact fLe_eq x y
