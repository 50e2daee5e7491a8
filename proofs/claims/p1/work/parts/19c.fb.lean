/-! ### single instructions, each with a way out where it doesn't apply -/
noncomputable def fLd {α : Type} (a b nx : Nat) (lv : sM) (st : List sV) (K : Nat → sM → List sV → α) (e : α) : α := fO (fGet lv b) e (fun x => fV x (fun t _ => fB (Nat.beq (fK t) a) (K nx lv (x :: st)) e))
theorem fLd_ok {α : Type} {a b nx : Nat} {lv : sM} {st : List sV} {K : Nat → sM → List sV → α} {e : α} : (∃ x, sGet lv b = some x ∧ sK x = a ∧ fLd a b nx lv st K e = K nx lv (x :: st)) ∨ fLd a b nx lv st K e = e := by
  unfold fLd
  rw [fGet_eq]
  cases sGet lv b with
  | none => exact .inr rfl
  | some x =>
    obtain ⟨t, z⟩ := x
    show (∃ x, some (t, z) = some x ∧ sK x = a ∧ fB (Nat.beq (fK t) a) (K nx lv ((t, z) :: st)) e = _) ∨ fB (Nat.beq (fK t) a) (K nx lv ((t, z) :: st)) e = e
    by_cases h : fK t = a
    · exact .inl ⟨(t, z), rfl, (fK_eq t z).symm.trans h, fB_eq h⟩
    · exact .inr (fB_ne h)
noncomputable def fSt {α : Type} (a b nx : Nat) (lv : sM) (st : List sV) (K : Nat → sM → List sV → α) (e : α) : α := fL st e (fun x r => fV x (fun t _ => fB (Nat.beq (fK t) a) (fPut lv b x (fun l => K nx l r)) e))
theorem fSt_ok {α : Type} {a b nx : Nat} {lv : sM} {st : List sV} {K : Nat → sM → List sV → α} {e : α} : (∃ x r, st = x :: r ∧ sK x = a ∧ fSt a b nx lv st K e = K nx (sPut1 lv b x) r) ∨ fSt a b nx lv st K e = e := by
  cases st with
  | nil => exact .inr rfl
  | cons x r =>
    obtain ⟨t, z⟩ := x
    have e1 : fSt a b nx lv ((t, z) :: r) K e = fB (Nat.beq (fK t) a) (fPut lv b (t, z) (fun l => K nx l r)) e := rfl
    rw [e1, fPut_eq]
    by_cases h : fK t = a
    · exact .inl ⟨(t, z), r, rfl, (fK_eq t z).symm.trans h, fB_eq h⟩
    · exact .inr (fB_ne h)
noncomputable def fInc {α : Type} (a nx : Nat) (n : Int) (lv : sM) (st : List sV) (K : Nat → sM → List sV → α) (e : α) : α := fO (fGet lv a) e (fun x => fV x (fun t z => fB (Nat.beq t 0) (fWr (z + n) (fun z' => fPut lv a (0, z') (fun l => K nx l st))) e))
theorem fInc_ok {α : Type} {a nx : Nat} {n : Int} {lv : sM} {st : List sV} {K : Nat → sM → List sV → α} {e : α} : (∃ z, sGet lv a = some (0, z) ∧ fInc a nx n lv st K e = K nx (sPut1 lv a (0, sW (z + n))) st) ∨ fInc a nx n lv st K e = e := by
  unfold fInc
  rw [fGet_eq]
  cases sGet lv a with
  | none => exact .inr rfl
  | some x =>
    obtain ⟨t, z⟩ := x
    have e1 : fO (some (t, z)) e (fun x => fV x (fun t z => fB (Nat.beq t 0) (fWr (z + n) (fun z' => fPut lv a (0, z') (fun l => K nx l st))) e)) = fB (Nat.beq t 0) (fWr (z + n) (fun z' => fPut lv a (0, z') (fun l => K nx l st))) e := rfl
    rw [e1, fWr_eq, fPut_eq]
    by_cases h : t = 0
    · subst h
      exact .inl ⟨z, rfl, fB_eq rfl⟩
    · exact .inr (fB_ne h)
noncomputable def f22 {α : Type} (st : List sV) (K : Int → Int → List sV → α) (e : α) : α := fL st e (fun y r1 => fL r1 e (fun x r => fV y (fun ty zy => fV x (fun tx zx => fB (Nat.beq ty 0) (fB (Nat.beq tx 0) (K zx zy r) e) e))))
theorem f22_ok {α : Type} {st : List sV} {K : Int → Int → List sV → α} {e : α} : (∃ x y r, st = (0, y) :: (0, x) :: r ∧ f22 st K e = K x y r) ∨ f22 st K e = e := by
  rcases st with _ | ⟨⟨ty, zy⟩, _ | ⟨⟨tx, zx⟩, r⟩⟩
  · exact .inr rfl
  · exact .inr rfl
  · have e1 : f22 ((ty, zy) :: (tx, zx) :: r) K e = fB (Nat.beq ty 0) (fB (Nat.beq tx 0) (K zx zy r) e) e := rfl
    rw [e1]
    by_cases h : ty = 0
    · rw [fB_eq h]
      by_cases h2 : tx = 0
      · rw [fB_eq h2]
        subst h h2
        exact .inl ⟨zx, zy, r, rfl, rfl⟩
      · exact .inr (fB_ne h2)
    · exact .inr (fB_ne h)
noncomputable def fOp (a : Nat) (x y : Int) : Int := fB (Nat.beq a 0) (x + y) (fB (Nat.beq a 1) (x - y) (x * y))
noncomputable def fBin {α : Type} (a nx : Nat) (lv : sM) (st : List sV) (K : Nat → sM → List sV → α) (e : α) : α := f22 st (fun x y r => fWr (fOp a x y) (fun z => K nx lv ((0, z) :: r))) e
theorem fBin_ok {α : Type} {a nx : Nat} {lv : sM} {st : List sV} {K : Nat → sM → List sV → α} {e : α} : (∃ x y r, st = (0, y) :: (0, x) :: r ∧ fBin a nx lv st K e = K nx lv ((0, sW (fOp a x y)) :: r)) ∨ fBin a nx lv st K e = e := by
  rcases f22_ok (st := st) (K := fun x y r => fWr (fOp a x y) (fun z => K nx lv ((0, z) :: r))) (e := e) with ⟨x, y, r, h1, h2⟩ | h
  · exact .inl ⟨x, y, r, h1, h2.trans (fWr_eq _ _)⟩
  · exact .inr h
noncomputable def fCp {α : Type} (a : Nat) (x y : Int) (t f e : α) : α := fB (fI x) (fB (fI y) (fB (fCb a x y) t f) e) e
theorem fCp_ok {α : Type} {a : Nat} {x y : Int} {t f e : α} : (sI x = true ∧ sI y = true ∧ ((sCb (fCn a) x y = true ∧ fCp a x y t f e = t) ∨ (sCb (fCn a) x y = false ∧ fCp a x y t f e = f))) ∨ fCp a x y t f e = e := by
  unfold fCp
  rw [fI_eq, fI_eq, fCb_eq]
  cases sI x with
  | false => exact .inr rfl
  | true =>
    cases sI y with
    | false => exact .inr rfl
    | true =>
      cases sCb (fCn a) x y with
      | false => exact .inl ⟨rfl, rfl, .inr ⟨rfl, rfl⟩⟩
      | true => exact .inl ⟨rfl, rfl, .inl ⟨rfl, rfl⟩⟩
noncomputable def fIf2 {α : Type} (a t nx : Nat) (st : List sV) (K : Nat → List sV → α) (e : α) : α := f22 st (fun x y r => fCp a x y (K t r) (K nx r) e) e
noncomputable def fIf1 {α : Type} (a t nx : Nat) (st : List sV) (K : Nat → List sV → α) (e : α) : α := fL st e (fun x r => fV x (fun tx z => fB (Nat.beq tx 0) (fCp a z 0 (K t r) (K nx r) e) e))
/-- the cell that a value names -/
noncomputable def fCl {α : Type} (wd : List sC) (x : sV) (o : Int → Nat → List sV → α) (w : Int → Nat → Nat → List (Nat × sV) → α) (e : α) : α := fV x (fun t r => fB (Nat.beq t 3) (fO (fAt wd (fTn r)) e (fun c => Sum.rec (motive := fun _ => α) (fun q => Prod.rec (motive := fun _ => α) (fun ci fs => o r ci fs) q) (fun q => Prod.rec (motive := fun _ => α) (fun tg p => Prod.rec (motive := fun _ => α) (fun n ov => w r tg n ov) p) q) c)) e)
theorem fCl_ok {α : Type} {wd : List sC} {x : sV} {o : Int → Nat → List sV → α} {w : Int → Nat → Nat → List (Nat × sV) → α} {e : α} : (∃ r ci fs, x = (3, r) ∧ wd[r.toNat]? = some (.inl (ci, fs)) ∧ fCl wd x o w e = o r ci fs) ∨ (∃ r tg n ov, x = (3, r) ∧ wd[r.toNat]? = some (.inr (tg, n, ov)) ∧ fCl wd x o w e = w r tg n ov) ∨ fCl wd x o w e = e := by
  obtain ⟨t, r⟩ := x
  by_cases h : t = 3
  · subst h
    have e1 : fCl wd (3, r) o w e = fO (fAt wd (fTn r)) e (fun c => Sum.rec (motive := fun _ => α) (fun q => Prod.rec (motive := fun _ => α) (fun ci fs => o r ci fs) q) (fun q => Prod.rec (motive := fun _ => α) (fun tg p => Prod.rec (motive := fun _ => α) (fun n ov => w r tg n ov) p) q) c) := rfl
    rw [e1, fAt_eq, fTn_eq]
    cases hc : wd[r.toNat]? with
    | none => exact .inr (.inr rfl)
    | some c =>
      rcases c with ⟨ci, fs⟩ | ⟨tg, n, ov⟩
      · exact .inl ⟨r, ci, fs, rfl, hc, rfl⟩
      · exact .inr (.inl ⟨r, tg, n, ov, rfl, hc, rfl⟩)
  · exact .inr (.inr (fB_ne h))
noncomputable def fGf {α : Type} (a b nx : Nat) (wd : List sC) (st : List sV) (K : Nat → List sV → α) (e : α) : α := fL st e (fun x t => fCl wd x (fun _ ci fs => fB (Nat.beq ci a) (fO (fAt fs b) e (fun v => K nx (v :: t))) e) (fun _ _ _ _ => e) e)
theorem fGf_ok {α : Type} {a b nx : Nat} {wd : List sC} {st : List sV} {K : Nat → List sV → α} {e : α} : (∃ r fs t v, st = (3, r) :: t ∧ wd[r.toNat]? = some (.inl (a, fs)) ∧ fs[b]? = some v ∧ fGf a b nx wd st K e = K nx (v :: t)) ∨ fGf a b nx wd st K e = e := by
  cases st with
  | nil => exact .inr rfl
  | cons x t =>
    have e1 : fGf a b nx wd (x :: t) K e = fCl wd x (fun _ ci fs => fB (Nat.beq ci a) (fO (fAt fs b) e (fun v => K nx (v :: t))) e) (fun _ _ _ _ => e) e := rfl
    rw [e1]
    rcases fCl_ok (wd := wd) (x := x) (o := fun _ ci fs => fB (Nat.beq ci a) (fO (fAt fs b) e (fun v => K nx (v :: t))) e) (w := fun _ _ _ _ => e) (e := e) with ⟨r, ci, fs, rfl, hc, he⟩ | ⟨r, tg, n, ov, rfl, hc, he⟩ | he
    · rw [he]
      by_cases h : ci = a
      · subst h
        rw [fB_eq rfl, fAt_eq]
        cases hv : fs[b]? with
        | none => exact .inr rfl
        | some v => exact .inl ⟨r, fs, t, v, rfl, hc, hv, rfl⟩
      · exact .inr (fB_ne h)
    · exact .inr he
    · exact .inr he
noncomputable def fLn {α : Type} (nx : Nat) (wd : List sC) (st : List sV) (K : Nat → List sV → α) (e : α) : α := fL st e (fun x t => fCl wd x (fun _ _ _ => e) (fun _ _ n _ => K nx ((0, Int.ofNat n) :: t)) e)
theorem fLn_ok {α : Type} {nx : Nat} {wd : List sC} {st : List sV} {K : Nat → List sV → α} {e : α} : (∃ r tg n ov t, st = (3, r) :: t ∧ wd[r.toNat]? = some (.inr (tg, n, ov)) ∧ fLn nx wd st K e = K nx ((0, Int.ofNat n) :: t)) ∨ fLn nx wd st K e = e := by
  cases st with
  | nil => exact .inr rfl
  | cons x t =>
    have e1 : fLn nx wd (x :: t) K e = fCl wd x (fun _ _ _ => e) (fun _ _ n _ => K nx ((0, Int.ofNat n) :: t)) e := rfl
    rw [e1]
    rcases fCl_ok (wd := wd) (x := x) (o := fun _ _ _ => e) (w := fun _ _ n _ => K nx ((0, Int.ofNat n) :: t)) (e := e) with ⟨r, ci, fs, rfl, hc, he⟩ | ⟨r, tg, n, ov, rfl, hc, he⟩ | he
    · exact .inr he
    · exact .inl ⟨r, tg, n, ov, t, rfl, hc, he⟩
    · exact .inr he
/-- a known place of a row -/
noncomputable def fIx {α : Type} (x : sV) (n : Nat) (K : Nat → α) (e : α) : α := fV x (fun t z => fB (Nat.beq t 0) (fZ z (fun j => fB (Nat.ble (Nat.succ j) n) (fB (Nat.ble n 100000) (fFN j K) e) e) (fun _ => e)) e)
theorem fIx_ok {α : Type} {x : sV} {n : Nat} {K : Nat → α} {e : α} : (∃ j : Nat, x = (0, (j : Int)) ∧ j < n ∧ n ≤ 100000 ∧ fIx x n K e = K j) ∨ fIx x n K e = e := by
  obtain ⟨t, z⟩ := x
  by_cases h : t = 0
  · subst h
    cases z with
    | negSucc m => exact .inr rfl
    | ofNat j =>
      have e1 : fIx (0, Int.ofNat j) n K e = fB (Nat.ble (Nat.succ j) n) (fB (Nat.ble n 100000) (fFN j K) e) e := rfl
      rw [e1, fFN_eq]
      by_cases h1 : Nat.succ j ≤ n
      · rw [fB_le h1]
        by_cases h2 : n ≤ 100000
        · exact .inl ⟨j, rfl, h1, h2, fB_le h2⟩
        · exact .inr (fB_gt h2)
      · exact .inr (fB_gt h1)
  · exact .inr (fB_ne h)
theorem sIdx_of {env : sE} {j n : Nat} (h1 : j < n) (h2 : n ≤ 100000) : sIdx env (0, (j : Int)) n = some j := by
  have h : (0 : Int) ≤ (j : Int) ∧ (j : Int) < (n : Int) ∧ n ≤ 100000 := ⟨by omega, by omega, h2⟩
  simp only [sIdx, sN]
  rw [if_pos h]
  simp
noncomputable def fAl {α : Type} (a nx : Nat) (v : sV) (wd : List sC) (st : List sV) (K : Nat → List sV → α) (e : α) : α := fL st e (fun x r1 => fL r1 e (fun y t => fCl wd y (fun _ _ _ => e) (fun _ tg n ov => fB (Nat.beq tg a) (fIx x n (fun j => K nx (fLk v ov j :: t)) e) e) e))
theorem fAl_ok {α : Type} {a nx : Nat} {v : sV} {wd : List sC} {st : List sV} {K : Nat → List sV → α} {e : α} : (∃ (r : Int) (n : Nat) (ov : List (Nat × sV)) (j : Nat) (t : List sV), st = (0, (j : Int)) :: (3, r) :: t ∧ wd[r.toNat]? = some (.inr (a, n, ov)) ∧ j < n ∧ n ≤ 100000 ∧ fAl a nx v wd st K e = K nx (sLook v ov j :: t)) ∨ fAl a nx v wd st K e = e := by
  rcases st with _ | ⟨x, _ | ⟨y, t⟩⟩
  · exact .inr rfl
  · exact .inr rfl
  · have e1 : fAl a nx v wd (x :: y :: t) K e = fCl wd y (fun _ _ _ => e) (fun _ tg n ov => fB (Nat.beq tg a) (fIx x n (fun j => K nx (fLk v ov j :: t)) e) e) e := rfl
    rw [e1]
    rcases fCl_ok (wd := wd) (x := y) (o := fun _ _ _ => e) (w := fun _ tg n ov => fB (Nat.beq tg a) (fIx x n (fun j => K nx (fLk v ov j :: t)) e) e) (e := e) with ⟨r, ci, fs, rfl, hc, he⟩ | ⟨r, tg, n, ov, rfl, hc, he⟩ | he
    · exact .inr he
    · rw [he]
      by_cases h : tg = a
      · subst h
        rw [fB_eq rfl]
        rcases fIx_ok (x := x) (n := n) (K := fun j => K nx (fLk v ov j :: t)) (e := e) with ⟨j, rfl, h1, h2, h3⟩ | h3
        · refine .inl ⟨r, n, ov, j, t, rfl, hc, h1, h2, ?_⟩
          rw [h3]
          show K nx (fLk v ov j :: t) = K nx (sLook v ov j :: t)
          rw [fLk_eq]
        · exact .inr h3
      · exact .inr (fB_ne h)
    · exact .inr he
noncomputable def fAs {α : Type} (nx : Nat) (wd : List sC) (st : List sV) (K : List sC → Nat → List sV → α) (e : α) : α := fL st e (fun y r0 => fL r0 e (fun x r1 => fL r1 e (fun q t => fV y (fun ty z => fB (Nat.beq ty 0) (fCl wd q (fun _ _ _ => e) (fun r tg n ov => fB (Nat.beq tg 0) (fIx x n (fun j => fOv ov j (fun o => fSet wd (fTn r) (.inr (0, n, fB (fEq z 0) o ((j, (0, z)) :: o))) (fun w => K w nx t))) e) e) e) e))))
theorem fAs_ok {α : Type} {nx : Nat} {wd : List sC} {st : List sV} {K : List sC → Nat → List sV → α} {e : α} : (∃ (z r : Int) (n : Nat) (ov : List (Nat × sV)) (j : Nat) (t : List sV), st = (0, z) :: (0, (j : Int)) :: (3, r) :: t ∧ wd[r.toNat]? = some (.inr (0, n, ov)) ∧ j < n ∧ n ≤ 100000 ∧ fAs nx wd st K e = K (wd.set r.toNat (.inr (0, n, sASet (0, 0) ov j (0, z)))) nx t) ∨ fAs nx wd st K e = e := by
  rcases st with _ | ⟨⟨ty, z⟩, _ | ⟨x, _ | ⟨q, t⟩⟩⟩
  · exact .inr rfl
  · exact .inr rfl
  · exact .inr rfl
  · have e1 : fAs nx wd ((ty, z) :: x :: q :: t) K e = fB (Nat.beq ty 0) (fCl wd q (fun _ _ _ => e) (fun r tg n ov => fB (Nat.beq tg 0) (fIx x n (fun j => fOv ov j (fun o => fSet wd (fTn r) (.inr (0, n, fB (fEq z 0) o ((j, (0, z)) :: o))) (fun w => K w nx t))) e) e) e) e := rfl
    rw [e1]
    by_cases h0 : ty = 0
    · subst h0
      rw [fB_eq rfl]
      rcases fCl_ok (wd := wd) (x := q) (o := fun _ _ _ => e) (w := fun r tg n ov => fB (Nat.beq tg 0) (fIx x n (fun j => fOv ov j (fun o => fSet wd (fTn r) (.inr (0, n, fB (fEq z 0) o ((j, (0, z)) :: o))) (fun w => K w nx t))) e) e) (e := e) with ⟨r, ci, fs, rfl, hc, he⟩ | ⟨r, tg, n, ov, rfl, hc, he⟩ | he
      · exact .inr he
      · rw [he]
        by_cases h : tg = 0
        · subst h
          rw [fB_eq rfl]
          rcases fIx_ok (x := x) (n := n) (K := fun j => fOv ov j (fun o => fSet wd (fTn r) (.inr (0, n, fB (fEq z 0) o ((j, (0, z)) :: o))) (fun w => K w nx t))) (e := e) with ⟨j, rfl, h1, h2, h3⟩ | h3
          · refine .inl ⟨z, r, n, ov, j, t, rfl, hc, h1, h2, ?_⟩
            rw [h3]
            show fOv ov j (fun o => fSet wd (fTn r) (.inr (0, n, fB (fEq z 0) o ((j, (0, z)) :: o))) (fun w => K w nx t)) = _
            rw [fOv_eq, fSet_eq, fTn_eq, fEq_eq]
            unfold sASet
            by_cases hz : z = 0
            · subst hz
              rw [if_pos rfl]
              rfl
            · rw [if_neg (fun q => hz (Prod.mk.inj q).2), decide_eq_false hz]
              rfl
          · exact .inr h3
        · exact .inr (fB_ne h)
      · exact .inr he
    · exact .inr (fB_ne h0)
noncomputable def fFL {α : Type} (l : sM) (k : sM → α) : α := List.rec (motive := fun _ => (sM → α) → α) (fun k => k []) (fun q _ ih k => Prod.rec (motive := fun _ => α) (fun j y => fV y (fun t z => fFI z (fun z' => ih (fun l => k ((j, (t, z')) :: l))))) q) l k
theorem fFL_eq {α : Type} : ∀ (l : sM) (k : sM → α), fFL l k = k l
  | [], _ => rfl
  | (j, (t, z)) :: r, k => by
    have e1 : fFL ((j, (t, z)) :: r) k = fFI z (fun z' => fFL r (fun l => k ((j, (t, z')) :: l))) := rfl
    rw [e1, fFI_eq, fFL_eq r]
noncomputable def fFW {α : Type} (l : List sC) (k : List sC → α) : α := List.rec (motive := fun _ => (List sC → α) → α) (fun k => k []) (fun c _ ih k => Sum.rec (motive := fun _ => α) (fun q => Prod.rec (motive := fun _ => α) (fun i x => ih (fun l => k (.inl (i, x) :: l))) q) (fun q => Prod.rec (motive := fun _ => α) (fun i p => Prod.rec (motive := fun _ => α) (fun x y => ih (fun l => k (.inr (i, x, y) :: l))) p) q) c) l k
theorem fFW_eq {α : Type} : ∀ (l : List sC) (k : List sC → α), fFW l k = k l
  | [], _ => rfl
  | .inl (i, x) :: r, k => fFW_eq r (fun l => k (.inl (i, x) :: l))
  | .inr (i, x, y) :: r, k => fFW_eq r (fun l => k (.inr (i, x, y) :: l))
