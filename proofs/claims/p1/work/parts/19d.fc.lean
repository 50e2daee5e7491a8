/-! ### a row of the cheap table: what to do, three numbers, a value, and the row itself -/
abbrev fW : Type := Nat × Nat × Nat × Nat × sV × Instr × List Nat
def fCc (c : sCn) : Nat := match c with
  | .eq => 0
  | .ne => 1
  | .lt => 2
  | .ge => 3
  | .gt => 4
  | .le => 5
theorem fCc_eq (c : sCn) : fCn (fCc c) = c := by
  cases c <;> rfl
def fQ (b : Bool) (w e : fW) : fW := match b with
  | true => w
  | false => e
def fTg (pc : Nat) (off : Int) : Nat := ((pc : Int) + off).toNat
def fComp (nL : Nat) (ret : Option FieldType) (en : sEn) : fW := match en with
  | (pc, ins, len, ax) => match ins with
    | .iconst n => fQ (Nat.beq len 1) (1, 0, 0, pc + len, (0, n), ins, ax) (0, 0, 0, 0, (0, 0), ins, ax)
    | .bipush n => fQ (Nat.beq len 2) (1, 0, 0, pc + len, (0, ((Int8.ofInt n).toInt32).toInt), ins, ax) (0, 0, 0, 0, (0, 0), ins, ax)
    | .sipush n => fQ (Nat.beq len 3) (1, 0, 0, pc + len, (0, ((Int16.ofInt n).toInt32).toInt), ins, ax) (0, 0, 0, 0, (0, 0), ins, ax)
    | .aconst_null => fQ (Nat.beq len 1) (1, 0, 0, pc + len, (2, 0), ins, ax) (0, 0, 0, 0, (0, 0), ins, ax)
    | .iload_n k => fQ (Nat.beq len 1) (2, 0, k.val, pc + len, (0, 0), ins, ax) (0, 0, 0, 0, (0, 0), ins, ax)
    | .iload i => fQ (Nat.beq len 2) (2, 0, i, pc + len, (0, 0), ins, ax) (0, 0, 0, 0, (0, 0), ins, ax)
    | .aload_n k => fQ (Nat.beq len 1) (2, 2, k.val, pc + len, (0, 0), ins, ax) (0, 0, 0, 0, (0, 0), ins, ax)
    | .aload i => fQ (Nat.beq len 2) (2, 2, i, pc + len, (0, 0), ins, ax) (0, 0, 0, 0, (0, 0), ins, ax)
    | .lload_n k => fQ (Nat.beq len 1) (2, 1, k.val, pc + len, (0, 0), ins, ax) (0, 0, 0, 0, (0, 0), ins, ax)
    | .lload i => fQ (Nat.beq len 2) (2, 1, i, pc + len, (0, 0), ins, ax) (0, 0, 0, 0, (0, 0), ins, ax)
    | .istore_n k => fQ (Nat.beq len 1 && Nat.ble (k.val + 1) nL) (3, 0, k.val, pc + len, (0, 0), ins, ax) (0, 0, 0, 0, (0, 0), ins, ax)
    | .istore i => fQ (Nat.beq len 2 && Nat.ble (i + 1) nL) (3, 0, i, pc + len, (0, 0), ins, ax) (0, 0, 0, 0, (0, 0), ins, ax)
    | .astore_n k => fQ (Nat.beq len 1 && Nat.ble (k.val + 1) nL) (3, 2, k.val, pc + len, (0, 0), ins, ax) (0, 0, 0, 0, (0, 0), ins, ax)
    | .astore i => fQ (Nat.beq len 2 && Nat.ble (i + 1) nL) (3, 2, i, pc + len, (0, 0), ins, ax) (0, 0, 0, 0, (0, 0), ins, ax)
    | .iinc i n => fQ (Nat.beq len 3 && Nat.ble (i + 1) nL) (4, i, 0, pc + len, (0, n), ins, ax) (0, 0, 0, 0, (0, 0), ins, ax)
    | .iadd => fQ (Nat.beq len 1) (5, 0, 0, pc + len, (0, 0), ins, ax) (0, 0, 0, 0, (0, 0), ins, ax)
    | .isub => fQ (Nat.beq len 1) (5, 1, 0, pc + len, (0, 0), ins, ax) (0, 0, 0, 0, (0, 0), ins, ax)
    | .imul => fQ (Nat.beq len 1) (5, 2, 0, pc + len, (0, 0), ins, ax) (0, 0, 0, 0, (0, 0), ins, ax)
    | .if_icmp c off => fQ (Nat.beq len 3 && decide (0 ≤ (pc : Int) + off)) (6, fCc c, fTg pc off, pc + len, (0, 0), ins, ax) (0, 0, 0, 0, (0, 0), ins, ax)
    | .ifCond c off => fQ (Nat.beq len 3 && decide (0 ≤ (pc : Int) + off)) (7, fCc c, fTg pc off, pc + len, (0, 0), ins, ax) (0, 0, 0, 0, (0, 0), ins, ax)
    | .goto off => fQ (Nat.beq len 3 && decide (0 ≤ (pc : Int) + off)) (8, 0, 0, fTg pc off, (0, 0), ins, ax) (0, 0, 0, 0, (0, 0), ins, ax)
    | .getfield _ => (match ax with
      | [ci, k, _] => fQ (Nat.beq len 3) (9, ci, k, pc + len, (0, 0), ins, ax) (0, 0, 0, 0, (0, 0), ins, ax)
      | _ => (0, 0, 0, 0, (0, 0), ins, ax))
    | .iaload => fQ (Nat.beq len 1) (10, 0, 0, pc + len, (0, 0), ins, ax) (0, 0, 0, 0, (0, 0), ins, ax)
    | .baload => fQ (Nat.beq len 1) (10, 1, 0, pc + len, (0, 0), ins, ax) (0, 0, 0, 0, (0, 0), ins, ax)
    | .laload => fQ (Nat.beq len 1) (10, 2, 0, pc + len, (1, 0), ins, ax) (0, 0, 0, 0, (0, 0), ins, ax)
    | .iastore => fQ (Nat.beq len 1) (11, 0, 0, pc + len, (0, 0), ins, ax) (0, 0, 0, 0, (0, 0), ins, ax)
    | .arraylength => fQ (Nat.beq len 1) (12, 0, 0, pc + len, (0, 0), ins, ax) (0, 0, 0, 0, (0, 0), ins, ax)
    | .putfield _ => (15, len, 0, pc + len, (0, 0), ins, ax)
    | .new _ => (match ax with
      | 0 :: _ => (15, len, 0, pc + len, (0, 0), ins, ax)
      | _ => (0, 0, 0, 0, (0, 0), ins, ax))
    | .newarray _ => (15, len, 0, pc + len, (0, 0), ins, ax)
    | .anewarray _ => (15, len, 0, pc + len, (0, 0), ins, ax)
    | .bastore => (15, len, 0, pc + len, (0, 0), ins, ax)
    | .lastore => (15, len, 0, pc + len, (0, 0), ins, ax)
    | .aastore => (15, len, 0, pc + len, (0, 0), ins, ax)
    | .ldc _ => (15, len, 0, pc + len, (0, 0), ins, ax)
    | .ldc2_w _ => (15, len, 0, pc + len, (0, 0), ins, ax)
    | .ireturn => fQ (Nat.beq len 1) (match ret with
      | some .int => (16, 1, 0, 0, (0, 0), ins, ax)
      | some .boolean => (16, 2, 0, 0, (0, 0), ins, ax)
      | _ => (0, 0, 0, 0, (0, 0), ins, ax)) (0, 0, 0, 0, (0, 0), ins, ax)
    | .return_ => fQ (Nat.beq len 1) (match ret with
      | none => (16, 0, 0, 0, (0, 0), ins, ax)
      | _ => (0, 0, 0, 0, (0, 0), ins, ax)) (0, 0, 0, 0, (0, 0), ins, ax)
    | .invokevirtual _ => (17, len, 0, 0, (0, 0), ins, ax)
    | .invokestatic _ => (match ax with
      | [0, _, _, _] => (17, len, 0, 0, (0, 0), ins, ax)
      | [1, _, _, _] => (17, len, 0, 0, (0, 0), ins, ax)
      | _ => (0, 0, 0, 0, (0, 0), ins, ax))
    | .invokespecial _ => (match ax with
      | [0, _, _, _] => (17, len, 0, 0, (0, 0), ins, ax)
      | [1, _, _, _] => (17, len, 0, 0, (0, 0), ins, ax)
      | _ => (0, 0, 0, 0, (0, 0), ins, ax))
    | .tableswitch _ _ _ _ => (0, 0, 0, 0, (0, 0), ins, ax)
    | .lcmp => (0, 0, 0, 0, (0, 0), ins, ax)
    | _ => (14, nL, len, pc + len, (0, 0), ins, ax)
noncomputable def fCnt (R : sRun) (d mi stop : Nat) (env : sE) (wd : List sC) (nx : Nat) (lv : sM) (st : List sV) (c s : Nat) : Option sRs := fB (Nat.beq nx stop) (some ([(3, (env, wd, nx, lv, st, c, s), 0)], c, s)) (R d mi stop (env, wd, nx, lv, st, c, s))
theorem fCnt_eq {R : sRun} {d mi stop : Nat} {env : sE} {wd : List sC} {nx : Nat} {lv : sM} {st : List sV} {c s : Nat} : fCnt R d mi stop env wd nx lv st c s = sCnt R d mi stop (env, wd, nx, lv, st, c, s) := by
  unfold fCnt
  simp only [sCnt]
  by_cases h : nx = stop
  · rw [fB_eq h, if_pos h]
  · rw [fB_ne h, if_neg h]
def fRt (a : Nat) : Option FieldType := match a with
  | 0 => none
  | 1 => some .int
  | _ => some .boolean
/-- any instruction that reckons -/
noncomputable def fPg {α : Type} (env : sE) (nL len nx : Nat) (ins : Instr) (lv : sM) (st : List sV) (K : Nat → sM → List sV → α) (e : α) : α := fO (sPure env nL ins lv st) e (fun q => Prod.rec (motive := fun _ => α) (fun n p => Prod.rec (motive := fun _ => α) (fun lv' st' => fB (Nat.beq n len) (fFL lv' (fun v => K nx v st')) e) p) q)
/-- any instruction of the world -/
noncomputable def fHg {α : Type} (env : sE) (wd : List sC) (len nx : Nat) (ins : Instr) (ax : List Nat) (st : List sV) (c s : Nat) (K : List sC → Nat → List sV → Nat → Nat → α) (e : α) : α := fO (sHp env wd ins ax st) e (fun q => Prod.rec (motive := fun _ => α) (fun n p => Prod.rec (motive := fun _ => α) (fun wd' p => Prod.rec (motive := fun _ => α) (fun st' p => Prod.rec (motive := fun _ => α) (fun dc ds => fB (Nat.beq n len) (fFW wd' (fun w => fB (Nat.beq dc 0) (K w nx st' c s) (K w nx st' (c + dc) (s + ds)))) e) p) p) p) q)
noncomputable def fRe (PT : List sMd) (mi stop : Nat) (R : sRun) (d a len : Nat) (env : sE) (wd : List sC) (pc : Nat) (lv : sM) (st : List sV) (c s : Nat) (ins : Instr) (ax : List Nat) (w : Nat) (e : Option sRs) : Option sRs := fB (Nat.beq w 16) (fO (sRv (fRt a) env st) e (fun _ => some ([(0, (env, wd, pc, lv, st, c, s), 0)], c, s))) (fO PT[mi]? e (fun M => sCll PT R d mi stop (mH M) ins a ax env wd pc lv st c s))
noncomputable def fD1 (R : sRun) (d mi stop : Nat) (env : sE) (wd : List sC) (lv : sM) (st : List sV) (c s k a b nx : Nat) (v : sV) (e : Option sRs) : Option sRs := fB (Nat.beq k 2) (fLd a b nx lv st (fun nx lv st => fCnt R d mi stop env wd nx lv st c s) e) (fB (Nat.beq k 1) (fCnt R d mi stop env wd nx lv (v :: st) c s) (fB (Nat.beq k 3) (fSt a b nx lv st (fun nx lv st => fCnt R d mi stop env wd nx lv st c s) e) (fB (Nat.beq k 4) (fInc a nx v.2 lv st (fun nx lv st => fCnt R d mi stop env wd nx lv st c s) e) e)))
noncomputable def fD2 (R : sRun) (d mi stop : Nat) (env : sE) (wd : List sC) (lv : sM) (st : List sV) (c s k a b nx : Nat) (e : Option sRs) : Option sRs := fB (Nat.beq k 6) (fIf2 a b nx st (fun nx st => fCnt R d mi stop env wd nx lv st c s) e) (fB (Nat.beq k 5) (fBin a nx lv st (fun nx lv st => fCnt R d mi stop env wd nx lv st c s) e) (fB (Nat.beq k 7) (fIf1 a b nx st (fun nx st => fCnt R d mi stop env wd nx lv st c s) e) (fB (Nat.beq k 8) (fCnt R d mi stop env wd nx lv st c s) e)))
noncomputable def fD3 (R : sRun) (d mi stop : Nat) (env : sE) (wd : List sC) (lv : sM) (st : List sV) (c s k a b nx : Nat) (v : sV) (e : Option sRs) : Option sRs := fB (Nat.beq k 9) (fGf a b nx wd st (fun nx st => fCnt R d mi stop env wd nx lv st c s) e) (fB (Nat.beq k 10) (fAl a nx v wd st (fun nx st => fCnt R d mi stop env wd nx lv st c s) e) (fB (Nat.beq k 11) (fAs nx wd st (fun wd nx st => fCnt R d mi stop env wd nx lv st c s) e) (fB (Nat.beq k 12) (fLn nx wd st (fun nx st => fCnt R d mi stop env wd nx lv st c s) e) e)))
noncomputable def fD4 (R : sRun) (d mi stop : Nat) (env : sE) (wd : List sC) (lv : sM) (st : List sV) (c s k a b nx : Nat) (ins : Instr) (ax : List Nat) (e : Option sRs) : Option sRs := fB (Nat.beq k 14) (fPg env a b nx ins lv st (fun nx lv st => fCnt R d mi stop env wd nx lv st c s) e) (fB (Nat.beq k 15) (fHg env wd a nx ins ax st c s (fun wd nx st c s => fCnt R d mi stop env wd nx lv st c s) e) e)
noncomputable def fDo (PT : List sMd) (R : sRun) (d mi stop : Nat) (env : sE) (wd : List sC) (pc : Nat) (lv : sM) (st : List sV) (c s : Nat) (k a b nx : Nat) (v : sV) (ins : Instr) (ax : List Nat) (e : Option sRs) : Option sRs := fB (Nat.ble k 4) (fD1 R d mi stop env wd lv st c s k a b nx v e) (fB (Nat.ble k 8) (fD2 R d mi stop env wd lv st c s k a b nx e) (fB (Nat.ble k 12) (fD3 R d mi stop env wd lv st c s k a b nx v e) (fB (Nat.ble k 15) (fD4 R d mi stop env wd lv st c s k a b nx ins ax e) (fRe PT mi stop R d a a env wd pc lv st c s ins ax k e))))
noncomputable def fRow (PT : List sMd) (R : sRun) (d mi stop : Nat) (env : sE) (wd : List sC) (pc : Nat) (lv : sM) (st : List sV) (c s : Nat) (w : fW) : Option sRs := Prod.rec (motive := fun _ => Option sRs) (fun k p => Prod.rec (motive := fun _ => Option sRs) (fun a p => Prod.rec (motive := fun _ => Option sRs) (fun b p => Prod.rec (motive := fun _ => Option sRs) (fun nx p => Prod.rec (motive := fun _ => Option sRs) (fun v p => Prod.rec (motive := fun _ => Option sRs) (fun ins ax => fDo PT R d mi stop env wd pc lv st c s k a b nx v ins ax (sStep PT R d mi stop (env, wd, pc, lv, st, c, s))) p) p) p) p) p) w
section FSP
variable {PT : List sMd} {R : sRun} {d mi stop : Nat} {env : sE} {wd : List sC} {pc : Nat} {lv : sM} {st : List sV} {c s : Nat} {M : sMd} {ins : Instr} {len : Nat} {ax : List Nat} {r : sRs}
theorem sStep_pure {lv' : sM} {st' : List sV} (hM : PT[mi]? = some M) (hf : sFetch pc (mT M) = some (ins, len, ax)) (hp : sPure env (mL M) ins lv st = some (len, lv', st')) : sStep PT R d mi stop (env, wd, pc, lv, st, c, s) = fCnt R d mi stop env wd (pc + len) lv' st' c s := by
  unfold sStep
  simp only [hM, hf, hp, if_true, sFL_eq]
  exact fCnt_eq.symm
theorem sStep_br1 {env' : sE} {t : Nat} {st' : List sV} (hR : sSnd PT R) (hM : PT[mi]? = some M) (hf : sFetch pc (mT M) = some (ins, len, ax)) (hp : sPure env (mL M) ins lv st = none) (hb : sBr env pc len ins st = some [(env', t, st')]) (h : fCnt R d mi stop env' wd t lv st' c s = some r) : sStep PT R d mi stop (env, wd, pc, lv, st, c, s) = some r := by
  rw [fCnt_eq] at h
  have hG := sCnt_ok hR h
  obtain ⟨o, mc, ms⟩ := r
  unfold sStep
  simp only [hM, hf, hp, hb, List.map_cons, List.map_nil, h, sMrg, List.append_nil]
  have g1 : c ≤ mc := hG.1
  have g2 : s ≤ ms := hG.2.1
  rw [Nat.max_eq_right g1, Nat.max_eq_right g2]
theorem sStep_hp0 {wd' : List sC} {st' : List sV} (hM : PT[mi]? = some M) (hf : sFetch pc (mT M) = some (ins, len, ax)) (hp : sPure env (mL M) ins lv st = none) (hb : sBr env pc len ins st = none) (hh : sHp env wd ins ax st = some (len, wd', st', 0, 0)) : sStep PT R d mi stop (env, wd, pc, lv, st, c, s) = fCnt R d mi stop env wd' (pc + len) lv st' c s := by
  unfold sStep
  simp only [hM, hf, hp, hb, hh, if_true, sFW_eq]
  exact fCnt_eq.symm
theorem fo_hg (hM : PT[mi]? = some M) (hf : sFetch pc (mT M) = some (ins, len, ax)) (hp : sPure env (mL M) ins lv st = none) (hb : sBr env pc len ins st = none) (h : fHg env wd len (pc + len) ins ax st c s (fun wd nx st c s => fCnt R d mi stop env wd nx lv st c s) (sStep PT R d mi stop (env, wd, pc, lv, st, c, s)) = some r) : sStep PT R d mi stop (env, wd, pc, lv, st, c, s) = some r := by
  unfold fHg at h
  cases hh : sHp env wd ins ax st with
  | none => rw [hh] at h; exact h
  | some q =>
    obtain ⟨n, wd', st', dc, ds⟩ := q
    rw [hh] at h
    have h' : fB (Nat.beq n len) (fFW wd' (fun w => fB (Nat.beq dc 0) (fCnt R d mi stop env w (pc + len) lv st' c s) (fCnt R d mi stop env w (pc + len) lv st' (c + dc) (s + ds)))) (sStep PT R d mi stop (env, wd, pc, lv, st, c, s)) = some r := h
    rw [fFW_eq] at h'
    by_cases hn : n = len
    · subst hn
      rw [fB_eq rfl] at h'
      unfold sStep
      cases dc with
      | zero =>
        rw [fB_eq rfl, fCnt_eq] at h'
        simp only [hM, hf, hp, hb, hh, if_true, sFW_eq]
        exact h'
      | succ k =>
        rw [fB_ne (Nat.succ_ne_zero k), fCnt_eq] at h'
        simp only [hM, hf, hp, hb, hh, if_true, sFW_eq]
        exact h'
    · rw [fB_ne hn] at h'
      exact h'
theorem fo_pg (hM : PT[mi]? = some M) (hf : sFetch pc (mT M) = some (ins, len, ax)) (h : fPg env (mL M) len (pc + len) ins lv st (fun nx lv st => fCnt R d mi stop env wd nx lv st c s) (sStep PT R d mi stop (env, wd, pc, lv, st, c, s)) = some r) : sStep PT R d mi stop (env, wd, pc, lv, st, c, s) = some r := by
  unfold fPg at h
  cases hh : sPure env (mL M) ins lv st with
  | none => rw [hh] at h; exact h
  | some q =>
    obtain ⟨n, lv', st'⟩ := q
    rw [hh] at h
    have h' : fB (Nat.beq n len) (fFL lv' (fun v => fCnt R d mi stop env wd (pc + len) v st' c s)) (sStep PT R d mi stop (env, wd, pc, lv, st, c, s)) = some r := h
    rw [fFL_eq] at h'
    by_cases hn : n = len
    · subst hn
      rw [fB_eq rfl] at h'
      rw [sStep_pure hM hf hh]
      exact h'
    · rw [fB_ne hn] at h'
      exact h'
theorem fo_ld {k i : Nat} (hM : PT[mi]? = some M) (hf : sFetch pc (mT M) = some (ins, len, ax)) (hp : sPure env (mL M) ins lv st = sLoad k lv st i len) (h : fLd k i (pc + len) lv st (fun nx lv st => fCnt R d mi stop env wd nx lv st c s) (sStep PT R d mi stop (env, wd, pc, lv, st, c, s)) = some r) : sStep PT R d mi stop (env, wd, pc, lv, st, c, s) = some r := by
  rcases fLd_ok (a := k) (b := i) (nx := pc + len) (lv := lv) (st := st) (K := fun nx lv st => fCnt R d mi stop env wd nx lv st c s) (e := sStep PT R d mi stop (env, wd, pc, lv, st, c, s)) with ⟨x, h1, h2, h3⟩ | h3
  · rw [h3] at h
    rw [sStep_pure hM hf (hp.trans (by simp only [sLoad, h1, h2, if_true]; rfl))]
    exact h
  · rw [h3] at h
    exact h
theorem fo_st {k i : Nat} (hM : PT[mi]? = some M) (hf : sFetch pc (mT M) = some (ins, len, ax)) (hi : i < mL M) (hp : sPure env (mL M) ins lv st = sStore k (mL M) lv st i len) (h : fSt k i (pc + len) lv st (fun nx lv st => fCnt R d mi stop env wd nx lv st c s) (sStep PT R d mi stop (env, wd, pc, lv, st, c, s)) = some r) : sStep PT R d mi stop (env, wd, pc, lv, st, c, s) = some r := by
  rcases fSt_ok (a := k) (b := i) (nx := pc + len) (lv := lv) (st := st) (K := fun nx lv st => fCnt R d mi stop env wd nx lv st c s) (e := sStep PT R d mi stop (env, wd, pc, lv, st, c, s)) with ⟨x, t, h1, h2, h3⟩ | h3
  · rw [h3] at h
    subst h1
    rw [sStep_pure hM hf (hp.trans (by simp only [sStore, s1, h2, hi, and_self, if_true]; rfl))]
    exact h
  · rw [h3] at h
    exact h
theorem fo_bin {a : Nat} {f : Int → Int → Int} (hM : PT[mi]? = some M) (hf : sFetch pc (mT M) = some (ins, len, ax)) (hfa : ∀ x y, fOp a x y = f x y) (h1 : len = 1) (hp : sPure env (mL M) ins lv st = sBZ f env lv st) (h : fBin a (pc + len) lv st (fun nx lv st => fCnt R d mi stop env wd nx lv st c s) (sStep PT R d mi stop (env, wd, pc, lv, st, c, s)) = some r) : sStep PT R d mi stop (env, wd, pc, lv, st, c, s) = some r := by
  subst h1
  rcases fBin_ok (a := a) (nx := pc + 1) (lv := lv) (st := st) (K := fun nx lv st => fCnt R d mi stop env wd nx lv st c s) (e := sStep PT R d mi stop (env, wd, pc, lv, st, c, s)) with ⟨x, y, t, h1, h3⟩ | h3
  · rw [h3] at h
    subst h1
    rw [hfa] at h
    rw [sStep_pure hM hf (hp.trans (by simp only [sBZ, s2, sZ, sN, Option.map_some]; rfl))]
    exact h
  · rw [h3] at h
    exact h
theorem sIf_t {cn : sCn} {off : Int} {x y : Int} {rs : List sV} {t : Nat} (ht : sTg pc off = some t) (hx : sI x = true) (hy : sI y = true) (hc : sCb cn x y = true) : sIf cn off env pc 3 (0, x) (0, y) rs = some [(env, t, rs)] := by
  have hn : sCb (sNeg cn) x y = false := by
    cases cn <;> simp [sCb, sNeg] at hc ⊢ <;> omega
  simp only [sIf, ht, sDc, sN, hx, hy, hc, hn, and_self, if_true, Bool.false_eq_true, if_false, List.map_cons, List.map_nil, List.append_nil]
theorem sIf_f {cn : sCn} {off : Int} {x y : Int} {rs : List sV} {t : Nat} (ht : sTg pc off = some t) (hx : sI x = true) (hy : sI y = true) (hc : sCb cn x y = false) : sIf cn off env pc 3 (0, x) (0, y) rs = some [(env, pc + 3, rs)] := by
  have hn : sCb (sNeg cn) x y = true := by
    cases cn <;> simp [sCb, sNeg] at hc ⊢ <;> omega
  simp only [sIf, ht, sDc, sN, hx, hy, hc, hn, and_self, if_true, Bool.false_eq_true, if_false, List.map_cons, List.map_nil, List.nil_append]
theorem fo_cp {cn : sCn} {off : Int} {x y : Int} {rs : List sV} (hR : sSnd PT R) (hM : PT[mi]? = some M) (hf : sFetch pc (mT M) = some (ins, 3, ax)) (ho : 0 ≤ (pc : Int) + off) (hp : sPure env (mL M) ins lv st = none) (hb : sBr env pc 3 ins st = sIf cn off env pc 3 (0, x) (0, y) rs) (h : fCp (fCc cn) x y (fCnt R d mi stop env wd (fTg pc off) lv rs c s) (fCnt R d mi stop env wd (pc + 3) lv rs c s) (sStep PT R d mi stop (env, wd, pc, lv, st, c, s)) = some r) : sStep PT R d mi stop (env, wd, pc, lv, st, c, s) = some r := by
  have ht : sTg pc off = some (fTg pc off) := by
    unfold sTg fTg
    rw [if_pos ho]
  rcases fCp_ok (a := fCc cn) (x := x) (y := y) (t := fCnt R d mi stop env wd (fTg pc off) lv rs c s) (f := fCnt R d mi stop env wd (pc + 3) lv rs c s) (e := sStep PT R d mi stop (env, wd, pc, lv, st, c, s)) with ⟨hx, hy, ⟨hc, h3⟩ | ⟨hc, h3⟩⟩ | h3
  · rw [h3] at h
    rw [fCc_eq] at hc
    exact sStep_br1 hR hM hf hp (hb.trans (sIf_t ht hx hy hc)) h
  · rw [h3] at h
    rw [fCc_eq] at hc
    exact sStep_br1 hR hM hf hp (hb.trans (sIf_f ht hx hy hc)) h
  · rw [h3] at h
    exact h
end FSP
