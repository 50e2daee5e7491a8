section FSQ
variable {PT : List sMd} {R : sRun} {d mi stop : Nat} {env : sE} {wd : List sC} {pc : Nat} {lv : sM} {st : List sV} {c s : Nat} {M : sMd} {ins : Instr} {len : Nat} {ax : List Nat} {r : sRs}
theorem fBt {a b : Bool} (h : (a && b) = true) : a = true ∧ b = true := by
  cases a <;> cases b <;> first | exact ⟨rfl, rfl⟩ | cases h
theorem fo_re {a : Nat} (hM : PT[mi]? = some M) (hf : sFetch pc (mT M) = some (ins, 1, ax)) (hp : sPure env (mL M) ins lv st = none) (hb : sBr env pc 1 ins st = none) (hh : sHp env wd ins ax st = none) (hl : sBlt env wd ins ax st = none) (hi : sRetI ins (mR M) = true) (ha : mR M = fRt a) (h : fO (sRv (fRt a) env st) (sStep PT R d mi stop (env, wd, pc, lv, st, c, s)) (fun _ => some ([(0, (env, wd, pc, lv, st, c, s), 0)], c, s)) = some r) : sStep PT R d mi stop (env, wd, pc, lv, st, c, s) = some r := by
  cases hv : sRv (fRt a) env st with
  | none => rw [hv] at h; exact h
  | some q =>
    rw [hv] at h
    have h' : some ([((0 : Nat), (env, wd, pc, lv, st, c, s), (0 : Nat))], c, s) = some r := h
    rw [← ha] at hv
    unfold sStep
    simp only [hM, hf, hp, hb, hh, hl, hi, hv, if_true]
    exact h'
theorem fo_cl (hM : PT[mi]? = some M) (hf : sFetch pc (mT M) = some (ins, len, ax)) (hp : sPure env (mL M) ins lv st = none) (hb : sBr env pc len ins st = none) (hh : sHp env wd ins ax st = none) (hl : sBlt env wd ins ax st = none) (hi : sRetI ins (mR M) = false) (ht : sThr ins ax = none) (h : fO PT[mi]? (sStep PT R d mi stop (env, wd, pc, lv, st, c, s)) (fun M => sCll PT R d mi stop (mH M) ins len ax env wd pc lv st c s) = some r) : sStep PT R d mi stop (env, wd, pc, lv, st, c, s) = some r := by
  rw [hM] at h
  have h' : sCll PT R d mi stop (mH M) ins len ax env wd pc lv st c s = some r := h
  unfold sStep
  simp only [hM, hf, hp, hb, hh, hl, hi, ht, Bool.false_eq_true, if_false]
  exact h'
theorem fo_al {a : Nat} {v : sV} (hM : PT[mi]? = some M) (hf : sFetch pc (mT M) = some (ins, 1, ax)) (hp : sPure env (mL M) ins lv st = none) (hb : sBr env pc 1 ins st = none) (hh : sHp env wd ins ax st = sAld env wd st a v) (h : fAl a (pc + 1) v wd st (fun nx st => fCnt R d mi stop env wd nx lv st c s) (sStep PT R d mi stop (env, wd, pc, lv, st, c, s)) = some r) : sStep PT R d mi stop (env, wd, pc, lv, st, c, s) = some r := by
  rcases fAl_ok (a := a) (nx := pc + 1) (v := v) (wd := wd) (st := st) (K := fun nx st => fCnt R d mi stop env wd nx lv st c s) (e := sStep PT R d mi stop (env, wd, pc, lv, st, c, s)) with ⟨q, n, ov, j, t, rfl, hc, h1, h2, h3⟩ | h3
  · rw [h3] at h
    rw [sStep_hp0 (wd' := wd) (st' := sLook v ov j :: t) hM hf hp hb (hh.trans (by simp only [sAld, sRow, hc, if_true, sIdx_of h1 h2, Option.map_some]))]
    exact h
  · rw [h3] at h
    exact h
theorem fRow_ok (hR : sSnd PT R) (hM : PT[mi]? = some M) (hf : sFetch pc (mT M) = some (ins, len, ax)) (h : fRow PT R d mi stop env wd pc lv st c s (fComp (mL M) (mR M) (pc, ins, len, ax)) = some r) : sStep PT R d mi stop (env, wd, pc, lv, st, c, s) = some r := by
  unfold fComp at h
  simp only at h
  split at h
  -- iconst, bipush, sipush, aconst_null
  · cases hq : Nat.beq len 1 with
    | false => rw [hq] at h; exact h
    | true =>
      rw [hq] at h
      cases Nat.eq_of_beq_eq_true hq
      rw [sStep_pure hM hf rfl]
      exact h
  · cases hq : Nat.beq len 2 with
    | false => rw [hq] at h; exact h
    | true =>
      rw [hq] at h
      cases Nat.eq_of_beq_eq_true hq
      rw [sStep_pure hM hf rfl]
      exact h
  · cases hq : Nat.beq len 3 with
    | false => rw [hq] at h; exact h
    | true =>
      rw [hq] at h
      cases Nat.eq_of_beq_eq_true hq
      rw [sStep_pure hM hf rfl]
      exact h
  · cases hq : Nat.beq len 1 with
    | false => rw [hq] at h; exact h
    | true =>
      rw [hq] at h
      cases Nat.eq_of_beq_eq_true hq
      rw [sStep_pure hM hf rfl]
      exact h
  -- loads
  · cases hq : Nat.beq len 1 with
    | false => rw [hq] at h; exact h
    | true =>
      rw [hq] at h
      cases Nat.eq_of_beq_eq_true hq
      exact fo_ld hM hf rfl h
  · cases hq : Nat.beq len 2 with
    | false => rw [hq] at h; exact h
    | true =>
      rw [hq] at h
      cases Nat.eq_of_beq_eq_true hq
      exact fo_ld hM hf rfl h
  · cases hq : Nat.beq len 1 with
    | false => rw [hq] at h; exact h
    | true =>
      rw [hq] at h
      cases Nat.eq_of_beq_eq_true hq
      exact fo_ld hM hf rfl h
  · cases hq : Nat.beq len 2 with
    | false => rw [hq] at h; exact h
    | true =>
      rw [hq] at h
      cases Nat.eq_of_beq_eq_true hq
      exact fo_ld hM hf rfl h
  · cases hq : Nat.beq len 1 with
    | false => rw [hq] at h; exact h
    | true =>
      rw [hq] at h
      cases Nat.eq_of_beq_eq_true hq
      exact fo_ld hM hf rfl h
  · cases hq : Nat.beq len 2 with
    | false => rw [hq] at h; exact h
    | true =>
      rw [hq] at h
      cases Nat.eq_of_beq_eq_true hq
      exact fo_ld hM hf rfl h
  -- stores
  · rename_i k
    cases hq : (Nat.beq len 1 && Nat.ble (k.val + 1) (mL M)) with
    | false => rw [hq] at h; exact h
    | true =>
      rw [hq] at h
      cases Nat.eq_of_beq_eq_true (fBt hq).1
      exact fo_st hM hf (Nat.le_of_ble_eq_true (fBt hq).2) rfl h
  · rename_i k
    cases hq : (Nat.beq len 2 && Nat.ble (k + 1) (mL M)) with
    | false => rw [hq] at h; exact h
    | true =>
      rw [hq] at h
      cases Nat.eq_of_beq_eq_true (fBt hq).1
      exact fo_st hM hf (Nat.le_of_ble_eq_true (fBt hq).2) rfl h
  · rename_i k
    cases hq : (Nat.beq len 1 && Nat.ble (k.val + 1) (mL M)) with
    | false => rw [hq] at h; exact h
    | true =>
      rw [hq] at h
      cases Nat.eq_of_beq_eq_true (fBt hq).1
      exact fo_st hM hf (Nat.le_of_ble_eq_true (fBt hq).2) rfl h
  · rename_i k
    cases hq : (Nat.beq len 2 && Nat.ble (k + 1) (mL M)) with
    | false => rw [hq] at h; exact h
    | true =>
      rw [hq] at h
      cases Nat.eq_of_beq_eq_true (fBt hq).1
      exact fo_st hM hf (Nat.le_of_ble_eq_true (fBt hq).2) rfl h
  -- iinc
  · rename_i k n
    cases hq : (Nat.beq len 3 && Nat.ble (k + 1) (mL M)) with
    | false => rw [hq] at h; exact h
    | true =>
      rw [hq] at h
      cases Nat.eq_of_beq_eq_true (fBt hq).1
      have hk : k < mL M := Nat.le_of_ble_eq_true (fBt hq).2
      have h' : fInc k (pc + 3) n lv st (fun nx lv st => fCnt R d mi stop env wd nx lv st c s) (sStep PT R d mi stop (env, wd, pc, lv, st, c, s)) = some r := h
      rcases fInc_ok (a := k) (nx := pc + 3) (n := n) (lv := lv) (st := st) (K := fun nx lv st => fCnt R d mi stop env wd nx lv st c s) (e := sStep PT R d mi stop (env, wd, pc, lv, st, c, s)) with ⟨z, h1, h3⟩ | h3
      · rw [h3] at h'
        rw [sStep_pure (lv' := sPut1 lv k (0, sW (z + n))) (st' := st) hM hf (by simp only [sPure, sInc, h1, hk, if_true, sZ, sN, Option.map_some])]
        exact h'
      · rw [h3] at h'
        exact h'
  -- iadd, isub, imul
  · cases hq : Nat.beq len 1 with
    | false => rw [hq] at h; exact h
    | true =>
      rw [hq] at h
      cases Nat.eq_of_beq_eq_true hq
      exact fo_bin hM hf (fun _ _ => rfl) rfl rfl h
  · cases hq : Nat.beq len 1 with
    | false => rw [hq] at h; exact h
    | true =>
      rw [hq] at h
      cases Nat.eq_of_beq_eq_true hq
      exact fo_bin hM hf (fun _ _ => rfl) rfl rfl h
  · cases hq : Nat.beq len 1 with
    | false => rw [hq] at h; exact h
    | true =>
      rw [hq] at h
      cases Nat.eq_of_beq_eq_true hq
      exact fo_bin hM hf (fun _ _ => rfl) rfl rfl h
  -- if_icmp
  · rename_i cn off
    cases hq : (Nat.beq len 3 && decide (0 ≤ (pc : Int) + off)) with
    | false => rw [hq] at h; exact h
    | true =>
      rw [hq] at h
      cases Nat.eq_of_beq_eq_true (fBt hq).1
      have ho := of_decide_eq_true (fBt hq).2
      have h' : f22 st (fun x y r => fCp (fCc cn) x y (fCnt R d mi stop env wd (fTg pc off) lv r c s) (fCnt R d mi stop env wd (pc + 3) lv r c s) (sStep PT R d mi stop (env, wd, pc, lv, st, c, s))) (sStep PT R d mi stop (env, wd, pc, lv, st, c, s)) = some r := h
      rcases f22_ok (st := st) (K := fun x y r => fCp (fCc cn) x y (fCnt R d mi stop env wd (fTg pc off) lv r c s) (fCnt R d mi stop env wd (pc + 3) lv r c s) (sStep PT R d mi stop (env, wd, pc, lv, st, c, s))) (e := sStep PT R d mi stop (env, wd, pc, lv, st, c, s)) with ⟨x, y, t, rfl, h3⟩ | h3
      · rw [h3] at h'
        exact fo_cp hR hM hf ho rfl rfl h'
      · rw [h3] at h'
        exact h'
  -- ifCond
  · rename_i cn off
    cases hq : (Nat.beq len 3 && decide (0 ≤ (pc : Int) + off)) with
    | false => rw [hq] at h; exact h
    | true =>
      rw [hq] at h
      cases Nat.eq_of_beq_eq_true (fBt hq).1
      have ho := of_decide_eq_true (fBt hq).2
      rcases st with _ | ⟨⟨t, z⟩, rs⟩
      · exact h
      · have h' : fB (Nat.beq t 0) (fCp (fCc cn) z 0 (fCnt R d mi stop env wd (fTg pc off) lv rs c s) (fCnt R d mi stop env wd (pc + 3) lv rs c s) (sStep PT R d mi stop (env, wd, pc, lv, (t, z) :: rs, c, s))) (sStep PT R d mi stop (env, wd, pc, lv, (t, z) :: rs, c, s)) = some r := h
        by_cases h0 : t = 0
        · subst h0
          rw [fB_eq rfl] at h'
          exact fo_cp hR hM hf ho rfl rfl h'
        · rw [fB_ne h0] at h'
          exact h'
  -- goto
  · rename_i off
    cases hq : (Nat.beq len 3 && decide (0 ≤ (pc : Int) + off)) with
    | false => rw [hq] at h; exact h
    | true =>
      rw [hq] at h
      cases Nat.eq_of_beq_eq_true (fBt hq).1
      have ho := of_decide_eq_true (fBt hq).2
      have h' : fCnt R d mi stop env wd (fTg pc off) lv st c s = some r := h
      exact sStep_br1 hR hM hf rfl (show sBr env pc 3 (.goto off) st = some [(env, fTg pc off, st)] by simp only [sBr, sTg, fTg, if_true, if_pos ho, Option.map_some]) h'
  -- getfield
  · split at h
    · rename_i ci k po
      cases hq : Nat.beq len 3 with
      | false => rw [hq] at h; exact h
      | true =>
        rw [hq] at h
        cases Nat.eq_of_beq_eq_true hq
        have h' : fGf ci k (pc + 3) wd st (fun nx st => fCnt R d mi stop env wd nx lv st c s) (sStep PT R d mi stop (env, wd, pc, lv, st, c, s)) = some r := h
        rcases fGf_ok (a := ci) (b := k) (nx := pc + 3) (wd := wd) (st := st) (K := fun nx st => fCnt R d mi stop env wd nx lv st c s) (e := sStep PT R d mi stop (env, wd, pc, lv, st, c, s)) with ⟨q, fs, t, v, rfl, hc, hv, h3⟩ | h3
        · rw [h3] at h'
          rw [sStep_hp0 (wd' := wd) (st' := v :: t) hM hf rfl rfl (by simp only [sHp, sGetF, sObj, hc, if_true, hv, Option.map_some])]
          exact h'
        · rw [h3] at h'
          exact h'
    · exact h
  -- array loads
  · cases hq : Nat.beq len 1 with
    | false => rw [hq] at h; exact h
    | true =>
      rw [hq] at h
      cases Nat.eq_of_beq_eq_true hq
      exact fo_al hM hf rfl rfl rfl h
  · cases hq : Nat.beq len 1 with
    | false => rw [hq] at h; exact h
    | true =>
      rw [hq] at h
      cases Nat.eq_of_beq_eq_true hq
      exact fo_al hM hf rfl rfl rfl h
  · cases hq : Nat.beq len 1 with
    | false => rw [hq] at h; exact h
    | true =>
      rw [hq] at h
      cases Nat.eq_of_beq_eq_true hq
      exact fo_al hM hf rfl rfl rfl h
  -- iastore
  · cases hq : Nat.beq len 1 with
    | false => rw [hq] at h; exact h
    | true =>
      rw [hq] at h
      cases Nat.eq_of_beq_eq_true hq
      have h' : fAs (pc + 1) wd st (fun wd nx st => fCnt R d mi stop env wd nx lv st c s) (sStep PT R d mi stop (env, wd, pc, lv, st, c, s)) = some r := h
      rcases fAs_ok (nx := pc + 1) (wd := wd) (st := st) (K := fun wd nx st => fCnt R d mi stop env wd nx lv st c s) (e := sStep PT R d mi stop (env, wd, pc, lv, st, c, s)) with ⟨z, q, n, ov, j, t, rfl, hc, h1, h2, h3⟩ | h3
      · rw [h3] at h'
        rw [sStep_hp0 (wd' := wd.set q.toNat (.inr (0, n, sASet (0, 0) ov j (0, z)))) (st' := t) hM hf rfl rfl (by simp only [sHp, sAst, sRow, hc, if_true, sK, sIdx_of h1 h2, Option.map_some, sN]; rfl)]
        exact h'
      · rw [h3] at h'
        exact h'
  -- arraylength
  · cases hq : Nat.beq len 1 with
    | false => rw [hq] at h; exact h
    | true =>
      rw [hq] at h
      cases Nat.eq_of_beq_eq_true hq
      have h' : fLn (pc + 1) wd st (fun nx st => fCnt R d mi stop env wd nx lv st c s) (sStep PT R d mi stop (env, wd, pc, lv, st, c, s)) = some r := h
      rcases fLn_ok (nx := pc + 1) (wd := wd) (st := st) (K := fun nx st => fCnt R d mi stop env wd nx lv st c s) (e := sStep PT R d mi stop (env, wd, pc, lv, st, c, s)) with ⟨q, tg, n, ov, t, rfl, hc, h3⟩ | h3
      · rw [h3] at h'
        rw [sStep_hp0 (wd' := wd) (st' := (0, Int.ofNat n) :: t) hM hf rfl rfl (by simp only [sHp, sLen, hc]; rfl)]
        exact h'
      · rw [h3] at h'
        exact h'
  -- the world's others
  · exact fo_hg hM hf rfl rfl h
  · split at h
    · exact fo_hg hM hf rfl rfl h
    · exact h
  · exact fo_hg hM hf rfl rfl h
  · exact fo_hg hM hf rfl rfl h
  · exact fo_hg hM hf rfl rfl h
  · exact fo_hg hM hf rfl rfl h
  · exact fo_hg hM hf rfl rfl h
  · exact fo_hg hM hf rfl rfl h
  · exact fo_hg hM hf rfl rfl h
  -- returns
  · cases hq : Nat.beq len 1 with
    | false => rw [hq] at h; exact h
    | true =>
      rw [hq] at h
      cases Nat.eq_of_beq_eq_true hq
      simp only [fQ] at h
      split at h
      · rename_i hr
        exact fo_re (a := 1) hM hf rfl rfl rfl rfl (by rw [hr]; rfl) hr h
      · rename_i hr
        exact fo_re (a := 2) hM hf rfl rfl rfl rfl (by rw [hr]; rfl) hr h
      · exact h
  · cases hq : Nat.beq len 1 with
    | false => rw [hq] at h; exact h
    | true =>
      rw [hq] at h
      cases Nat.eq_of_beq_eq_true hq
      simp only [fQ] at h
      split at h
      · rename_i hr
        exact fo_re (a := 0) hM hf rfl rfl rfl rfl (by rw [hr]; rfl) hr h
      · exact h
  -- calls
  · exact fo_cl hM hf rfl rfl rfl rfl rfl rfl h
  · split at h
    · exact fo_cl hM hf rfl rfl rfl rfl rfl rfl h
    · exact fo_cl hM hf rfl rfl rfl rfl rfl rfl h
    · exact h
  · split at h
    · exact fo_cl hM hf rfl rfl rfl rfl rfl rfl h
    · exact fo_cl hM hf rfl rfl rfl rfl rfl rfl h
    · exact h
  · exact h
  · exact h
  · exact fo_pg hM hf h
end FSQ
