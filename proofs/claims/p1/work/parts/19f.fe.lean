abbrev fT : Type := List (Nat × List (Nat × fW))
noncomputable def fFind (pc : Nat) (l : List (Nat × fW)) : Option fW := List.rec (motive := fun _ => Option fW) none (fun q _ ih => Prod.rec (motive := fun _ => Option fW) (fun i x => fB (Nat.beq i pc) (some x) ih) q) l
noncomputable def fFetch (pc : Nat) (l : fT) : Option fW := List.rec (motive := fun _ => Option fW) none (fun q _ ih => Prod.rec (motive := fun _ => Option fW) (fun u es => fB (Nat.ble u pc) ih (fFind pc es)) q) l
def fMapE (nL : Nat) (ret : Option FieldType) (l : List sEn) : List (Nat × fW) := l.map fun e => (e.1, fComp nL ret e)
def fMapT (M : sMd) : fT := (mT M).map fun u => (u.1, fMapE (mL M) (mR M) u.2)
theorem fFind_ok {pc nL : Nat} {ret : Option FieldType} {w : fW} : ∀ l : List sEn, fFind pc (fMapE nL ret l) = some w → ∃ ins len ax, sFind pc l = some (ins, len, ax) ∧ w = fComp nL ret (pc, ins, len, ax)
  | [], h => by cases h
  | (i, ins, len, ax) :: t, h => by
    have h' : fB (Nat.beq i pc) (some (fComp nL ret (i, ins, len, ax))) (fFind pc (fMapE nL ret t)) = some w := h
    by_cases e : i = pc
    · rw [fB_eq e] at h'
      subst e
      exact ⟨ins, len, ax, by simp [sFind], (Option.some.inj h').symm⟩
    · rw [fB_ne e] at h'
      obtain ⟨a, b, x, h1, h2⟩ := fFind_ok t h'
      exact ⟨a, b, x, by simp only [sFind, if_neg e]; exact h1, h2⟩
theorem fFetch_ok {pc nL : Nat} {ret : Option FieldType} {w : fW} : ∀ l : List (Nat × List sEn), fFetch pc (l.map fun u => (u.1, fMapE nL ret u.2)) = some w → ∃ ins len ax, sFetch pc l = some (ins, len, ax) ∧ w = fComp nL ret (pc, ins, len, ax)
  | [], h => by cases h
  | (u, es) :: t, h => by
    have h' : fB (Nat.ble u pc) (fFetch pc (t.map fun u => (u.1, fMapE nL ret u.2))) (fFind pc (fMapE nL ret es)) = some w := h
    by_cases e : u ≤ pc
    · rw [fB_le e] at h'
      obtain ⟨a, b, x, h1, h2⟩ := fFetch_ok t h'
      exact ⟨a, b, x, by simp only [sFetch, if_neg (Nat.not_lt.mpr e)]; exact h1, h2⟩
    · rw [fB_gt e] at h'
      obtain ⟨a, b, x, h1, h2⟩ := fFind_ok es h'
      exact ⟨a, b, x, by simp only [sFetch, if_pos (Nat.lt_of_not_le e)]; exact h1, h2⟩
noncomputable def fStp (PT : List sMd) (FT : List fT) (R : sRun) : sRun := fun d mi stop S => Prod.rec (motive := fun _ => Option sRs) (fun env p => Prod.rec (motive := fun _ => Option sRs) (fun wd p => Prod.rec (motive := fun _ => Option sRs) (fun pc p => Prod.rec (motive := fun _ => Option sRs) (fun lv p => Prod.rec (motive := fun _ => Option sRs) (fun st p => Prod.rec (motive := fun _ => Option sRs) (fun c s => fO (fAt FT mi) none (fun T => fO (fFetch pc T) none (fun w => fRow PT R d mi stop env wd pc lv st c s w))) p) p) p) p) p) S
def fOkF (PT : List sMd) (FT : List fT) : Prop := FT = PT.map fMapT
theorem fStp_ok {PT : List sMd} {FT : List fT} {R : sRun} (hPT : sOkP PT) (hFT : fOkF PT FT) (hR : sSnd PT R) : sSnd PT (fStp PT FT R) := by
  rintro d mi stop ⟨env, wd, pc, lv, st, c, s⟩ r h
  have h' : fO (fAt FT mi) none (fun T => fO (fFetch pc T) none (fun w => fRow PT R d mi stop env wd pc lv st c s w)) = some r := h
  rw [fAt_eq, hFT, List.getElem?_map] at h'
  cases hM : PT[mi]? with
  | none => rw [hM] at h'; cases h'
  | some M =>
    rw [hM] at h'
    have h2 : fO (fFetch pc (fMapT M)) none (fun w => fRow PT R d mi stop env wd pc lv st c s w) = some r := h'
    cases hw : fFetch pc (fMapT M) with
    | none => rw [hw] at h2; cases h2
    | some w =>
      rw [hw] at h2
      obtain ⟨ins, len, ax, hf, rfl⟩ := fFetch_ok _ hw
      exact sStep_ok hPT hR d mi stop _ r (fRow_ok hR hM hf h2)
noncomputable def fGoN (PT : List sMd) (FT : List fT) (n : Nat) : sRun := Nat.rec (fun _ _ _ _ => none) (fun _ R => fStp PT FT R) n
theorem fGoN_succ (PT : List sMd) (FT : List fT) (n : Nat) : fGoN PT FT (n + 1) = fStp PT FT (fGoN PT FT n) := rfl
theorem fGoN_ok {PT : List sMd} {FT : List fT} (hPT : sOkP PT) (hFT : fOkF PT FT) : ∀ n : Nat, sSnd PT (fGoN PT FT n)
  | 0 => fun d mi stop S r h => by cases h
  | n + 1 => by
    rw [fGoN_succ]
    exact fStp_ok hPT hFT (fGoN_ok hPT hFT n)
theorem fCons {α : Type} {a b : α} {l m : List α} (h : a = b) (k : l = m) : a :: l = b :: m := by
  subst h k
  rfl
