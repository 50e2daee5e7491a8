noncomputable section
/-! ===== the world's cells ===== -/
abbrev sG : Type := va_G × ClassId × ClassId × ClassId × ClassId
def sTy (g : sG) : List (ClassId × FieldType) := [(g.2.1, .int), (g.2.2.1, .byte), (g.2.2.2.1, .long), (g.2.2.2.2, .object "java/lang/String")]
def sLook (d : sV) : List (Nat × sV) → Nat → sV
  | [], _ => d
  | (i, x) :: t, j => if i = j then x else sLook d t j
def sASet (d : sV) (ov : List (Nat × sV)) (j : Nat) (x : sV) : List (Nat × sV) :=
  if x = d then ov.filter (fun q => !(q.1 == j)) else (j, x) :: ov.filter (fun q => !(q.1 == j))
theorem sLook_filter (d : sV) (j i : Nat) : ∀ ov : List (Nat × sV), sLook d (ov.filter (fun q => !(q.1 == j))) i = if i = j then d else sLook d ov i
  | [] => by simp [sLook]
  | (k, x) :: t => by
    have ih := sLook_filter d j i t
    rw [List.filter_cons]
    by_cases h : k = j
    · subst h
      simp only [beq_self_eq_true, Bool.not_true, Bool.false_eq_true, if_false]
      rw [ih]
      simp only [sLook]
      by_cases e : i = k
      · simp [e]
      · simp [e, Ne.symm e]
    · have hb : (!(k == j)) = true := by simp [h]
      simp only [hb, if_true, sLook]
      rw [ih]
      by_cases e : k = i
      · subst e
        simp [h]
      · simp [e]
theorem sLook_set (d : sV) (ov : List (Nat × sV)) (j i : Nat) (x : sV) : sLook d (sASet d ov j x) i = if i = j then x else sLook d ov i := by
  unfold sASet
  split
  · rename_i h
    subst h
    exact sLook_filter x j i ov
  · simp only [sLook]
    rw [sLook_filter]
    by_cases e : i = j
    · simp [e]
    · simp [e, Ne.symm e]
/-- rows: 0 to 3 place by place (ints, bytes, longs, texts), 4 ints within the bounds of a list, by the place's rest, 5 any bytes, 6 any longs -/
def sRepC (ρ : List Int) (ads : List Nat) (ex : Nat → Nat) (g : sG) (c : sC) (e : va_E) : Prop :=
  match c, e with
  | .inl (ci, fs), .inr (cj, vs) => ci = cj ∧ sA2 (sRep ρ ads ex) fs vs
  | .inr (0, n, ov), .inl (cA, n', .inl f) => cA = g.2.1 ∧ n' = n ∧ ∀ j, j < n → sRep ρ ads ex (sLook (0, 0) ov j) (.int (f j))
  | .inr (1, n, ov), .inl (cA, n', .inl f) => cA = g.2.2.1 ∧ n' = n ∧ ∀ j, j < n → sRep ρ ads ex (sLook (0, 0) ov j) (.int (f j))
  | .inr (2, n, ov), .inl (cA, n', .inr (.inl f)) => cA = g.2.2.2.1 ∧ n' = n ∧ ∀ j, j < n → sRep ρ ads ex (sLook (1, 0) ov j) (.long (f j))
  | .inr (3, n, ov), .inl (cA, n', .inr (.inr (.inr (.inr f)))) => cA = g.2.2.2.2 ∧ n' = n ∧ ∀ j, j < n → sRep ρ ads ex (sLook (2, 0) ov j) (va_rf (f j))
  | .inr (4, n, [(i, _)]), .inl (cA, n', .inl f) => cA = g.2.1 ∧ n' = n ∧ ∃ S, sSpec[i]? = some S ∧ ∀ j, j < n → ∃ lo hi, S[j % S.length]? = some (lo, hi) ∧ lo ≤ (f j).toInt ∧ (f j).toInt ≤ hi
  | .inr (5, n, _), .inl (cA, n', .inl f) => cA = g.2.2.1 ∧ n' = n ∧ ∀ j, j < n → -128 ≤ (f j).toInt ∧ (f j).toInt ≤ 127
  | .inr (6, n, _), .inl (cA, n', .inr (.inl _)) => cA = g.2.2.2.1 ∧ n' = n
  | _, _ => False
theorem sRepC_mono {ρ ρ' : List Int} {ads ads' : List Nat} {ex : Nat → Nat} {g : sG} (hr : ρ <+: ρ') (hp : ads <+: ads') {c : sC} {e : va_E} (h : sRepC ρ ads ex g c e) : sRepC ρ' ads' ex g c e := by
  unfold sRepC at h ⊢
  split at h
  · exact ⟨h.1, sA2_imp (fun _ _ q => sRep_mono hr hp q) _ _ h.2⟩
  · exact ⟨h.1, h.2.1, fun j hj => sRep_mono hr hp (h.2.2 j hj)⟩
  · exact ⟨h.1, h.2.1, fun j hj => sRep_mono hr hp (h.2.2 j hj)⟩
  · exact ⟨h.1, h.2.1, fun j hj => sRep_mono hr hp (h.2.2 j hj)⟩
  · exact ⟨h.1, h.2.1, fun j hj => sRep_mono hr hp (h.2.2 j hj)⟩
  · exact h
  · exact h
  · exact h
  · exact h.elim
def sRW (ρ : List Int) (ex : Nat → Nat) (g : sG) (wd : List sC) (ws : va_W) : Prop := sA2 (fun (c : sC) (q : Nat × va_E) => sRepC ρ (ws.map Prod.fst) ex g c q.2) wd ws
def sPt (ρ : List Int) (ex : Nat → Nat) (g : sG) (A : Nat → Prop) (wd : List sC) (ws : va_W) (H H0 : Heap) (locs : List Loc) : Prop := sRW ρ ex g wd ws ∧ va_P g.1 vwCl ws H ∧ va_D A ws ∧ va_S A H0 H locs
theorem sMapSet {ws : va_W} {k : Nat} {a : Nat} {e0 e : va_E} (h : ws[k]? = some (a, e0)) : (ws.set k (a, e)).map Prod.fst = ws.map Prod.fst := by
  rw [List.map_set]
  apply List.ext_getElem?
  intro i
  by_cases hi : k = i
  · subst hi
    rw [List.getElem?_set]
    obtain ⟨hl, e1⟩ := List.getElem?_eq_some_iff.mp h
    simp [hl, e1]
  · rw [List.getElem?_set_ne hi]
theorem sRW_set {ρ : List Int} {ex : Nat → Nat} {g : sG} {wd : List sC} {ws : va_W} (h : sRW ρ ex g wd ws) {k a : Nat} {e0 e : va_E} (hk : ws[k]? = some (a, e0)) {c : sC} (hc : sRepC ρ (ws.map Prod.fst) ex g c e) : sRW ρ ex g (wd.set k c) (ws.set k (a, e)) := by
  unfold sRW
  rw [sMapSet hk]
  exact sA2_set _ _ _ _ _ h hc
theorem sRW_push {ρ : List Int} {ex : Nat → Nat} {g : sG} {wd : List sC} {ws : va_W} (h : sRW ρ ex g wd ws) {a : Nat} {e : va_E} {c : sC} (hc : sRepC ρ ((ws ++ [(a, e)]).map Prod.fst) ex g c e) : sRW ρ ex g (wd ++ [c]) (ws ++ [(a, e)]) := by
  unfold sRW
  have hp : ws.map Prod.fst <+: (ws ++ [(a, e)]).map Prod.fst := by rw [List.map_append]; exact List.prefix_append _ _
  exact sA2_app _ _ _ _ (sA2_imp (fun _ _ q => sRepC_mono List.prefix_rfl hp q) _ _ h) ⟨hc, trivial⟩
theorem sRW_get {ρ : List Int} {ex : Nat → Nat} {g : sG} {wd : List sC} {ws : va_W} (h : sRW ρ ex g wd ws) {k : Nat} {c : sC} (hk : wd[k]? = some c) : ∃ (a : Nat) (e : va_E), ws[k]? = some (a, e) ∧ (ws.map Prod.fst)[k]? = some a ∧ sRepC ρ (ws.map Prod.fst) ex g c e := by
  obtain ⟨q, hq, hr⟩ := sA2_get _ _ _ _ h hk
  exact ⟨q.1, q.2, hq, by rw [List.getElem?_map, hq]; rfl, hr⟩
theorem sRW_more {ρ ρ' : List Int} {ex : Nat → Nat} {g : sG} {wd : List sC} {ws : va_W} (hr : ρ <+: ρ') (h : sRW ρ ex g wd ws) : sRW ρ' ex g wd ws := sA2_imp (fun _ _ q => sRepC_mono hr List.prefix_rfl q) _ _ h
/-- a world's reference on the stack is the address of that cell -/
theorem sRef {ρ : List Int} {ex : Nat → Nat} {ws : va_W} {k : Int} {v : Value} {a : Nat} {e : va_E} (h : sRep ρ (ws.map Prod.fst) ex (3, k) v) (hk : ws[k.toNat]? = some (a, e)) : v = .ref a := by
  obtain ⟨b, hb, rfl⟩ := h
  rw [List.getElem?_map, hk] at hb
  cases hb
  rfl
/-! ### the words of the tables -/
def sB : List Cond := lw_tbl.filter goodWord
def sAt (pos : Nat) (w : Cond) : Bool := decide (lw_tbl[pos]? = some w) && goodWord w
theorem sAt_ok {pos : Nat} {w : Cond} (h : sAt pos w = true) : w ∈ sB := by
  simp only [sAt, Bool.and_eq_true, decide_eq_true_eq] at h
  exact List.mem_filter.mpr ⟨List.mem_of_getElem? h.1, h.2⟩
def sIz (d : String) : Bool := decide (d = "I") || decide (d = "Z")
def sDf (q : vw_C) : List sV := (List.range q.2.2).map fun k => if sIz (q.2.1 k).2.2.1 = true then (0, 0) else (2, 0)
def sDv (q : vw_C) : List Value := (List.range q.2.2).map fun k => if sIz (q.2.1 k).2.2.1 = true then .int 0 else .null
theorem sA2_map {α β γ : Type} {R : β → γ → Prop} {f : α → β} {g : α → γ} (h : ∀ a, R (f a) (g a)) : ∀ l : List α, sA2 R (l.map f) (l.map g)
  | [] => trivial
  | a :: as => ⟨h a, sA2_map h as⟩
theorem sDf_ok (ρ : List Int) (ads : List Nat) (ex : Nat → Nat) (q : vw_C) : sA2 (sRep ρ ads ex) (sDf q) (sDv q) := by
  refine sA2_map (fun k => ?_) _
  split
  · rfl
  · exact Or.inl rfl
theorem sDv_get (q : vw_C) {j : Nat} (hj : j < q.2.2) : vp_V (sDv q) j = if sIz (q.2.1 j).2.2.1 = true then .int 0 else .null := by
  unfold vp_V sDv
  rw [List.getD_eq_getElem?_getD, List.getElem?_map, List.getElem?_range hj]
  rfl
/-- what is known of a class of the world -/
def sOkC (q : vw_C) : Prop := ∃ ty : Nat → FieldType, (∀ k, k < q.2.2 → parseFieldDescriptor (q.2.1 k).2.2.1 = some (ty k)) ∧ (∀ a, a < q.2.2 → ∀ b, b < q.2.2 → a ≠ b → (q.2.1 a).2.1 ≠ (q.2.1 b).2.1) ∧ (∀ w ∈ u_ws q.1 q.2.1 q.2.2, w ∈ sB) ∧
  (∀ j, j < q.2.2 → defaultValue (ty j) = if sIz (q.2.1 j).2.2.1 = true then .int 0 else .null) ∧ Cond.instantiable q.1 q.2.2 ∈ sB ∧ Cond.initialized q.1 ∈ sB
def sTc (tc : Nat) (ty : FieldType) : Bool := match tc, ty with
  | 0, .int => true
  | 1, .boolean => true
  | 2, .object _ => true
  | 2, .array _ => true
  | _, _ => false
def sB01 (env : sE) (x : sV) : Bool := match sRg env x with
  | some (lo, hi) => decide (0 ≤ lo) && (decide (hi ≤ 1) && decide (sK x = 0))
  | none => false
theorem sB01_ok {ρ : List Int} {ads : List Nat} {ex : Nat → Nat} {nx : Nat} {env : sE} (hs : sOk ρ nx env) {x : sV} {v : Value} (h : sRep ρ ads ex x v) (hb : sB01 env x = true) : v = .int 0 ∨ v = .int 1 := by
  unfold sB01 at hb
  split at hb
  · rename_i lo hi hr
    simp only [Bool.and_eq_true, decide_eq_true_eq] at hb
    obtain ⟨n, rfl, hn⟩ := sRep_int h hb.2.2
    obtain ⟨h1, h2, -⟩ := sRg_ev hs hn hr
    rcases (by omega : n = 0 ∨ n = 1) with rfl | rfl
    · exact Or.inl rfl
    · exact Or.inr rfl
  · cases hb
def sFit (env : sE) (tc : Nat) (x : sV) : Bool := match tc with
  | 0 => decide (sK x = 0)
  | 1 => sB01 env x
  | 2 => decide (sK x = 2)
  | _ => false
theorem sFit_ok {ρ : List Int} {ads : List Nat} {ex : Nat → Nat} {nx : Nat} {env : sE} (hs : sOk ρ nx env) {tc : Nat} {ty : FieldType} {x : sV} {v : Value} (ht : sTc tc ty = true) (hf : sFit env tc x = true) (h : sRep ρ ads ex x v) : narrow ty v = v ∧ fits ty v = true := by
  unfold sTc at ht
  split at ht
  · simp only [sFit, decide_eq_true_eq] at hf
    obtain ⟨n, rfl, -⟩ := sRep_int h hf
    exact ⟨rfl, rfl⟩
  · rcases sB01_ok hs h hf with rfl | rfl
    · exact ⟨rfl, rfl⟩
    · exact ⟨rfl, rfl⟩
  · simp only [sFit, decide_eq_true_eq] at hf
    obtain ⟨y, rfl⟩ := sRep_ref h hf
    exact ⟨rfl, rfl⟩
  · simp only [sFit, decide_eq_true_eq] at hf
    obtain ⟨y, rfl⟩ := sRep_ref h hf
    exact ⟨rfl, rfl⟩
  · cases ht
end
