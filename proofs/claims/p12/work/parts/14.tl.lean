noncomputable section
/-! ===== facts that speak of rows: the two rows of acts, the signs, a row's entry ===== -/
def sKc (p : Nat) : Nat := if p = 0 then 43 else 59
def sWc (p : Nat) : Nat := if p = 0 then 44 else 60
def sSg : Nat := 97
def sPr (k w : Int32) : Prop := (0 ≤ k.toInt ∧ k.toInt ≤ 1) → (0 ≤ w.toInt ∧ w.toInt ≤ 7)
/-- how deep a row of signs stands behind a sign -/
def sRp1 (z : Int) (d : Nat) : Option Nat := if -8 ≤ z then (if d < 64 then some (d + 1) else none) else if -20 < z then none else if z = -28 then (if 1 ≤ d then some d else none) else (if 2 ≤ d then some (d - 1) else none)
def sRp (f : Nat → Int32) (o : Nat) : Nat → Option Nat
  | 0 => some 0
  | k + 1 => match sRp f o k with
    | none => none
    | some d => sRp1 (f (o + k)).toInt d
theorem sRp_eq {f h : Nat → Int32} {o o' : Nat} : ∀ k : Nat, (∀ j, j < k → f (o + j) = h (o' + j)) → sRp f o k = sRp h o' k
  | 0, _ => rfl
  | k + 1, q => by
    simp only [sRp]
    rw [sRp_eq k (fun j hj => q j (by omega)), q k (by omega)]
theorem sRp_lt {f : Nat → Int32} {o : Nat} : ∀ {k j : Nat}, sRp f o k ≠ none → j ≤ k → ∃ d, sRp f o j = some d
  | 0, j, _, hj => by
    have : j = 0 := by omega
    subst this
    exact ⟨0, rfl⟩
  | k + 1, j, h, hj => by
    by_cases e : j = k + 1
    · subst e
      cases q : sRp f o (k + 1) with
      | none => exact absurd q h
      | some d => exact ⟨d, rfl⟩
    · refine sRp_lt (k := k) (fun q => h ?_) (by omega)
      simp only [sRp, q]
def gA5 (A : Nat → Nat → Int32) (ps : List Nat) (zs : List Int) : Prop := match ps, zs with
  | [r1, r2], [m, x1, x2] => 0 ≤ x1 ∧ 0 ≤ x2 ∧ ∀ j : Nat, (j : Int) < m → A r1 (x1.toNat + j) = A r2 (x2.toNat + j)
  | _, _ => False
def gA6 (A : Nat → Nat → Int32) (ps : List Nat) (zs : List Int) : Prop := match ps, zs with
  | [r, f], [v, m, x] => ∀ j : Nat, (j : Int) < m → (A r j).toInt = if f = 1 ∧ (j : Int) = x then 1 - gBit v (j : Int) else gBit v (j : Int)
  | _, _ => False
/-- where an element of the saved blocks stands: those below k one block earlier -/
def gLo (k : Int) (e : Nat) : Nat := if (e : Int) < k then e - 17 else e
/-- one act: whom it turns (0 his, 1 his side, 2 burnt, 3 cut), or a plant -/
def gAc (K W : Int) (F F' : Nat → Int) (P P' : Nat → Int32) : Prop := 0 ≤ K ∧ K ≤ 4 ∧ 0 ≤ F 4 ∧ F 4 ≤ 4 ∧ (∀ j : Nat, (j : Int) < 3 * F 4 → P' j = P j) ∧
  F' 1 = (if K = 0 then gBo 12 (F 1) W else F 1) ∧ F' 0 = (if K = 1 then gBo 12 (F 0) W else F 0) ∧ F' 2 = (if K = 2 then gBo 12 (F 2) W else F 2) ∧ F' 3 = (if K = 3 then gBo 12 (F 3) W else F 3) ∧ F' 4 = (if K = 4 then F 4 + 1 else F 4)
def gFl (pr : Nat → Int32) (n k : Int) (S : List Int) (i t : Nat) : Int := if (i : Int) < n then (pr (gLo k (17 * (i + 1) + t))).toInt else S.getD t 0
def gPl (pr plr : Nat → Int32) (n k po : Int) (i j : Nat) : Int32 := if (i : Int) < n then pr (gLo k (17 * (i + 1) + 5 + j)) else plr (po.toNat + j)
def gA7 (A : Nat → Nat → Int32) (ps : List Nat) (zs : List Int) : Prop := match ps, zs with
  | [kr, wr, pr, plr, ok, ow], [n, s, h, b, c, p, k, po] => 0 ≤ n ∧ n ≤ 40 ∧ 0 ≤ po ∧ ∀ i : Nat, (i : Int) < n → gAc (A kr (ok + i)).toInt (A wr (ow + i)).toInt (gFl (A pr) n k [s, h, b, c, p] i) (gFl (A pr) n k [s, h, b, c, p] (i + 1)) (gPl (A pr) (A plr) n k po i) (gPl (A pr) (A plr) n k po (i + 1))
  | _, _ => False
def gA8 (A : Nat → Nat → Int32) (ps : List Nat) (zs : List Int) : Prop := match ps, zs with
  | [pr, plr], [n, s, h, b, c, p, q] => 0 ≤ n ∧ (∀ t : Nat, t < 5 → (A pr (17 * n.toNat + t)).toInt = [s, h, b, c, p].getD t 0) ∧ ∀ j : Nat, (j : Int) < q → A pr (17 * n.toNat + 5 + j) = A plr j
  | _, _ => False
def sWf (A : Nat → Nat → Int32) (L : Nat) (sc : Nat → Int32) (ρ : List Int) (f : sFc) : Prop := match f with
  | (10, [], [p]) => ∀ j, j < 40 → sPr (A (sKc p) j) (A (sWc p) j)
  | (11, [x, y], [p]) => ∃ m n : Int, sEv ρ x = some m ∧ sEv ρ y = some n ∧ 0 ≤ m ∧ (A (sKc p) m.toNat).toInt = n ∧ ∀ j, j < 40 → j ≠ m.toNat → sPr (A (sKc p) j) (A (sWc p) j)
  | (12, [], [p]) => (∀ j, j < 39 → sPr (A (sKc p) j) (A (sWc p) (j + 1))) ∧ sPr (A (sKc p) 39) (A (sWc p) 39)
  | (13, [], [p, q]) => (∀ j, j < 40 → A (sKc p) j = A (sKc q) j) ∧ ∀ j, j < 40 → sPr (A (sKc q) j) (A (sWc q) j)
  | (14, [x], [p]) => ∃ m : Int, sEv ρ x = some m ∧ 0 ≤ m ∧ 0 ≤ (A (sKc p) m.toNat).toInt ∧ (A (sKc p) m.toNat).toInt ≤ 1
  | (15, [x, y], [k]) => ∃ m n : Int, sEv ρ x = some m ∧ sEv ρ y = some n ∧ 0 ≤ m ∧ (A k m.toNat).toInt = n
  | (16, [d, n], _) => ∃ m k : Int, sEv ρ d = some m ∧ sEv ρ n = some k ∧ 0 ≤ m ∧ 0 ≤ k ∧ sRp (A sSg) 700 k.toNat = some m.toNat
  | (17, [n], _) => ∃ k : Int, sEv ρ n = some k ∧ 0 ≤ k ∧ k ≤ 700 ∧ sRp (A sSg) 0 k.toNat ≠ none
  | (18, [i, e], _) => ∃ m k : Int, sEv ρ i = some m ∧ sEv ρ e = some k ∧ 0 ≤ m ∧ 0 ≤ k ∧ sRp (A sSg) 0 m.toNat = some k.toNat
  | (19, [j], _) => ∃ m : Int, sEv ρ j = some m ∧ 0 ≤ m ∧ m ≤ 700 ∧ ∀ i, i < m.toNat → A sSg i = A sSg (700 + i)
  | (20, [j, y], _) => ∃ m n : Int, sEv ρ j = some m ∧ sEv ρ y = some n ∧ 0 ≤ m ∧ (A sSg (700 + m.toNat)).toInt = n
  | (21, [x, y], _) => ∃ m n : Int, sEv ρ x = some m ∧ sEv ρ y = some n ∧ 0 ≤ m ∧ m < (L : Int) ∧ (sc m.toNat).toInt = n
  | (60, as, ps) => ∃ zs : List Int, sA2 (fun a z => sEv ρ a = some z) as zs ∧ gQ1 L sc ps zs
  | (61, [m], [r, w]) => ∃ z : Int, sEv ρ m = some z ∧ ∀ j : Nat, (j : Int) < z → (A r j).toInt = gB w (gT L sc j)
  | (62, [m], [r, id, o]) => ∃ z : Int, sEv ρ m = some z ∧ 0 ≤ z ∧ ∀ j : Nat, (j : Int) < z → tRow (gT L sc) (gN L sc) id j (A r (o + j)).toInt
  | (64, [a, b], [r, w]) => ∃ x y : Int, sEv ρ a = some x ∧ sEv ρ b = some y ∧ ∀ j : Nat, j < 700 → ((j : Int) < x ∨ y ≤ (j : Int)) → (A r j).toInt = gB w (gT L sc j)
  | (65, as, ps) => ∃ zs : List Int, sA2 (fun a z => sEv ρ a = some z) as zs ∧ gA5 A ps zs
  | (66, as, ps) => ∃ zs : List Int, sA2 (fun a z => sEv ρ a = some z) as zs ∧ gA6 A ps zs
  | (67, as, ps) => ∃ zs : List Int, sA2 (fun a z => sEv ρ a = some z) as zs ∧ gA7 A ps zs
  | (68, as, ps) => ∃ zs : List Int, sA2 (fun a z => sEv ρ a = some z) as zs ∧ gA8 A ps zs
  | (80, as, ps) => ∃ zs : List Int, sA2 (fun a z => sEv ρ a = some z) as zs ∧ gA9 A L sc ps zs
  | (70, [], [m]) => ∀ k : Nat, k < 128 → m.testBit k = true → ∀ j : Nat, A k j = sc (L + 701 + (128 * j + k))
  | _ => True
theorem sWf_mono {A : Nat → Nat → Int32} {L : Nat} {sc : Nat → Int32} {ρ ρ' : List Int} (hp : ρ <+: ρ') {f : sFc} (h : sWf A L sc ρ f) : sWf A L sc ρ' f := by
  unfold sWf at h ⊢
  split at h
  · exact h
  · obtain ⟨m, n, h1, h2, h3⟩ := h
    exact ⟨m, n, sEv_mono hp h1, sEv_mono hp h2, h3⟩
  · exact h
  · exact h
  · obtain ⟨m, h1, h2⟩ := h
    exact ⟨m, sEv_mono hp h1, h2⟩
  · obtain ⟨m, n, h1, h2, h3⟩ := h
    exact ⟨m, n, sEv_mono hp h1, sEv_mono hp h2, h3⟩
  · obtain ⟨m, n, h1, h2, h3⟩ := h
    exact ⟨m, n, sEv_mono hp h1, sEv_mono hp h2, h3⟩
  · obtain ⟨m, h1, h2⟩ := h
    exact ⟨m, sEv_mono hp h1, h2⟩
  · obtain ⟨m, n, h1, h2, h3⟩ := h
    exact ⟨m, n, sEv_mono hp h1, sEv_mono hp h2, h3⟩
  · obtain ⟨m, h1, h2⟩ := h
    exact ⟨m, sEv_mono hp h1, h2⟩
  · obtain ⟨m, n, h1, h2, h3⟩ := h
    exact ⟨m, n, sEv_mono hp h1, sEv_mono hp h2, h3⟩
  · obtain ⟨m, n, h1, h2, h3⟩ := h
    exact ⟨m, n, sEv_mono hp h1, sEv_mono hp h2, h3⟩
  · obtain ⟨zs, h1, h2⟩ := h
    exact ⟨zs, sA2_imp (fun _ _ q => sEv_mono hp q) _ _ h1, h2⟩
  · obtain ⟨z, h1, h2⟩ := h
    exact ⟨z, sEv_mono hp h1, h2⟩
  · obtain ⟨z, h1, h2⟩ := h
    exact ⟨z, sEv_mono hp h1, h2⟩
  · obtain ⟨x, y, h1, h2, h3⟩ := h
    exact ⟨x, y, sEv_mono hp h1, sEv_mono hp h2, h3⟩
  · obtain ⟨zs, h1, h2⟩ := h
    exact ⟨zs, sA2_imp (fun _ _ q => sEv_mono hp q) _ _ h1, h2⟩
  · obtain ⟨zs, h1, h2⟩ := h
    exact ⟨zs, sA2_imp (fun _ _ q => sEv_mono hp q) _ _ h1, h2⟩
  · obtain ⟨zs, h1, h2⟩ := h
    exact ⟨zs, sA2_imp (fun _ _ q => sEv_mono hp q) _ _ h1, h2⟩
  · obtain ⟨zs, h1, h2⟩ := h
    exact ⟨zs, sA2_imp (fun _ _ q => sEv_mono hp q) _ _ h1, h2⟩
  · obtain ⟨zs, h1, h2⟩ := h
    exact ⟨zs, sA2_imp (fun _ _ q => sEv_mono hp q) _ _ h1, h2⟩
  · exact h
  · trivial
/-- the cells that a fact speaks of -/
def sCl (f : sFc) : List Nat := match f with
  | (10, _, [p]) => [sKc p, sWc p]
  | (11, _, [p]) => [sKc p, sWc p]
  | (12, _, [p]) => [sKc p, sWc p]
  | (13, _, [p, q]) => [sKc p, sWc p, sKc q, sWc q]
  | (14, _, [p]) => [sKc p, sWc p]
  | (15, _, [k]) => [k]
  | (16, _, _) => [sSg]
  | (17, _, _) => [sSg]
  | (18, _, _) => [sSg]
  | (19, _, _) => [sSg]
  | (20, _, _) => [sSg]
  | (61, _, [r, _]) => [r]
  | (62, _, [r, _, _]) => [r]
  | (64, _, [r, _]) => [r]
  | (65, _, ps) => ps
  | (66, _, ps) => ps.take 1
  | (67, _, ps) => ps.take 4
  | (68, _, ps) => ps
  | (80, _, ps) => sC9 ps
  | (70, _, [m]) => (List.range 128).filter fun k => m.testBit k
  | _ => []
theorem gA5_cells {A A' : Nat → Nat → Int32} {ps : List Nat} {zs : List Int} (hc : ∀ k ∈ ps, A' k = A k) (h : gA5 A ps zs) : gA5 A' ps zs := by
  unfold gA5 at h ⊢
  split at h
  · rename_i r1 r2 m x1 x2
    rw [hc r1 (by simp), hc r2 (by simp)]
    exact h
  · cases h
theorem gA6_cells {A A' : Nat → Nat → Int32} {ps : List Nat} {zs : List Int} (hc : ∀ k ∈ ps.take 1, A' k = A k) (h : gA6 A ps zs) : gA6 A' ps zs := by
  unfold gA6 at h ⊢
  split at h
  · rename_i r f v m x
    rw [hc r (by simp)]
    exact h
  · cases h
theorem gA7_cells {A A' : Nat → Nat → Int32} {ps : List Nat} {zs : List Int} (hc : ∀ k ∈ ps.take 4, A' k = A k) (h : gA7 A ps zs) : gA7 A' ps zs := by
  unfold gA7 at h ⊢
  split at h
  · rename_i kr wr pr plr ok ow n s h' b c p k po
    rw [hc kr (by simp), hc wr (by simp), hc pr (by simp), hc plr (by simp)]
    exact h
  · cases h
theorem gA8_cells {A A' : Nat → Nat → Int32} {ps : List Nat} {zs : List Int} (hc : ∀ k ∈ ps, A' k = A k) (h : gA8 A ps zs) : gA8 A' ps zs := by
  unfold gA8 at h ⊢
  split at h
  · rename_i pr plr n s h' b c p q
    rw [hc pr (by simp), hc plr (by simp)]
    exact h
  · cases h
theorem sWf_cells {A A' : Nat → Nat → Int32} {L : Nat} {sc : Nat → Int32} {ρ : List Int} {f : sFc} (hc : ∀ k ∈ sCl f, A' k = A k) (h : sWf A L sc ρ f) : sWf A' L sc ρ f := by
  unfold sWf at h ⊢
  split at h
  · rename_i p
    rw [hc (sKc p) (by simp [sCl]), hc (sWc p) (by simp [sCl])]
    exact h
  · rename_i x y p
    rw [hc (sKc p) (by simp [sCl]), hc (sWc p) (by simp [sCl])]
    exact h
  · rename_i p
    rw [hc (sKc p) (by simp [sCl]), hc (sWc p) (by simp [sCl])]
    exact h
  · rename_i p q
    rw [hc (sKc p) (by simp [sCl]), hc (sKc q) (by simp [sCl]), hc (sWc q) (by simp [sCl])]
    exact h
  · rename_i x p
    rw [hc (sKc p) (by simp [sCl])]
    exact h
  · rename_i x y k
    rw [hc k (by simp [sCl])]
    exact h
  · rw [hc sSg (by simp [sCl])]
    exact h
  · rw [hc sSg (by simp [sCl])]
    exact h
  · rw [hc sSg (by simp [sCl])]
    exact h
  · rw [hc sSg (by simp [sCl])]
    exact h
  · rw [hc sSg (by simp [sCl])]
    exact h
  · exact h
  · exact h
  · rename_i m r w
    rw [hc r (by simp [sCl])]
    exact h
  · rename_i m r id o
    rw [hc r (by simp [sCl])]
    exact h
  · rename_i a b r w
    rw [hc r (by simp [sCl])]
    exact h
  · obtain ⟨zs, h1, h2⟩ := h
    exact ⟨zs, h1, gA5_cells hc h2⟩
  · obtain ⟨zs, h1, h2⟩ := h
    exact ⟨zs, h1, gA6_cells hc h2⟩
  · obtain ⟨zs, h1, h2⟩ := h
    exact ⟨zs, h1, gA7_cells hc h2⟩
  · obtain ⟨zs, h1, h2⟩ := h
    exact ⟨zs, h1, gA8_cells hc h2⟩
  · obtain ⟨zs, h1, h2⟩ := h
    exact ⟨zs, h1, gA9_cells hc h2⟩
  · intro k hk hb j
    rw [hc k (by simp [sCl, hk, hb])]
    exact h k hk hb j
  · trivial
/-- what the rows of ints and bytes of a world hold -/
def sAc (ws : va_W) (k : Nat) : Nat → Int32 := match ws[k]? with
  | some (_, .inl (_, _, .inl f)) => f
  | _ => fun _ => 0
theorem sAc_at {ws : va_W} {k a : Nat} {cA : ClassId} {n : Nat} {f : Nat → Int32} (h : ws[k]? = some (a, .inl (cA, n, .inl f))) : sAc ws k = f := by
  unfold sAc
  rw [h]
theorem sAc_other {ws : va_W} {k j : Nat} {q : Nat × va_E} (h : j ≠ k) : sAc (ws.set k q) j = sAc ws j := by
  unfold sAc
  rw [List.getElem?_set_ne (Ne.symm h)]
theorem sAc_set {ws : va_W} {k a : Nat} {e0 : va_E} {cA : ClassId} {n : Nat} {f : Nat → Int32} (h : ws[k]? = some (a, e0)) : sAc (ws.set k (a, .inl (cA, n, .inl f))) k = f := by
  refine sAc_at (a := a) (cA := cA) (n := n) ?_
  rw [List.getElem?_set]
  have hl := (List.getElem?_eq_some_iff.mp h).1
  simp [hl]
theorem sAc_obj {ws : va_W} {k a : Nat} {cj : Nat} {vs vs' : List Value} (h : ws[k]? = some (a, .inr (cj, vs))) (j : Nat) : sAc (ws.set k (a, .inr (cj, vs'))) j = sAc ws j := by
  by_cases e : j = k
  · subst e
    unfold sAc
    have hl := (List.getElem?_eq_some_iff.mp h).1
    rw [List.getElem?_set, h]
    simp [hl]
  · exact sAc_other e
theorem sAc_long {ws : va_W} {k a : Nat} {cA cA' : ClassId} {n n' : Nat} {f f' : Nat → Int64} (h : ws[k]? = some (a, .inl (cA, n, .inr (.inl f)))) (j : Nat) : sAc (ws.set k (a, .inl (cA', n', .inr (.inl f')))) j = sAc ws j := by
  by_cases e : j = k
  · subst e
    unfold sAc
    have hl := (List.getElem?_eq_some_iff.mp h).1
    rw [List.getElem?_set, h]
    simp [hl]
  · exact sAc_other e
/-- facts that don't speak of cell r -/
def sFu128 : Nat := 340282366920938463463374607431768211455
def sMk0 (m r : Nat) : Nat := Nat.land m (Nat.xor sFu128 (Nat.pow 2 r))
theorem sMk0_bit {m r k : Nat} (hk : k < 128) (h : (sMk0 m r).testBit k = true) : m.testBit k = true ∧ k ≠ r := by
  unfold sMk0 at h
  have h1 : (m &&& (sFu128 ^^^ 2 ^ r)).testBit k = true := h
  rw [Nat.testBit_and, Bool.and_eq_true, Nat.testBit_xor] at h1
  refine ⟨h1.1, fun e => ?_⟩
  subst e
  have h2 := h1.2
  have h3 : sFu128.testBit k = true := by
    have e : sFu128 = 2 ^ 128 - 1 := by decide
    rw [e, Nat.testBit_two_pow_sub_one]
    exact decide_eq_true hk
  rw [h3, Nat.testBit_two_pow_self] at h2
  cases h2
/-- the rows that are as they were, but r -/
def sK70 (r : Nat) (f : sFc) : sFc := Bool.rec (motive := fun _ => sFc) f (70, f.2.1, f.2.2.map fun m => sMk0 m r) (Nat.beq f.1 70)
def sKeep (G : List sFc) (r : Nat) : List sFc := (G.filter fun f => Nat.beq f.1 70 || !(sCl f).contains r).map (sK70 r)
theorem sKeep_ok {A A' : Nat → Nat → Int32} {L : Nat} {sc : Nat → Int32} {ρ : List Int} {G : List sFc} {r : Nat} (h : ∀ f ∈ G, sWf A L sc ρ f) (hA : ∀ k, k ≠ r → A' k = A k) : ∀ f ∈ sKeep G r, sWf A' L sc ρ f := by
  intro f0 hf0
  unfold sKeep at hf0
  obtain ⟨f, hf, rfl⟩ := List.mem_map.mp hf0
  obtain ⟨h1, h2⟩ := List.mem_filter.mp hf
  have hw := h f h1
  unfold sK70
  cases e : Nat.beq f.1 70 with
  | false =>
    show sWf A' L sc ρ f
    refine sWf_cells (fun k hk => hA k (fun e' => ?_)) hw
    subst e'
    rw [e] at h2
    simp [hk] at h2
  | true =>
    obtain ⟨t, as, ps⟩ := f
    have e1 : t = 70 := Nat.eq_of_beq_eq_true e
    subst e1
    show sWf A' L sc ρ (70, as, ps.map fun m => sMk0 m r)
    cases as with
    | cons a as => trivial
    | nil =>
      cases ps with
      | nil => trivial
      | cons m ps =>
        cases ps with
        | cons m' ps => trivial
        | nil =>
          intro k hk hb j
          obtain ⟨b1, b2⟩ := sMk0_bit hk hb
          rw [hA k b2]
          exact hw k hk b1 j
theorem sWf_same {A A' : Nat → Nat → Int32} {L : Nat} {sc : Nat → Int32} {ρ : List Int} {G : List sFc} (h : ∀ f ∈ G, sWf A L sc ρ f) (hA : ∀ k, A' k = A k) : ∀ f ∈ G, sWf A' L sc ρ f := fun f hf => sWf_cells (fun k _ => hA k) (h f hf)
end
