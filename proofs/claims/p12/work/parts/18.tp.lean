noncomputable section
/-! ===== what holds of the rows behind a store ===== -/
/-- the signs grew by one -/
def sU2 (env : sE) (d n y : sV) : Option sFc := match sRg env y, sRg env d with
  | some (y0, y1), some (d0, d1) => if -8 ≤ y0 ∧ d1 ≤ 63 then some (16, [(d.1, d.2 + 1), (n.1, n.2 + 1)], []) else if y0 = -28 ∧ y1 = -28 ∧ 1 ≤ d0 then some (16, [d, (n.1, n.2 + 1)], []) else if y1 ≤ -20 ∧ (-28 < y0 ∨ y1 < -28) ∧ 2 ≤ d0 then some (16, [(d.1, d.2 + -1), (n.1, n.2 + 1)], []) else none
  | _, _ => none
def sHiLt (env : sE) (x : sV) (b : Int) : Bool := match sHi env x with
  | some z => decide (z < b)
  | none => false
def sLoGe (env : sE) (x : sV) (b : Int) : Bool := match sLo env x with
  | some z => decide (b ≤ z)
  | none => false
/-- what becomes of a fact on the signs where y is stored at x -/
def sSt1 (env : sE) (G : List sFc) (x y : sV) (f : sFc) : List sFc := match f with
  | (16, [d, n], _) => if sN env (n.1, n.2 + 700) = x then (match sU2 env d n y with
      | some g => [g]
      | none => []) else if sHiLt env x 700 = true then [f] else []
  | (17, [_], _) => if sLoGe env x 700 = true then [f] else []
  | (19, [j], _) => if sN env j = x ∧ sHiLt env x 700 = true ∧ sHas G (20, [j, y], []) = true then [(19, [(j.1, j.2 + 1)], [])] else []
  | _ => []
def sQ1 (env : sE) (x y : sV) (p : Nat) (f : sFc) : Bool := match f with
  | (11, [x', y'], [p']) => decide (p' = p) && (decide (x' = x) && (sLoGe env y' 2 || (sHiLt env y' 0 || (sLoGe env y 0 && sHiLt env y 8))))
  | _ => false
/-- rows of the tables, of the settings and of the acts, and the reference's tape: what is stored is minded, what speaks of other places stays -/
def sTbl (k : Nat) : Bool := Nat.beq (Nat.land (Nat.shiftRight 145388907117658496019788593294737408 k) 1) 1
theorem sA2_c3 {ρ : List Int} {a1 a2 a3 : sV} {zs : List Int} (h : sA2 (fun a z => sEv ρ a = some z) [a1, a2, a3] zs) : ∃ z1 z2 z3 : Int, zs = [z1, z2, z3] ∧ sEv ρ a1 = some z1 ∧ sEv ρ a2 = some z2 ∧ sEv ρ a3 = some z3 := by
  obtain ⟨z1, t, rfl, p1, h⟩ := sA2_cons h
  obtain ⟨z2, t, rfl, p2, h⟩ := sA2_cons h
  obtain ⟨z3, t, rfl, p3, h⟩ := sA2_cons h
  cases sA2_nil h
  exact ⟨z1, z2, z3, rfl, p1, p2, p3⟩
theorem sA2_c7 {ρ : List Int} {a1 a2 a3 a4 a5 a6 a7 : sV} {zs : List Int} (h : sA2 (fun a z => sEv ρ a = some z) [a1, a2, a3, a4, a5, a6, a7] zs) : ∃ z1 z2 z3 z4 z5 z6 z7 : Int, zs = [z1, z2, z3, z4, z5, z6, z7] ∧ sEv ρ a1 = some z1 ∧ sEv ρ a2 = some z2 ∧ sEv ρ a3 = some z3 ∧ sEv ρ a4 = some z4 ∧ sEv ρ a5 = some z5 ∧ sEv ρ a6 = some z6 ∧ sEv ρ a7 = some z7 := by
  obtain ⟨z1, t, rfl, p1, h⟩ := sA2_cons h
  obtain ⟨z2, t, rfl, p2, h⟩ := sA2_cons h
  obtain ⟨z3, t, rfl, p3, h⟩ := sA2_cons h
  obtain ⟨z4, t, rfl, p4, h⟩ := sA2_cons h
  obtain ⟨z5, t, rfl, p5, h⟩ := sA2_cons h
  obtain ⟨z6, t, rfl, p6, h⟩ := sA2_cons h
  obtain ⟨z7, t, rfl, p7, h⟩ := sA2_cons h
  cases sA2_nil h
  exact ⟨z1, z2, z3, z4, z5, z6, z7, rfl, p1, p2, p3, p4, p5, p6, p7⟩
theorem sA2_c8 {ρ : List Int} {a1 a2 a3 a4 a5 a6 a7 a8 : sV} {zs : List Int} (h : sA2 (fun a z => sEv ρ a = some z) [a1, a2, a3, a4, a5, a6, a7, a8] zs) : ∃ z1 z2 z3 z4 z5 z6 z7 z8 : Int, zs = [z1, z2, z3, z4, z5, z6, z7, z8] ∧ sEv ρ a1 = some z1 ∧ sEv ρ a2 = some z2 ∧ sEv ρ a3 = some z3 ∧ sEv ρ a4 = some z4 ∧ sEv ρ a5 = some z5 ∧ sEv ρ a6 = some z6 ∧ sEv ρ a7 = some z7 ∧ sEv ρ a8 = some z8 := by
  obtain ⟨z1, t, rfl, p1, h⟩ := sA2_cons h
  obtain ⟨z2, t, rfl, p2, h⟩ := sA2_cons h
  obtain ⟨z3, t, rfl, p3, h⟩ := sA2_cons h
  obtain ⟨z4, t, rfl, p4, h⟩ := sA2_cons h
  obtain ⟨z5, t, rfl, p5, h⟩ := sA2_cons h
  obtain ⟨z6, t, rfl, p6, h⟩ := sA2_cons h
  obtain ⟨z7, t, rfl, p7, h⟩ := sA2_cons h
  obtain ⟨z8, t, rfl, p8, h⟩ := sA2_cons h
  cases sA2_nil h
  exact ⟨z1, z2, z3, z4, z5, z6, z7, z8, rfl, p1, p2, p3, p4, p5, p6, p7, p8⟩
def sPls (env : sE) (o m : sV) : Option sV := match sN env o, sN env m with
  | (0, c), (t, z) => some (t, z + c)
  | (t, z), (0, c) => some (t, z + c)
  | _, _ => none
theorem sPls_ok {ρ : List Int} {nx : Nat} {env : sE} (h : sOk ρ nx env) {o m p : sV} {a b : Int} (ho : sEv ρ o = some a) (hm : sEv ρ m = some b) (hp : sPls env o m = some p) : sEv ρ p = some (a + b) := by
  have h1 := sN_ev h ho
  have h2 := sN_ev h hm
  unfold sPls at hp
  split at hp
  · rename_i c t z e1 e2
    cases hp
    rw [e1] at h1
    rw [e2] at h2
    have : c = a := Option.some.inj h1
    subst this
    have := sEv_a1 h2 c
    rw [Int.add_comm b c] at this
    exact this
  · rename_i t z c e3 e1 e2
    cases hp
    rw [e1] at h1
    rw [e2] at h2
    have : c = b := Option.some.inj h2
    subst this
    exact sEv_a1 h1 c
  · cases hp
/-- y is c times m; or not less than that -/
def sPr1 (env : sE) (y : sV) (c : Int) (m : sV) (ge : Bool) (f : sFc) : Bool := match f with
  | (5, [r, a, b], [1]) => ((sVe (sN env a) (0, c) && sVe (sN env b) m) || (sVe (sN env b) (0, c) && sVe (sN env a) m)) && (Nat.beq (sN env r).1 y.1 && (if ge = true then decide ((sN env r).2 ≤ y.2) else decide ((sN env r).2 = y.2)))
  | _ => false
def sPr0 (y m : sV) (c : Int) (ge : Bool) : Bool := Nat.beq y.1 0 && (Nat.beq m.1 0 && (if ge = true then decide (c * m.2 ≤ y.2) else decide (y.2 = c * m.2)))
def sPrd (κ : sCx) (y : sV) (c : Int) (m : sV) (ge : Bool) : Bool := sPr0 (sN κ.2.1 y) (sN κ.2.1 m) c ge || κ.2.2.any (sPr1 κ.2.1 (sN κ.2.1 y) c (sN κ.2.1 m) ge)
theorem sPrd_ok {ρ : List Int} {κ : sCx} (hs : sCok ρ κ) {y m : sV} {c u v : Int} {ge : Bool} (hy : sEv ρ y = some u) (hm : sEv ρ m = some v) (h : sPrd κ y c m ge = true) : (ge = true → c * v ≤ u) ∧ (ge = false → u = c * v) := by
  have h1 := sN_ev hs.1 hy
  have h2 := sN_ev hs.1 hm
  unfold sPrd at h
  generalize sN κ.2.1 y = y' at h h1
  generalize sN κ.2.1 m = m' at h h2
  rw [Bool.or_eq_true] at h
  rcases h with h | h
  · obtain ⟨t, a⟩ := y'
    obtain ⟨w, b⟩ := m'
    unfold sPr0 at h
    simp only [Bool.and_eq_true] at h
    obtain ⟨e1, e2, h⟩ := h
    have e1 := Nat.eq_of_beq_eq_true e1
    have e2 := Nat.eq_of_beq_eq_true e2
    subst e1; subst e2
    have e3 : a = u := Option.some.inj h1
    have e4 : b = v := Option.some.inj h2
    subst e3; subst e4
    cases ge with
    | true => exact ⟨fun _ => of_decide_eq_true h, fun q => by cases q⟩
    | false => exact ⟨(fun q => by cases q), fun _ => of_decide_eq_true h⟩
  · obtain ⟨f, hf, h⟩ := List.any_eq_true.mp h
    have hp := hs.2 f hf
    unfold sPr1 at h
    split at h
    · rename_i r a b
      obtain ⟨x, p, q, g1, g2, g3, g4⟩ := hp
      have g4 : x = p * q := g4
      simp only [Bool.and_eq_true, Bool.or_eq_true] at h
      obtain ⟨h3, h4, h5⟩ := h
      have n1 := sN_ev hs.1 g1
      have n2 := sN_ev hs.1 g2
      have n3 := sN_ev hs.1 g3
      have hx : x = c * v := by
        rcases h3 with ⟨e1, e2⟩ | ⟨e1, e2⟩
        · rw [sVe_eq e1] at n2
          rw [sVe_eq e2, h2] at n3
          have : c = p := Option.some.inj n2
          have : v = q := Option.some.inj n3
          subst_vars
          rfl
        · rw [sVe_eq e1] at n3
          rw [sVe_eq e2, h2] at n2
          have : c = q := Option.some.inj n3
          have : v = p := Option.some.inj n2
          subst_vars
          exact Int.mul_comm _ _
      have hd := sEv_same (Nat.eq_of_beq_eq_true h4) n1 h1
      cases ge with
      | true =>
        have h5 : (sN κ.2.1 r).2 ≤ y'.2 := of_decide_eq_true h5
        exact ⟨fun _ => by omega, fun q => by cases q⟩
      | false =>
        have h5 : (sN κ.2.1 r).2 = y'.2 := of_decide_eq_true h5
        exact ⟨(fun q => by cases q), fun _ => by omega⟩
    · cases h
/-- the entry at x is y -/
def sHv1 (env : sE) (k : Nat) (x y : sV) (f : sFc) : Bool := match f with
  | (15, [x', y'], [k']) => Nat.beq k' k && (sVe (sN env x') x && sVe (sN env y') y)
  | _ => false
def sHv (κ : sCx) (G : List sFc) (k : Nat) (x y : sV) : Bool := G.any (sHv1 κ.2.1 k x y)
theorem sHv_ok {A : Nat → Nat → Int32} {L : Nat} {sc : Nat → Int32} {ρ : List Int} {κ : sCx} {G : List sFc} {k : Nat} {x y : sV} {m n : Int} (hs : sCok ρ κ) (hG : ∀ f ∈ G, sWf A L sc ρ f) (hx : sEv ρ x = some m) (hy : sEv ρ y = some n) (h : sHv κ G k x y = true) : 0 ≤ m ∧ (A k m.toNat).toInt = n := by
  obtain ⟨f, hf, h⟩ := List.any_eq_true.mp h
  have hw := hG f hf
  unfold sHv1 at h
  split at h
  · rename_i x' y' k'
    simp only [Bool.and_eq_true] at h
    obtain ⟨e, e1, e2⟩ := h
    have e := Nat.eq_of_beq_eq_true e
    subst e
    obtain ⟨u, v, g1, g2, g3, g4⟩ := hw
    have n1 := sN_ev hs.1 g1
    have n2 := sN_ev hs.1 g2
    rw [sVe_eq e1, hx] at n1
    rw [sVe_eq e2, hy] at n2
    cases n1; cases n2
    exact ⟨g3, g4⟩
  · cases h
def sSam1 (κ : sCx) (G : List sFc) (k : Nat) (x y : sV) (f : sFc) : Bool := match f with
  | (65, [m, x1, x2], [r1, r2]) => Nat.beq r2 k && (match sN κ.2.1 x1, sN κ.2.1 x2 with
    | (0, c), (0, z) => decide (z = 0) && (sHv κ G r1 (x.1, x.2 + c) y && sDn κ.2.1 κ.2.2 m (x.1, x.2 + 1))
    | _, _ => false)
  | _ => false
/-- what is stored stands there already -/
def sSam (κ : sCx) (G : List sFc) (k : Nat) (x y : sV) : Bool := sHv κ G k x y || G.any (sSam1 κ G k x y)
theorem sSam_ok {A : Nat → Nat → Int32} {L : Nat} {sc : Nat → Int32} {ρ : List Int} {κ : sCx} {G : List sFc} {k j : Nat} {x y : sV} {n : Int} (hs : sCok ρ κ) (hG : ∀ f ∈ G, sWf A L sc ρ f) (hx : sEv ρ x = some (j : Int)) (hy : sEv ρ y = some n) (h : sSam κ G k x y = true) : (A k j).toInt = n := by
  unfold sSam at h
  rw [Bool.or_eq_true] at h
  rcases h with h | h
  · have := (sHv_ok hs hG hx hy h).2
    rw [Int.toNat_natCast] at this
    exact this
  · obtain ⟨f, hf, h'⟩ := List.any_eq_true.mp h
    clear h
    have h := h'
    clear h'
    have hw := hG f hf
    unfold sSam1 at h
    split at h
    · rename_i m x1 x2 r1 r2
      rw [Bool.and_eq_true] at h
      obtain ⟨e, h⟩ := h
      have e := Nat.eq_of_beq_eq_true e
      subst e
      obtain ⟨zs, g1, g2⟩ := hw
      obtain ⟨z1, z2, z3, rfl, p1, p2, p3⟩ := sA2_c3 g1
      obtain ⟨q1, q2, q3⟩ := g2
      split at h
      · rename_i c z e1 e2
        simp only [Bool.and_eq_true, decide_eq_true_eq] at h
        obtain ⟨rfl, h1, h2⟩ := h
        have n1 := sN_ev hs.1 p2
        have n2 := sN_ev hs.1 p3
        rw [e1] at n1
        rw [e2] at n2
        have n1 : c = z2 := Option.some.inj n1
        have n2 : 0 = z3 := Option.some.inj n2
        subst n1; subst n2
        have h3 := sHv_ok hs hG (sEv_a1 hx c) hy h1
        have h4 := sDn_ok hs.1 hs.2 p1 (sEv_a1 hx 1) h2
        have h5 := q3 j (by omega)
        rw [show c.toNat + j = ((j : Int) + c).toNat by omega, show (0 : Int).toNat + j = j by show 0 + j = j; omega] at h5
        rw [← h5]
        exact h3.2
      · cases h
    · cases h
/-- the acts' history stands where its rows do -/
theorem gA7_of {A A' : Nat → Nat → Int32} {kr wr pr plr ok ow : Nat} {n s h b c p k k' po : Int} (hA : gA7 A [kr, wr, pr, plr, ok, ow] [n, s, h, b, c, p, k, po])
    (hk : ∀ i : Nat, (i : Int) < n → A' kr (ok + i) = A kr (ok + i)) (hw : ∀ i : Nat, (i : Int) < n → A' wr (ow + i) = A wr (ow + i))
    (hp : ∀ i t : Nat, (i : Int) < n → t < 17 → A' pr (gLo k' (17 * (i + 1) + t)) = A pr (gLo k (17 * (i + 1) + t)))
    (hl : ∀ i j : Nat, (i : Int) + 1 = n → (j : Int) < 3 * gFl (A pr) n k [s, h, b, c, p] i 4 → A' plr (po.toNat + j) = A plr (po.toNat + j) ∨ A' plr (po.toNat + j) = A pr (gLo k (17 * (i + 1) + (5 + j)))) : gA7 A' [kr, wr, pr, plr, ok, ow] [n, s, h, b, c, p, k', po] := by
  obtain ⟨h1, h2, h3, h4⟩ := hA
  refine ⟨h1, h2, h3, fun i hi => ?_⟩
  have hi4 := h4 i hi
  have eF : ∀ t, t < 17 → gFl (A' pr) n k' [s, h, b, c, p] i t = gFl (A pr) n k [s, h, b, c, p] i t := fun t ht => by
    unfold gFl
    rw [if_pos hi, if_pos hi, hp i t hi ht]
  have eF' : ∀ t, t < 17 → gFl (A' pr) n k' [s, h, b, c, p] (i + 1) t = gFl (A pr) n k [s, h, b, c, p] (i + 1) t := fun t ht => by
    unfold gFl
    by_cases q : ((i + 1 : Nat) : Int) < n
    · rw [if_pos q, if_pos q, hp (i + 1) t q ht]
    · rw [if_neg q, if_neg q]
  unfold gAc at hi4 ⊢
  rw [hk i hi, hw i hi, eF 0 (by decide), eF 1 (by decide), eF 2 (by decide), eF 3 (by decide), eF 4 (by decide), eF' 0 (by decide), eF' 1 (by decide), eF' 2 (by decide), eF' 3 (by decide), eF' 4 (by decide)]
  obtain ⟨a1, a2, a3, a4, a5, a6⟩ := hi4
  refine ⟨a1, a2, a3, a4, fun j hj => ?_, a6⟩
  have hj2 := a5 j hj
  have e1 : gPl (A' pr) (A' plr) n k' po i j = gPl (A pr) (A plr) n k po i j := by
    unfold gPl
    rw [if_pos hi, if_pos hi, show 17 * (i + 1) + 5 + j = 17 * (i + 1) + (5 + j) by omega, hp i (5 + j) hi (by omega)]
  rw [e1]
  by_cases q : ((i + 1 : Nat) : Int) < n
  · rw [← hj2]
    unfold gPl
    rw [if_pos q, if_pos q, show 17 * (i + 1 + 1) + 5 + j = 17 * (i + 1 + 1) + (5 + j) by omega, hp (i + 1) (5 + j) q (by omega)]
  · have e2 : gPl (A' pr) (A' plr) n k' po (i + 1) j = A' plr (po.toNat + j) := by
      unfold gPl
      rw [if_neg q]
    rw [e2]
    rcases hl i j (by omega) hj with g | g
    · rw [g, ← hj2]
      unfold gPl
      rw [if_neg q]
    · rw [g]
      unfold gPl
      rw [if_pos hi, show 17 * (i + 1) + 5 + j = 17 * (i + 1) + (5 + j) by omega]
/-- who was planted before the last act is not more than now -/
theorem gA7_p {A : Nat → Nat → Int32} {kr wr pr plr ok ow : Nat} {n s h b c p k po : Int} (hA : gA7 A [kr, wr, pr, plr, ok, ow] [n, s, h, b, c, p, k, po]) {i : Nat} (hi : (i : Int) + 1 = n) : gFl (A pr) n k [s, h, b, c, p] i 4 ≤ p ∧ 0 ≤ gFl (A pr) n k [s, h, b, c, p] i 4 ∧ gFl (A pr) n k [s, h, b, c, p] i 4 ≤ 4 := by
  obtain ⟨h1, h2, h3, h4⟩ := hA
  obtain ⟨a1, a2, a3, a4, a5, a6, a7, a8, a9, a10⟩ := h4 i (by omega)
  have e : gFl (A pr) n k [s, h, b, c, p] (i + 1) 4 = p := by
    unfold gFl
    rw [if_neg (by omega)]
    rfl
  rw [e] at a10
  refine ⟨?_, a3, a4⟩
  split at a10 <;> omega
def sD4 (a b c d : Nat) : Bool := !(Nat.beq a b) && (!(Nat.beq a c) && (!(Nat.beq a d) && (!(Nat.beq b c) && (!(Nat.beq b d) && !(Nat.beq c d)))))
theorem sNb {a b : Nat} (h : (!(Nat.beq a b)) = true) : a ≠ b := fun e => by
  subst e
  rw [Nat.beq_refl] at h
  cases h
theorem sD4_ok {a b c d : Nat} (h : sD4 a b c d = true) : a ≠ b ∧ a ≠ c ∧ a ≠ d ∧ b ≠ c ∧ b ≠ d ∧ c ≠ d := by
  unfold sD4 at h
  rw [Bool.and_eq_true, Bool.and_eq_true, Bool.and_eq_true, Bool.and_eq_true, Bool.and_eq_true] at h
  exact ⟨sNb h.1, sNb h.2.1, sNb h.2.2.1, sNb h.2.2.2.1, sNb h.2.2.2.2.1, sNb h.2.2.2.2.2⟩
def sA1 (κ : sCx) (x : sV) (k r : Nat) (o m : sV) : Bool := !(Nat.beq r k) || ((match sPls κ.2.1 o m with
  | some t => sDn κ.2.1 κ.2.2 x t
  | none => false) || sDn κ.2.1 κ.2.2 o (x.1, x.2 + 1))
theorem sA1_ok {ρ : List Int} {κ : sCx} (hs : sCok ρ κ) {x o m : sV} {k r j : Nat} {a b : Int} (hx : sEv ρ x = some (j : Int)) (ho : sEv ρ o = some a) (hm : sEv ρ m = some b) (h : sA1 κ x k r o m = true) : r = k → a + b ≤ (j : Int) ∨ (j : Int) + 1 ≤ a := by
  intro e
  subst e
  unfold sA1 at h
  rw [Nat.beq_refl] at h
  simp only [Bool.not_true, Bool.false_or, Bool.or_eq_true] at h
  rcases h with h | h
  · split at h
    · rename_i t ht
      exact Or.inl (sDn_ok hs.1 hs.2 hx (sPls_ok hs.1 ho hm ht) h)
    · cases h
  · exact Or.inr (sDn_ok hs.1 hs.2 ho (sEv_a1 hx 1) h)
def sXr (κ : sCx) (G : List sFc) (k : Nat) (x y : sV) (g : sFc) : Bool := match g with
  | (5, [r, a, b], [9]) => sVe (sN κ.2.1 r) y && (sVe (sN κ.2.1 b) (0, 1) && sHv κ G k x (sN κ.2.1 a))
  | _ => false
/-- the block that is stored back -/
def sBk1 (κ : sCx) (G : List sFc) (pr : Nat) (n : sV) (c : Int) (y : sV) (g : sFc) : Bool := match g with
  | (5, [r, a, b], [1]) => ((sVe (sN κ.2.1 a) (0, 17) && sVe (sN κ.2.1 b) (sN κ.2.1 (n.1, n.2 + -1))) || (sVe (sN κ.2.1 b) (0, 17) && sVe (sN κ.2.1 a) (sN κ.2.1 (n.1, n.2 + -1)))) && sHv κ G pr (sN κ.2.1 (r.1, r.2 + (5 + c))) y
  | _ => false
def sBk0 (κ : sCx) (G : List sFc) (pr : Nat) (n : sV) (c : Int) (y : sV) : Bool := match sN κ.2.1 (n.1, n.2 + -1) with
  | (0, z) => sHv κ G pr (0, 17 * z + 5 + c) y
  | _ => false
theorem sBk_ok {A : Nat → Nat → Int32} {L : Nat} {sc : Nat → Int32} {ρ : List Int} {κ : sCx} {G : List sFc} {pr : Nat} {n y : sV} {c zn zy : Int} (hs : sCok ρ κ) (hG : ∀ f ∈ G, sWf A L sc ρ f) (hn : sEv ρ n = some zn) (hy : sEv ρ y = some zy) (h : (sBk0 κ G pr n c y || κ.2.2.any (sBk1 κ G pr n c y)) = true) : 0 ≤ 17 * (zn - 1) + (5 + c) ∧ (A pr (17 * (zn - 1) + (5 + c)).toNat).toInt = zy := by
  have hn1 := sN_ev hs.1 (sEv_a1 hn (-1))
  rw [Bool.or_eq_true] at h
  rcases h with h | h
  · unfold sBk0 at h
    split at h
    · rename_i z e
      rw [e] at hn1
      have e1 : z = zn + -1 := Option.some.inj hn1
      subst e1
      have := sHv_ok (m := 17 * (zn + -1) + 5 + c) hs hG rfl hy h
      rw [show 17 * (zn - 1) + (5 + c) = 17 * (zn + -1) + 5 + c by omega]
      exact this
    · cases h
  · obtain ⟨f, hf, h⟩ := List.any_eq_true.mp h
    have hp := hs.2 f hf
    unfold sBk1 at h
    split at h
    · rename_i r a b
      obtain ⟨x, p, q, g1, g2, g3, g4⟩ := hp
      have g4 : x = p * q := g4
      simp only [Bool.and_eq_true, Bool.or_eq_true] at h
      obtain ⟨h3, h4⟩ := h
      have n2 := sN_ev hs.1 g2
      have n3 := sN_ev hs.1 g3
      have hx : x = 17 * (zn + -1) := by
        rcases h3 with ⟨e1, e2⟩ | ⟨e1, e2⟩
        · rw [sVe_eq e1] at n2
          rw [sVe_eq e2, hn1] at n3
          have w1 : 17 = p := Option.some.inj n2
          have w2 : zn + -1 = q := Option.some.inj n3
          rw [g4, ← w1, ← w2]
        · rw [sVe_eq e1] at n3
          rw [sVe_eq e2, hn1] at n2
          have w1 : 17 = q := Option.some.inj n3
          have w2 : zn + -1 = p := Option.some.inj n2
          rw [g4, ← w1, ← w2, Int.mul_comm]
      have := sHv_ok hs hG (sN_ev hs.1 (sEv_a1 g1 (5 + c))) hy h4
      rw [hx, show 17 * (zn + -1) + (5 + c) = 17 * (zn - 1) + (5 + c) by omega] at this
      exact this
    · cases h
def sSkB (κ : sCx) (k : Nat) (x : sV) (f : sFc) : List sFc := match f with
  | (62, [m], [r, id, o]) => if (Nat.beq r k && sDn κ.2.1 κ.2.2 x (m.1, m.2 + (o : Int))) = true then [(62, [m], [r, id, o])] else []
  | (64, [a, b], [r, w]) => if (Nat.beq r k && (sDn κ.2.1 κ.2.2 x a && sDn κ.2.1 κ.2.2 b (x.1, x.2 + 1))) = true then [(64, [a, b], [r, w])] else []
  | _ => []
theorem sSkB_ok {A A' : Nat → Nat → Int32} {L : Nat} {sc : Nat → Int32} {ρ : List Int} {κ : sCx} {G : List sFc} {k : Nat} {x : sV} {j : Nat} {z : Int32} (hs : sCok ρ κ) (hG : ∀ f ∈ G, sWf A L sc ρ f) (hx : sEv ρ x = some (j : Int)) (hA : A' k = upd (A k) j z) {f g : sFc} (hf : f ∈ G) (h : g ∈ sSkB κ k x f) : sWf A' L sc ρ g := by
  have hw := hG f hf
  unfold sSkB at h
  split at h
  · rename_i m r id o
    split at h
    · rename_i hc
      rw [List.mem_singleton] at h
      subst h
      rw [Bool.and_eq_true] at hc
      have er := Nat.eq_of_beq_eq_true hc.1
      subst er
      obtain ⟨zm, e1, p1, p2⟩ := hw
      have hge := sDn_ok hs.1 hs.2 hx (sEv_a1 e1 (o : Int)) hc.2
      refine ⟨zm, e1, p1, fun i hi => ?_⟩
      rw [hA]
      unfold upd
      rw [if_neg (by omega)]
      exact p2 i hi
    · cases h
  · rename_i a b r w
    split at h
    · rename_i hc
      rw [List.mem_singleton] at h
      subst h
      simp only [Bool.and_eq_true] at hc
      have er := Nat.eq_of_beq_eq_true hc.1
      subst er
      obtain ⟨u, v, e1, e2, p2⟩ := hw
      have h1 := sDn_ok hs.1 hs.2 hx e1 hc.2.1
      have h2 := sDn_ok hs.1 hs.2 e2 (sEv_a1 hx 1) hc.2.2
      refine ⟨u, v, e1, e2, fun i hi hq => ?_⟩
      rw [hA]
      unfold upd
      rw [if_neg (by omega)]
      exact p2 i hi hq
    · cases h
  · cases h
def sSk7 (κ : sCx) (k : Nat) (x y : sV) (G : List sFc) (as : List sV) (ps : List Nat) : List sFc := match as, ps with
  | [n, s, h, b, c, p, kx, po], [kr, wr, pr, plr, ok, ow] => if sD4 kr wr pr plr = true then
      (if Nat.beq k kr = true then (if sDn κ.2.1 κ.2.2 x (n.1, n.2 + (ok : Int)) = true then [(67, [n, s, h, b, c, p, kx, po], [kr, wr, pr, plr, ok, ow])] else [])
      else if Nat.beq k wr = true then (if sDn κ.2.1 κ.2.2 x (n.1, n.2 + (ow : Int)) = true then [(67, [n, s, h, b, c, p, kx, po], [kr, wr, pr, plr, ok, ow])] else [])
      else if Nat.beq k pr = true then (if (sVe (sN κ.2.1 kx) (0, 697) && (sPrd κ x 17 n true && sDn κ.2.1 κ.2.2 (0, 40) n)) = true then [(67, [n, s, h, b, c, p, kx, po], [kr, wr, pr, plr, ok, ow])] else if (sVe (sN κ.2.1 (kx.1, kx.2 + -17)) x && sHv κ G k (sN κ.2.1 kx) y) = true then [(67, [n, s, h, b, c, p, (kx.1, kx.2 + 1), po], [kr, wr, pr, plr, ok, ow])] else [])
      else if Nat.beq k plr = true then (if (sVe (sN κ.2.1 po) (0, 0) && (sPrd κ x 3 p true || (Nat.beq x.1 0 && (sVe (sN κ.2.1 kx) (0, 697) && (sDn κ.2.1 κ.2.2 (0, 40) n && (sBk0 κ G pr n x.2 y || κ.2.2.any (sBk1 κ G pr n x.2 y))))))) = true then [(67, [n, s, h, b, c, p, kx, po], [kr, wr, pr, plr, ok, ow])] else [])
      else []) else []
  | _, _ => []
def sSk8 (κ : sCx) (k : Nat) (x : sV) (as : List sV) (ps : List Nat) : List sFc := match as, ps with
  | [n, s, h, b, c, p, q], [pr, plr] => if (Nat.beq plr k && !(Nat.beq pr k)) = true then
      (if (sDn κ.2.1 κ.2.2 x q || (sPrd κ x 3 p true && sPrd κ q 3 p false)) = true then [(68, [n, s, h, b, c, p, q], [pr, plr])] else if (sDn κ.2.1 κ.2.2 q x && sDn κ.2.1 κ.2.2 x (0, 0)) = true then [(68, [n, s, h, b, c, p, x], [pr, plr])] else []) else []
  | _, _ => []
def sSk (κ : sCx) (k : Nat) (x y : sV) (G : List sFc) (f : sFc) : List sFc := match f with
  | (15, [x', v], [r]) => if (Nat.beq r k && (Nat.beq x'.1 x.1 && !(decide (x'.2 = x.2)))) = true then [(15, [x', v], [r])] else []
  | (62, [m], [r, id, o]) => if (Nat.beq r k && (sDn κ.2.1 κ.2.2 x (m.1, m.2 + (o : Int)) || sDn κ.2.1 κ.2.2 (0, (o : Int)) (x.1, x.2 + 1))) = true then [(62, [m], [r, id, o])] else []
  | (64, [a, b], [r, w]) => if (Nat.beq r k && (sDn κ.2.1 κ.2.2 x a && sDn κ.2.1 κ.2.2 b (x.1, x.2 + 1))) = true then [(64, [a, b], [r, w])] else []
  | (65, [m, x1, x2], [r1, r2]) => if ((Nat.beq r1 k || Nat.beq r2 k) && (sA1 κ x k r1 x1 m && sA1 κ x k r2 x2 m)) = true then [(65, [m, x1, x2], [r1, r2])] else []
  | (66, [v, m, _], [r, f0]) => if (Nat.beq r k && (Nat.beq f0 0 && κ.2.2.any (sXr κ G k x y))) = true then [(66, [v, m, x], [r, 1])] else []
  | (67, as, ps) => sSk7 κ k x y G as ps
  | (68, as, ps) => sSk8 κ k x as ps
  | (80, as, hh :: t) => if ((sC9 (hh :: t)).contains k && Nat.blt hh 9) = true then [(80, x :: (x.1, x.2 + 1) :: as, (hh + 1) :: k :: t)] else []
  | _ => []
section SKO
variable {A A' : Nat → Nat → Int32} {L : Nat} {sc : Nat → Int32} {ρ : List Int} {κ : sCx} {G : List sFc} {k : Nat} {x y : sV} {j : Nat} {z : Int32}
theorem sUpd_ne (hA : A' k = upd (A k) j z) (hO : ∀ i, i ≠ k → A' i = A i) {r i : Nat} (h : r = k → i ≠ j) : A' r i = A r i := by
  by_cases e : r = k
  · subst e
    rw [hA]
    unfold upd
    rw [if_neg (h rfl)]
  · rw [hO r e]
theorem sSk7_ok (hs : sCok ρ κ) (hG : ∀ f ∈ G, sWf A L sc ρ f) (hx : sEv ρ x = some (j : Int)) (hy : sEv ρ y = some z.toInt) (hA : A' k = upd (A k) j z) (hO : ∀ i, i ≠ k → A' i = A i) {as : List sV} {ps : List Nat} (hw : sWf A L sc ρ (67, as, ps)) {g : sFc} (h : g ∈ sSk7 κ k x y G as ps) : sWf A' L sc ρ g := by
  unfold sSk7 at h
  split at h
  · rename_i n s hh b c p kx po kr wr pr plr ok ow
    obtain ⟨zs, g1, g2⟩ := hw
    obtain ⟨zn, zs', zh, zb, zc, zp, zk, zo, rfl, e1, e2, e3, e4, e5, e6, e7, e8⟩ := sA2_c8 g1
    have hb := g2
    obtain ⟨b1, b2, b3, -⟩ := hb
    split at h
    · rename_i hd
      obtain ⟨d1, d2, d3, d4, d5, d6⟩ := sD4_ok hd
      split at h
      · rename_i ek
        have ek := Nat.eq_of_beq_eq_true ek
        subst ek
        split at h
        · rename_i hc
          rw [List.mem_singleton] at h
          subst h
          have h1 := sDn_ok hs.1 hs.2 hx (sEv_a1 e1 (ok : Int)) hc
          refine ⟨_, g1, gA7_of g2 (fun i hi => sUpd_ne hA hO (fun _ => by omega)) (fun i hi => by rw [hO _ (Ne.symm d1)]) (fun i t hi ht => by rw [hO _ (Ne.symm d2)]) (fun i t hi ht => Or.inl (by rw [hO _ (Ne.symm d3)]))⟩
        · cases h
      · split at h
        · rename_i ek
          have ek := Nat.eq_of_beq_eq_true ek
          subst ek
          split at h
          · rename_i hc
            rw [List.mem_singleton] at h
            subst h
            have h1 := sDn_ok hs.1 hs.2 hx (sEv_a1 e1 (ow : Int)) hc
            refine ⟨_, g1, gA7_of g2 (fun i hi => by rw [hO _ d1]) (fun i hi => sUpd_ne hA hO (fun _ => by omega)) (fun i t hi ht => by rw [hO _ (Ne.symm d4)]) (fun i t hi ht => Or.inl (by rw [hO _ (Ne.symm d5)]))⟩
          · cases h
        · split at h
          · rename_i ek
            have ek := Nat.eq_of_beq_eq_true ek
            subst ek
            split at h
            · rename_i hc
              rw [List.mem_singleton] at h
              subst h
              simp only [Bool.and_eq_true] at hc
              have h1 := (sPrd_ok hs hx e1 hc.2.1).1 rfl
              have h2 := sDn_ok hs.1 hs.2 rfl e1 hc.2.2
              have h3 := sN_ev hs.1 e7
              rw [sVe_eq hc.1] at h3
              have h3 : 697 = zk := Option.some.inj h3
              subst h3
              refine ⟨_, g1, gA7_of g2 (fun i hi => by rw [hO _ d2]) (fun i hi => by rw [hO _ d4]) (fun i t hi ht => sUpd_ne hA hO (fun _ => ?_)) (fun i t hi ht => Or.inl (by rw [hO _ (Ne.symm d6)]))⟩
              unfold gLo
              rw [if_pos (by omega)]
              omega
            · split at h
              · rename_i hc
                rw [List.mem_singleton] at h
                subst h
                simp only [Bool.and_eq_true] at hc
                have h3 := sN_ev hs.1 (sEv_a1 e7 (-17))
                rw [sVe_eq hc.1, hx] at h3
                have h3 : (j : Int) = zk + -17 := Option.some.inj h3
                obtain ⟨h4, h5⟩ := sHv_ok hs hG (sN_ev hs.1 e7) hy hc.2
                have h5 : A k zk.toNat = z := Int32.toInt_inj.mp h5
                refine ⟨[zn, zs', zh, zb, zc, zp, zk + 1, zo], ⟨e1, e2, e3, e4, e5, e6, sEv_a1 e7 1, e8, trivial⟩, gA7_of g2 (fun i hi => by rw [hO _ d2]) (fun i hi => by rw [hO _ d4]) (fun i t hi ht => ?_) (fun i t hi ht => Or.inl (by rw [hO _ (Ne.symm d6)]))⟩
                rw [hA]
                unfold upd gLo
                by_cases q1 : ((17 * (i + 1) + t : Nat) : Int) < zk
                · rw [if_pos (show ((17 * (i + 1) + t : Nat) : Int) < zk + 1 by omega), if_pos q1, if_neg (by omega)]
                · rw [if_neg q1]
                  by_cases q2 : ((17 * (i + 1) + t : Nat) : Int) = zk
                  · rw [if_pos (show ((17 * (i + 1) + t : Nat) : Int) < zk + 1 by omega), if_pos (by omega), ← h5]
                    congr 1
                    omega
                  · rw [if_neg (show ¬ ((17 * (i + 1) + t : Nat) : Int) < zk + 1 by omega), if_neg (by omega)]
              · cases h
          · split at h
            · rename_i ek
              have ek := Nat.eq_of_beq_eq_true ek
              subst ek
              split at h
              · rename_i hc
                rw [List.mem_singleton] at h
                subst h
                simp only [Bool.and_eq_true, Bool.or_eq_true] at hc
                obtain ⟨hp0, hc⟩ := hc
                have h3 := sN_ev hs.1 e8
                rw [sVe_eq hp0] at h3
                have h3 : 0 = zo := Option.some.inj h3
                subst h3
                have e0 : ∀ t : Nat, (0 : Int).toNat + t = t := fun t => by show 0 + t = t; omega
                refine ⟨_, g1, gA7_of g2 (fun i hi => by rw [hO _ d3]) (fun i hi => by rw [hO _ d5]) (fun i t hi ht => by rw [hO _ d6]) (fun i t hi ht => ?_)⟩
                have hq := gA7_p g2 hi
                rw [e0]
                rcases hc with hc | ⟨hc0, hc1, hc2, hc3⟩
                · have h1 := (sPrd_ok hs hx e6 hc).1 rfl
                  exact Or.inl (sUpd_ne hA hO (fun _ => by omega))
                · have hc0 := Nat.eq_of_beq_eq_true hc0
                  have h4 := sN_ev hs.1 e7
                  rw [sVe_eq hc1] at h4
                  have h4 : 697 = zk := Option.some.inj h4
                  subst h4
                  have h5 := sDn_ok hs.1 hs.2 rfl e1 hc2
                  have h6 := sEv0 hc0 hx
                  obtain ⟨h7, h8⟩ := sBk_ok hs hG e1 hy (by rw [Bool.or_eq_true]; exact hc3)
                  have h8 := Int32.toInt_inj.mp h8
                  by_cases q : t = j
                  · right
                    subst q
                    rw [hA]
                    unfold upd
                    rw [if_pos rfl, ← h8]
                    have hix : (17 * (zn - 1) + (5 + x.2)).toNat = gLo 697 (17 * (i + 1) + (5 + t)) := by
                      unfold gLo
                      rw [if_pos (by omega)]
                      omega
                    rw [hix]
                  · exact Or.inl (sUpd_ne hA hO (fun _ => q))
              · cases h
            · cases h
    · cases h
  · cases h
theorem sSk8_ok (hs : sCok ρ κ) (hx : sEv ρ x = some (j : Int)) (hA : A' k = upd (A k) j z) (hO : ∀ i, i ≠ k → A' i = A i) {as : List sV} {ps : List Nat} (hw : sWf A L sc ρ (68, as, ps)) {g : sFc} (h : g ∈ sSk8 κ k x as ps) : sWf A' L sc ρ g := by
  unfold sSk8 at h
  split at h
  · rename_i n s hh b c p q pr plr
    obtain ⟨zs, g1, g2⟩ := hw
    obtain ⟨zn, zs', zh, zb, zc, zp, zq, rfl, e1, e2, e3, e4, e5, e6, e7⟩ := sA2_c7 g1
    obtain ⟨b1, b2, b3⟩ := g2
    split at h
    · rename_i hd
      rw [Bool.and_eq_true] at hd
      have ek := Nat.eq_of_beq_eq_true hd.1
      subst ek
      have hne := sNb hd.2
      have hp : A' pr = A pr := hO _ hne
      split at h
      · rename_i hc
        rw [List.mem_singleton] at h
        subst h
        rw [Bool.or_eq_true] at hc
        have hge : zq ≤ (j : Int) := by
          rcases hc with hc | hc
          · exact sDn_ok hs.1 hs.2 hx e7 hc
          · rw [Bool.and_eq_true] at hc
            have h1 := (sPrd_ok hs hx e6 hc.1).1 rfl
            have h2 := (sPrd_ok hs e7 e6 hc.2).2 rfl
            omega
        refine ⟨_, g1, b1, fun t ht => by rw [hp]; exact b2 t ht, fun i hi => ?_⟩
        rw [hp, b3 i hi]
        exact (sUpd_ne hA hO (fun _ => by omega)).symm
      · split at h
        · rename_i hc
          rw [List.mem_singleton] at h
          subst h
          rw [Bool.and_eq_true] at hc
          have h1 := sDn_ok hs.1 hs.2 e7 hx hc.1
          refine ⟨[zn, zs', zh, zb, zc, zp, (j : Int)], ⟨e1, e2, e3, e4, e5, e6, hx, trivial⟩, b1, fun t ht => by rw [hp]; exact b2 t ht, fun i hi => ?_⟩
          rw [hp, b3 i (by omega)]
          exact (sUpd_ne hA hO (fun _ => by omega)).symm
        · cases h
    · cases h
  · cases h
theorem sSk_ok (hs : sCok ρ κ) (hG : ∀ f ∈ G, sWf A L sc ρ f) (hx : sEv ρ x = some (j : Int)) (hy : sEv ρ y = some z.toInt) (hA : A' k = upd (A k) j z) (hO : ∀ i, i ≠ k → A' i = A i) {f g : sFc} (hf : f ∈ G) (h : g ∈ sSk κ k x y G f) : sWf A' L sc ρ g := by
  have hw := hG f hf
  unfold sSk at h
  split at h
  · rename_i x' v r
    split at h
    · rename_i hc
      rw [List.mem_singleton] at h
      subst h
      simp only [Bool.and_eq_true, Bool.not_eq_true', decide_eq_false_iff_not] at hc
      obtain ⟨c1, c2, c3⟩ := hc
      obtain ⟨m, n, e1, e2, e3, e4⟩ := hw
      have hd := sEv_same (Nat.eq_of_beq_eq_true c2) e1 hx
      exact ⟨m, n, e1, e2, e3, by rw [sUpd_ne hA hO (fun _ => by omega)]; exact e4⟩
    · cases h
  · rename_i m r id o
    split at h
    · rename_i hc
      rw [List.mem_singleton] at h
      subst h
      simp only [Bool.and_eq_true, Bool.or_eq_true] at hc
      obtain ⟨zm, e1, p1, p2⟩ := hw
      refine ⟨zm, e1, p1, fun i hi => ?_⟩
      rw [sUpd_ne hA hO (fun _ => ?_)]
      · exact p2 i hi
      · rcases hc.2 with q | q
        · have := sDn_ok hs.1 hs.2 hx (sEv_a1 e1 (o : Int)) q
          omega
        · have := sDn_ok (m := (o : Int)) hs.1 hs.2 rfl (sEv_a1 hx 1) q
          omega
    · cases h
  · rename_i a b r w
    split at h
    · rename_i hc
      rw [List.mem_singleton] at h
      subst h
      simp only [Bool.and_eq_true] at hc
      obtain ⟨u, v, e1, e2, p2⟩ := hw
      have h1 := sDn_ok hs.1 hs.2 hx e1 hc.2.1
      have h2 := sDn_ok hs.1 hs.2 e2 (sEv_a1 hx 1) hc.2.2
      refine ⟨u, v, e1, e2, fun i hi hq => ?_⟩
      rw [sUpd_ne hA hO (fun _ => by omega)]
      exact p2 i hi hq
    · cases h
  · rename_i m x1 x2 r1 r2
    split at h
    · rename_i hc
      rw [List.mem_singleton] at h
      subst h
      simp only [Bool.and_eq_true] at hc
      obtain ⟨zs, g1, g2⟩ := hw
      obtain ⟨z1, z2, z3, rfl, e1, e2, e3⟩ := sA2_c3 g1
      obtain ⟨q1, q2, q3⟩ := g2
      have w1 := sA1_ok hs hx e2 e1 hc.2.1
      have w2 := sA1_ok hs hx e3 e1 hc.2.2
      refine ⟨_, g1, q1, q2, fun i hi => ?_⟩
      rw [sUpd_ne hA hO (fun e => by rcases w1 e with w | w <;> omega), sUpd_ne hA hO (fun e => by rcases w2 e with w | w <;> omega)]
      exact q3 i hi
    · cases h
  · rename_i v m x0 r f0
    split at h
    · rename_i hc
      rw [List.mem_singleton] at h
      subst h
      simp only [Bool.and_eq_true] at hc
      obtain ⟨c1, c2, c3⟩ := hc
      have c1 := Nat.eq_of_beq_eq_true c1
      have c2 := Nat.eq_of_beq_eq_true c2
      subst c1; subst c2
      obtain ⟨zs, g1, g2⟩ := hw
      obtain ⟨z1, z2, z3, rfl, e1, e2, e3⟩ := sA2_c3 g1
      obtain ⟨g, hg, h1⟩ := List.any_eq_true.mp c3
      have hp := hs.2 g hg
      unfold sXr at h1
      split at h1
      · rename_i ra a b
        obtain ⟨u, pa, pb, q1, q2, q3, q4⟩ := hp
        have q4 : u = gBo 9 pa pb := q4
        simp only [Bool.and_eq_true] at h1
        obtain ⟨h2, h3, h4⟩ := h1
        have n1 := sN_ev hs.1 q1
        have n3 := sN_ev hs.1 q3
        rw [sVe_eq h2, hy] at n1
        rw [sVe_eq h3] at n3
        have n1 : z.toInt = u := Option.some.inj n1
        have n3 : 1 = pb := Option.some.inj n3
        obtain ⟨-, h5⟩ := sHv_ok hs hG hx (sN_ev hs.1 q2) h4
        rw [Int.toNat_natCast] at h5
        refine ⟨[z1, z2, (j : Int)], ⟨e1, e2, hx, trivial⟩, fun i hi => ?_⟩
        have g2i := g2 i hi
        rw [if_neg (by rintro ⟨q, -⟩; cases q)] at g2i
        by_cases e : i = j
        · subst e
          rw [if_pos ⟨rfl, rfl⟩, hA]
          unfold upd
          rw [if_pos rfl, n1, q4, ← n3, ← h5, g2i]
          exact gBo9_bit _ (gBit_01 _ _)
        · rw [if_neg (by rintro ⟨-, q⟩; omega), sUpd_ne hA hO (fun _ => e)]
          exact g2i
      · cases h1
    · cases h
  · exact sSk7_ok hs hG hx hy hA hO hw h
  · exact sSk8_ok hs hx hA hO hw h
  · rename_i as hh t
    split at h
    · rw [List.mem_singleton] at h
      subst h
      obtain ⟨zs, g1, g2⟩ := hw
      exact ⟨(j : Int) :: ((j : Int) + 1) :: zs, ⟨hx, sEv_a1 hx 1, g1⟩, gA9_store (fun r i e => sUpd_ne hA hO (fun e1 e2 => e e1 ⟨by omega, by omega⟩)) g2⟩
    · cases h
  · cases h
end SKO
/-- behind a store of a byte -/
def sStB (κ : sCx) (G : List sFc) (k : Nat) (x y : sV) : List sFc := (if k = 1 then (match sRg κ.2.1 y with
  | some (lo, hi) => if -128 ≤ lo ∧ hi ≤ 127 then [(15, [x, y], [k])] else []
  | none => []) ++ G.flatMap (sSkB κ k x) else []) ++ sKeep G k
theorem sStB_ok {A A' : Nat → Nat → Int32} {L : Nat} {sc : Nat → Int32} {ρ : List Int} {κ : sCx} {G : List sFc} {k : Nat} {x y : sV} {j : Nat} {w : Int} (hs : sCok ρ κ) (hG : ∀ f ∈ G, sWf A L sc ρ f) (hx : sEv ρ x = some (j : Int)) (hy : sEv ρ y = some w) (hA : A' k = upd (A k) j (Int32.ofInt w).toInt8.toInt32) (hO : ∀ i, i ≠ k → A' i = A i) : ∀ f ∈ sStB κ G k x y, sWf A' L sc ρ f := by
  intro f hf
  unfold sStB at hf
  rcases List.mem_append.mp hf with hq | hq
  · clear hf
    split at hq
    · rcases List.mem_append.mp hq with hq | hq
      · split at hq
        · rename_i lo hi hr
          obtain ⟨p1, p2, p3⟩ := sRg_ev hs.1 hy hr
          split at hq
          · rename_i hc
            rw [List.mem_singleton] at hq
            subst hq
            refine ⟨j, w, hx, hy, Int.natCast_nonneg _, ?_⟩
            rw [hA, Int.toNat_natCast]
            unfold upd
            rw [if_pos rfl, sByV, sI_toInt p3]
            unfold gSg
            split <;> omega
          · cases hq
        · cases hq
      · obtain ⟨g, hg, h1⟩ := List.mem_flatMap.mp hq
        exact sSkB_ok hs hG hx hA hg h1
    · cases hq
  · exact sKeep_ok hG hO f hq
def sStG (κ : sCx) (G : List sFc) (k : Nat) (x y : sV) : List sFc := if (sTbl k && sSam κ G k x y) = true then G else (if k = sSg then G.flatMap (sSt1 κ.2.1 G x y) else match sPk1 k with
  | some p => if sHas G (10, [], [p]) = true then [(11, [x, y], [p])] else []
  | none => match sPw1 k with
    | some p => if G.any (sQ1 κ.2.1 x y p) = true then [(10, [], [p])] else []
    | none => []) ++ ((if sTbl k = true then (15, [x, y], [k]) :: G.flatMap (sSk κ k x y G) else []) ++ sKeep G k)
theorem sHiLt_ok {ρ : List Int} {nx : Nat} {env : sE} (h : sOk ρ nx env) {x : sV} {n b : Int} (hn : sEv ρ x = some n) (hl : sHiLt env x b = true) : n < b := by
  unfold sHiLt at hl
  split at hl
  · rename_i z hz
    have := sHi_ok h hn hz
    simp only [decide_eq_true_eq] at hl
    omega
  · cases hl
theorem sLoGe_ok {ρ : List Int} {nx : Nat} {env : sE} (h : sOk ρ nx env) {x : sV} {n b : Int} (hn : sEv ρ x = some n) (hl : sLoGe env x b = true) : b ≤ n := by
  unfold sLoGe at hl
  split at hl
  · rename_i z hz
    have := sLo_ok h hn hz
    simp only [decide_eq_true_eq] at hl
    omega
  · cases hl
theorem sKW (p q : Nat) : sKc p ≠ sWc q := by
  unfold sKc sWc
  split <;> split <;> decide
theorem sSt1_ok {A A' : Nat → Nat → Int32} {L : Nat} {sc : Nat → Int32} {ρ : List Int} {κ : sCx} {G : List sFc} {x y : sV} {j : Nat} {z : Int32} (hs : sCok ρ κ) (hG : ∀ f ∈ G, sWf A L sc ρ f) (hx : sEv ρ x = some (j : Int)) (hy : sEv ρ y = some z.toInt) (hA : A' sSg = upd (A sSg) j z) {f g : sFc} (hf : f ∈ G) (h : g ∈ sSt1 κ.2.1 G x y f) : sWf A' L sc ρ g := by
  have hw := hG f hf
  unfold sSt1 at h
  split at h
  · rename_i d n ps
    obtain ⟨m, k, e1, e2, p1, p2, p3⟩ := hw
    split at h
    · rename_i he
      have hjk : (j : Int) = k + 700 := by
        have := sN_ev hs.1 (sEv_add e2 700)
        rw [he, hx] at this
        exact Option.some.inj this
      have hstep : sRp (upd (A sSg) j z) 700 (k.toNat + 1) = sRp1 z.toInt m.toNat := by
        have q : sRp (upd (A sSg) j z) 700 k.toNat = some m.toNat := by
          rw [← p3]
          refine sRp_eq _ (fun i hi => ?_)
          unfold upd
          rw [if_neg (by omega)]
        simp only [sRp, q]
        congr 1
        unfold upd
        rw [if_pos (by omega)]
      have fin : ∀ (dv : sV) (md : Int), sEv ρ dv = some md → 0 ≤ md → sRp1 z.toInt m.toNat = some md.toNat → sWf A' L sc ρ (16, [dv, (n.1, n.2 + 1)], []) := fun dv md h1 h2 h3 => by
        refine ⟨md, k + 1, h1, sEv_add e2 1, h2, by omega, ?_⟩
        rw [hA, show (k + 1).toNat = k.toNat + 1 by omega, hstep, h3]
      split at h
      · rename_i g' hg
        rw [List.mem_singleton] at h
        subst h
        unfold sU2 at hg
        split at hg
        · rename_i y0 y1 d0 d1 ry rd
          obtain ⟨a1, a2, -⟩ := sRg_ev hs.1 hy ry
          obtain ⟨b1, b2, -⟩ := sRg_ev hs.1 e1 rd
          split at hg
          · rename_i hc
            cases hg
            refine fin _ (m + 1) (sEv_add e1 1) (by omega) ?_
            unfold sRp1
            rw [if_pos (by omega), if_pos (by omega)]
            congr 1
            omega
          · split at hg
            · rename_i hc
              cases hg
              refine fin _ m e1 p1 ?_
              unfold sRp1
              rw [if_neg (by omega), if_neg (by omega), if_pos (by omega), if_pos (by omega)]
            · split at hg
              · rename_i hc
                cases hg
                refine fin _ (m + -1) (sEv_add e1 (-1)) (by omega) ?_
                unfold sRp1
                rw [if_neg (by omega), if_neg (by omega), if_neg (by omega), if_pos (by omega)]
                congr 1
                omega
              · cases hg
        · cases hg
      · cases h
    · split at h
      · rename_i hl
        rw [List.mem_singleton] at h
        subst h
        have := sHiLt_ok hs.1 hx hl
        refine ⟨m, k, e1, e2, p1, p2, ?_⟩
        rw [hA, ← p3]
        refine sRp_eq _ (fun i hi => ?_)
        unfold upd
        rw [if_neg (by omega)]
      · cases h
  · split at h
    · rename_i n ps hl
      rw [List.mem_singleton] at h
      subst h
      obtain ⟨k, e1, p1, p2, p3⟩ := hw
      have := sLoGe_ok hs.1 hx hl
      refine ⟨k, e1, p1, p2, ?_⟩
      have q : sRp (A' sSg) 0 k.toNat = sRp (A sSg) 0 k.toNat := by
        rw [hA]
        refine sRp_eq _ (fun i hi => ?_)
        unfold upd
        rw [if_neg (by omega)]
      rw [q]
      exact p3
    · cases h
  · rename_i jv ps
    split at h
    · rename_i hc
      obtain ⟨c1, c2, c3⟩ := hc
      rw [List.mem_singleton] at h
      subst h
      obtain ⟨m, e1, p1, p2, p3⟩ := hw
      have hjm : (j : Int) = m := by
        have := sN_ev hs.1 e1
        rw [c1, hx] at this
        exact Option.some.inj this
      have hlt := sHiLt_ok hs.1 hx c2
      obtain ⟨m', n', g1, g2, g3, g4⟩ := hG _ (sHas_mem c3)
      rw [e1] at g1
      cases g1
      rw [hy] at g2
      cases g2
      have hz : A sSg (700 + m.toNat) = z := Int32.toInt_inj.mp g4
      refine ⟨m + 1, sEv_add e1 1, by omega, by omega, fun i hi => ?_⟩
      rw [hA]
      unfold upd
      rw [if_neg (by omega : ¬ 700 + i = j)]
      by_cases q : i = j
      · rw [if_pos q, q, ← hz]
        congr 1
        omega
      · rw [if_neg q]
        exact p3 i (by omega)
    · cases h
  · cases h
theorem sStG_ok {A A' : Nat → Nat → Int32} {L : Nat} {sc : Nat → Int32} {ρ : List Int} {κ : sCx} {G : List sFc} {k : Nat} {x y : sV} {j : Nat} {z : Int32} (hs : sCok ρ κ) (hG : ∀ f ∈ G, sWf A L sc ρ f) (hx : sEv ρ x = some (j : Int)) (hy : sEv ρ y = some z.toInt) (hA : A' k = upd (A k) j z) (hO : ∀ i, i ≠ k → A' i = A i) : ∀ f ∈ sStG κ G k x y, sWf A' L sc ρ f := by
  intro f hf
  unfold sStG at hf
  split at hf
  · rename_i hc
    rw [Bool.and_eq_true] at hc
    have h1 := sSam_ok hs hG hx hy hc.2
    have h2 : A' = A := by
      funext i
      by_cases e : i = k
      · subst e
        rw [hA]
        funext q
        unfold upd
        by_cases e2 : q = j
        · rw [if_pos e2, e2]
          exact (Int32.toInt_inj.mp h1).symm
        · rw [if_neg e2]
      · exact hO i e
    rw [h2]
    exact hG f hf
  rcases List.mem_append.mp hf with hq | hq
  · clear hf
    split at hq
    · rename_i e
      subst e
      obtain ⟨g, hg, h1⟩ := List.mem_flatMap.mp hq
      exact sSt1_ok hs hG hx hy hA hg h1
    · split at hq
      · rename_i p hp
        split at hq
        · rename_i hh
          rw [List.mem_singleton] at hq
          subst hq
          have h1 := hG _ (sHas_mem hh)
          have ek := sPk1_ok hp
          refine ⟨j, z.toInt, hx, hy, Int.natCast_nonneg _, ?_, fun i hi hne => ?_⟩
          · rw [ek, hA, Int.toNat_natCast]
            unfold upd
            rw [if_pos rfl]
          · rw [Int.toNat_natCast] at hne
            rw [ek, hA, hO (sWc p) (by rw [← ek]; exact (sKW p p).symm)]
            unfold upd
            rw [if_neg hne, ← ek]
            exact h1 i hi
        · cases hq
      · split at hq
        · rename_i p hp
          split at hq
          · rename_i hh
            rw [List.mem_singleton] at hq
            subst hq
            have ek := sPw1_ok hp
            obtain ⟨g, hg, h1⟩ := List.any_eq_true.mp hh
            have hw := hG g hg
            unfold sQ1 at h1
            split at h1
            · rename_i x' y' p'
              simp only [Bool.and_eq_true, Bool.or_eq_true, decide_eq_true_eq] at h1
              obtain ⟨rfl, rfl, h2⟩ := h1
              obtain ⟨m, n, g1, g2, g3, g4, g5⟩ := hw
              rw [hx] at g1
              cases g1
              rw [Int.toNat_natCast] at g4 g5
              intro i hi
              rw [ek, hA, hO (sKc p') (by rw [← ek]; exact sKW p' p')]
              unfold upd
              by_cases q : i = j
              · rw [if_pos q, q]
                intro hk
                rcases h2 with h2 | h2 | h2
                · have := sLoGe_ok hs.1 g2 h2
                  omega
                · have := sHiLt_ok hs.1 g2 h2
                  omega
                · have q1 := sLoGe_ok hs.1 hy h2.1
                  have q2 := sHiLt_ok hs.1 hy h2.2
                  omega
              · rw [if_neg q, ← ek]
                exact g5 i hi q
            · cases h1
          · cases hq
        · cases hq
  · rcases List.mem_append.mp hq with hq | hq
    · split at hq
      · rcases List.mem_cons.mp hq with rfl | hq
        · refine ⟨j, z.toInt, hx, hy, Int.natCast_nonneg _, ?_⟩
          rw [hA, Int.toNat_natCast]
          unfold upd
          rw [if_pos rfl]
        · obtain ⟨g, hg, h1⟩ := List.mem_flatMap.mp hq
          exact sSk_ok hs hG hx hy hA hO hg h1
      · cases hq
    · exact sKeep_ok hG hO f hq
end
