noncomputable section
/-! ===== what holds of the rows behind a store ===== -/
/-- the signs grew by one -/
def sU2 (env : sE) (d n y : sV) : Option sFc := match sRg env y, sRg env d with
  | some (y0, y1), some (d0, d1) => if -8 ≤ y0 ∧ d1 ≤ 63 then some (16, [(d.1, d.2 + 1), (n.1, n.2 + 1)], []) else if y0 = -28 ∧ y1 = -28 ∧ 1 ≤ d0 then some (16, [d, (n.1, n.2 + 1)], []) else if y1 ≤ -20 ∧ (-28 < y0 ∨ y1 < -28) ∧ 2 ≤ d0 then some (16, [(d.1, d.2 + -1), (n.1, n.2 + 1)], []) else none
  | _, _ => none
def sHiLt (env : sE) (x : sV) (b : Int) : Bool := match sHi env x with
  | some z => decide (z < b)
  | none => false
def sLoGe (env : sE) (x : sV) (b : Int) : Bool := match sLo env x with
  | some z => decide (b ≤ z)
  | none => false
/-- what becomes of a fact on the signs where y is stored at x -/
def sSt1 (env : sE) (G : List sFc) (x y : sV) (f : sFc) : List sFc := match f with
  | (16, [d, n], _) => if sN env (n.1, n.2 + 700) = x then (match sU2 env d n y with
      | some g => [g]
      | none => []) else if sHiLt env x 700 = true then [f] else []
  | (17, [_], _) => if sLoGe env x 700 = true then [f] else []
  | (19, [j], _) => if sN env j = x ∧ sHiLt env x 700 = true ∧ sHas G (20, [j, y], []) = true then [(19, [(j.1, j.2 + 1)], [])] else []
  | _ => []
def sQ1 (env : sE) (x y : sV) (p : Nat) (f : sFc) : Bool := match f with
  | (11, [x', y'], [p']) => decide (p' = p) && (decide (x' = x) && (sLoGe env y' 2 || (sHiLt env y' 0 || (sLoGe env y 0 && sHiLt env y 8))))
  | _ => false
/-- rows of the tables, and the reference's tape: what is stored is minded, what speaks of other places stays -/
def sTbl (k : Nat) : Bool := Nat.beq k 24 || (Nat.beq k 25 || (Nat.beq k 30 || (Nat.beq k 31 || (Nat.beq k 89 || (Nat.beq k 90 || (Nat.beq k 95 || (Nat.beq k 96 || Nat.beq k 99)))))))
def sSk (κ : sCx) (k : Nat) (x : sV) (f : sFc) : List sFc := match f with
  | (62, [m], [r, id, o]) => if (Nat.beq r k && sDn κ.2.1 κ.2.2 x (m.1, m.2 + (o : Int))) = true then [(62, [m], [r, id, o])] else []
  | (64, [a, b], [r, w]) => if (Nat.beq r k && (sDn κ.2.1 κ.2.2 x a && sDn κ.2.1 κ.2.2 b (x.1, x.2 + 1))) = true then [(64, [a, b], [r, w])] else []
  | _ => []
theorem sSk_ok {A A' : Nat → Nat → Int32} {L : Nat} {sc : Nat → Int32} {ρ : List Int} {κ : sCx} {G : List sFc} {k : Nat} {x : sV} {j : Nat} {z : Int32} (hs : sCok ρ κ) (hG : ∀ f ∈ G, sWf A L sc ρ f) (hx : sEv ρ x = some (j : Int)) (hA : A' k = upd (A k) j z) {f g : sFc} (hf : f ∈ G) (h : g ∈ sSk κ k x f) : sWf A' L sc ρ g := by
  have hw := hG f hf
  unfold sSk at h
  split at h
  · rename_i m r id o
    split at h
    · rename_i hc
      rw [List.mem_singleton] at h
      subst h
      rw [Bool.and_eq_true] at hc
      have er := Nat.eq_of_beq_eq_true hc.1
      subst er
      obtain ⟨zm, e1, p1, p2⟩ := hw
      have hge := sDn_ok hs.1 hs.2 hx (sEv_a1 e1 (o : Int)) hc.2
      refine ⟨zm, e1, p1, fun i hi => ?_⟩
      rw [hA]
      unfold upd
      rw [if_neg (by omega)]
      exact p2 i hi
    · cases h
  · rename_i a b r w
    split at h
    · rename_i hc
      rw [List.mem_singleton] at h
      subst h
      simp only [Bool.and_eq_true] at hc
      have er := Nat.eq_of_beq_eq_true hc.1
      subst er
      obtain ⟨u, v, e1, e2, p2⟩ := hw
      have h1 := sDn_ok hs.1 hs.2 hx e1 hc.2.1
      have h2 := sDn_ok hs.1 hs.2 e2 (sEv_a1 hx 1) hc.2.2
      refine ⟨u, v, e1, e2, fun i hi hq => ?_⟩
      rw [hA]
      unfold upd
      rw [if_neg (by omega)]
      exact p2 i hi hq
    · cases h
  · cases h
/-- behind a store of a byte -/
def sStB (κ : sCx) (G : List sFc) (k : Nat) (x y : sV) : List sFc := (if k = 1 then (match sRg κ.2.1 y with
  | some (lo, hi) => if -128 ≤ lo ∧ hi ≤ 127 then [(15, [x, y], [k])] else []
  | none => []) ++ G.flatMap (sSk κ k x) else []) ++ sKeep G k
theorem sStB_ok {A A' : Nat → Nat → Int32} {L : Nat} {sc : Nat → Int32} {ρ : List Int} {κ : sCx} {G : List sFc} {k : Nat} {x y : sV} {j : Nat} {w : Int} (hs : sCok ρ κ) (hG : ∀ f ∈ G, sWf A L sc ρ f) (hx : sEv ρ x = some (j : Int)) (hy : sEv ρ y = some w) (hA : A' k = upd (A k) j (Int32.ofInt w).toInt8.toInt32) (hO : ∀ i, i ≠ k → A' i = A i) : ∀ f ∈ sStB κ G k x y, sWf A' L sc ρ f := by
  intro f hf
  unfold sStB at hf
  rcases List.mem_append.mp hf with hq | hq
  · clear hf
    split at hq
    · rcases List.mem_append.mp hq with hq | hq
      · split at hq
        · rename_i lo hi hr
          obtain ⟨p1, p2, p3⟩ := sRg_ev hs.1 hy hr
          split at hq
          · rename_i hc
            rw [List.mem_singleton] at hq
            subst hq
            refine ⟨j, w, hx, hy, Int.natCast_nonneg _, ?_⟩
            rw [hA, Int.toNat_natCast]
            unfold upd
            rw [if_pos rfl, sByV, sI_toInt p3]
            unfold gSg
            split <;> omega
          · cases hq
        · cases hq
      · obtain ⟨g, hg, h1⟩ := List.mem_flatMap.mp hq
        exact sSk_ok hs hG hx hA hg h1
    · cases hq
  · exact sKeep_ok hG hO f hq
def sStG (κ : sCx) (G : List sFc) (k : Nat) (x y : sV) : List sFc := (if k = sSg then G.flatMap (sSt1 κ.2.1 G x y) else match sPk1 k with
  | some p => if sHas G (10, [], [p]) = true then [(11, [x, y], [p])] else []
  | none => match sPw1 k with
    | some p => if G.any (sQ1 κ.2.1 x y p) = true then [(10, [], [p])] else []
    | none => if sTbl k = true then (15, [x, y], [k]) :: G.flatMap (sSk κ k x) else []) ++ sKeep G k
theorem sHiLt_ok {ρ : List Int} {nx : Nat} {env : sE} (h : sOk ρ nx env) {x : sV} {n b : Int} (hn : sEv ρ x = some n) (hl : sHiLt env x b = true) : n < b := by
  unfold sHiLt at hl
  split at hl
  · rename_i z hz
    have := sHi_ok h hn hz
    simp only [decide_eq_true_eq] at hl
    omega
  · cases hl
theorem sLoGe_ok {ρ : List Int} {nx : Nat} {env : sE} (h : sOk ρ nx env) {x : sV} {n b : Int} (hn : sEv ρ x = some n) (hl : sLoGe env x b = true) : b ≤ n := by
  unfold sLoGe at hl
  split at hl
  · rename_i z hz
    have := sLo_ok h hn hz
    simp only [decide_eq_true_eq] at hl
    omega
  · cases hl
theorem sKW (p q : Nat) : sKc p ≠ sWc q := by
  unfold sKc sWc
  split <;> split <;> decide
theorem sSt1_ok {A A' : Nat → Nat → Int32} {L : Nat} {sc : Nat → Int32} {ρ : List Int} {κ : sCx} {G : List sFc} {x y : sV} {j : Nat} {z : Int32} (hs : sCok ρ κ) (hG : ∀ f ∈ G, sWf A L sc ρ f) (hx : sEv ρ x = some (j : Int)) (hy : sEv ρ y = some z.toInt) (hA : A' sSg = upd (A sSg) j z) {f g : sFc} (hf : f ∈ G) (h : g ∈ sSt1 κ.2.1 G x y f) : sWf A' L sc ρ g := by
  have hw := hG f hf
  unfold sSt1 at h
  split at h
  · rename_i d n ps
    obtain ⟨m, k, e1, e2, p1, p2, p3⟩ := hw
    split at h
    · rename_i he
      have hjk : (j : Int) = k + 700 := by
        have := sN_ev hs.1 (sEv_add e2 700)
        rw [he, hx] at this
        exact Option.some.inj this
      have hstep : sRp (upd (A sSg) j z) 700 (k.toNat + 1) = sRp1 z.toInt m.toNat := by
        have q : sRp (upd (A sSg) j z) 700 k.toNat = some m.toNat := by
          rw [← p3]
          refine sRp_eq _ (fun i hi => ?_)
          unfold upd
          rw [if_neg (by omega)]
        simp only [sRp, q]
        congr 1
        unfold upd
        rw [if_pos (by omega)]
      have fin : ∀ (dv : sV) (md : Int), sEv ρ dv = some md → 0 ≤ md → sRp1 z.toInt m.toNat = some md.toNat → sWf A' L sc ρ (16, [dv, (n.1, n.2 + 1)], []) := fun dv md h1 h2 h3 => by
        refine ⟨md, k + 1, h1, sEv_add e2 1, h2, by omega, ?_⟩
        rw [hA, show (k + 1).toNat = k.toNat + 1 by omega, hstep, h3]
      split at h
      · rename_i g' hg
        rw [List.mem_singleton] at h
        subst h
        unfold sU2 at hg
        split at hg
        · rename_i y0 y1 d0 d1 ry rd
          obtain ⟨a1, a2, -⟩ := sRg_ev hs.1 hy ry
          obtain ⟨b1, b2, -⟩ := sRg_ev hs.1 e1 rd
          split at hg
          · rename_i hc
            cases hg
            refine fin _ (m + 1) (sEv_add e1 1) (by omega) ?_
            unfold sRp1
            rw [if_pos (by omega), if_pos (by omega)]
            congr 1
            omega
          · split at hg
            · rename_i hc
              cases hg
              refine fin _ m e1 p1 ?_
              unfold sRp1
              rw [if_neg (by omega), if_neg (by omega), if_pos (by omega), if_pos (by omega)]
            · split at hg
              · rename_i hc
                cases hg
                refine fin _ (m + -1) (sEv_add e1 (-1)) (by omega) ?_
                unfold sRp1
                rw [if_neg (by omega), if_neg (by omega), if_neg (by omega), if_pos (by omega)]
                congr 1
                omega
              · cases hg
        · cases hg
      · cases h
    · split at h
      · rename_i hl
        rw [List.mem_singleton] at h
        subst h
        have := sHiLt_ok hs.1 hx hl
        refine ⟨m, k, e1, e2, p1, p2, ?_⟩
        rw [hA, ← p3]
        refine sRp_eq _ (fun i hi => ?_)
        unfold upd
        rw [if_neg (by omega)]
      · cases h
  · split at h
    · rename_i n ps hl
      rw [List.mem_singleton] at h
      subst h
      obtain ⟨k, e1, p1, p2, p3⟩ := hw
      have := sLoGe_ok hs.1 hx hl
      refine ⟨k, e1, p1, p2, ?_⟩
      have q : sRp (A' sSg) 0 k.toNat = sRp (A sSg) 0 k.toNat := by
        rw [hA]
        refine sRp_eq _ (fun i hi => ?_)
        unfold upd
        rw [if_neg (by omega)]
      rw [q]
      exact p3
    · cases h
  · rename_i jv ps
    split at h
    · rename_i hc
      obtain ⟨c1, c2, c3⟩ := hc
      rw [List.mem_singleton] at h
      subst h
      obtain ⟨m, e1, p1, p2, p3⟩ := hw
      have hjm : (j : Int) = m := by
        have := sN_ev hs.1 e1
        rw [c1, hx] at this
        exact Option.some.inj this
      have hlt := sHiLt_ok hs.1 hx c2
      obtain ⟨m', n', g1, g2, g3, g4⟩ := hG _ (sHas_mem c3)
      rw [e1] at g1
      cases g1
      rw [hy] at g2
      cases g2
      have hz : A sSg (700 + m.toNat) = z := Int32.toInt_inj.mp g4
      refine ⟨m + 1, sEv_add e1 1, by omega, by omega, fun i hi => ?_⟩
      rw [hA]
      unfold upd
      rw [if_neg (by omega : ¬ 700 + i = j)]
      by_cases q : i = j
      · rw [if_pos q, q, ← hz]
        congr 1
        omega
      · rw [if_neg q]
        exact p3 i (by omega)
    · cases h
  · cases h
theorem sStG_ok {A A' : Nat → Nat → Int32} {L : Nat} {sc : Nat → Int32} {ρ : List Int} {κ : sCx} {G : List sFc} {k : Nat} {x y : sV} {j : Nat} {z : Int32} (hs : sCok ρ κ) (hG : ∀ f ∈ G, sWf A L sc ρ f) (hx : sEv ρ x = some (j : Int)) (hy : sEv ρ y = some z.toInt) (hA : A' k = upd (A k) j z) (hO : ∀ i, i ≠ k → A' i = A i) : ∀ f ∈ sStG κ G k x y, sWf A' L sc ρ f := by
  intro f hf
  unfold sStG at hf
  rcases List.mem_append.mp hf with hq | hq
  · clear hf
    split at hq
    · rename_i e
      subst e
      obtain ⟨g, hg, h1⟩ := List.mem_flatMap.mp hq
      exact sSt1_ok hs hG hx hy hA hg h1
    · split at hq
      · rename_i p hp
        split at hq
        · rename_i hh
          rw [List.mem_singleton] at hq
          subst hq
          have h1 := hG _ (sHas_mem hh)
          have ek := sPk1_ok hp
          refine ⟨j, z.toInt, hx, hy, Int.natCast_nonneg _, ?_, fun i hi hne => ?_⟩
          · rw [ek, hA, Int.toNat_natCast]
            unfold upd
            rw [if_pos rfl]
          · rw [Int.toNat_natCast] at hne
            rw [ek, hA, hO (sWc p) (by rw [← ek]; exact (sKW p p).symm)]
            unfold upd
            rw [if_neg hne, ← ek]
            exact h1 i hi
        · cases hq
      · split at hq
        · rename_i p hp
          split at hq
          · rename_i hh
            rw [List.mem_singleton] at hq
            subst hq
            have ek := sPw1_ok hp
            obtain ⟨g, hg, h1⟩ := List.any_eq_true.mp hh
            have hw := hG g hg
            unfold sQ1 at h1
            split at h1
            · rename_i x' y' p'
              simp only [Bool.and_eq_true, Bool.or_eq_true, decide_eq_true_eq] at h1
              obtain ⟨rfl, rfl, h2⟩ := h1
              obtain ⟨m, n, g1, g2, g3, g4, g5⟩ := hw
              rw [hx] at g1
              cases g1
              rw [Int.toNat_natCast] at g4 g5
              intro i hi
              rw [ek, hA, hO (sKc p') (by rw [← ek]; exact sKW p' p')]
              unfold upd
              by_cases q : i = j
              · rw [if_pos q, q]
                intro hk
                rcases h2 with h2 | h2 | h2
                · have := sLoGe_ok hs.1 g2 h2
                  omega
                · have := sHiLt_ok hs.1 g2 h2
                  omega
                · have q1 := sLoGe_ok hs.1 hy h2.1
                  have q2 := sHiLt_ok hs.1 hy h2.2
                  omega
              · rw [if_neg q, ← ek]
                exact g5 i hi q
            · cases h1
          · cases hq
        · split at hq
          · rcases List.mem_cons.mp hq with rfl | hq
            · refine ⟨j, z.toInt, hx, hy, Int.natCast_nonneg _, ?_⟩
              rw [hA, Int.toNat_natCast]
              unfold upd
              rw [if_pos rfl]
            · obtain ⟨g, hg, h1⟩ := List.mem_flatMap.mp hq
              exact sSk_ok hs hG hx hA hg h1
          · cases hq
  · exact sKeep_ok hG hO f hq
end
