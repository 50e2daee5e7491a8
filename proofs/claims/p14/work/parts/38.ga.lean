noncomputable section
/-! ===== steps by which facts of the ghost text follow: what they ask for ===== -/
def gHs (κ : sCx) (G : List sFc) (as : List sV) (ps : List Nat) : Bool := (as.all (sDef κ.1)) && G.any (sGq κ.2.1 60 (as.map (sN κ.2.1)) ps)
section RU
variable {A : Nat → Nat → Int32} {L : Nat} {sc : Nat → Int32} {ρ : List Int} {κ : sCx} {G : List sFc}
theorem gBack (hs : sCok ρ κ) : ∀ (as : List sV) (zs : List Int), as.all (sDef κ.1) = true → sA2 (fun a z => sEv ρ a = some z) (as.map (sN κ.2.1)) zs → sA2 (fun a z => sEv ρ a = some z) as zs
  | [], [], _, _ => trivial
  | a :: as, z :: zs, hd, ⟨h1, h2⟩ => by
    simp only [List.all_cons, Bool.and_eq_true] at hd
    exact ⟨sN_back hs.1 (fun _ => sDef_ev hs.1 hd.1) h1, gBack hs as zs hd.2 h2⟩
  | [], _ :: _, _, q => q.elim
  | _ :: _, [], _, q => q.elim
theorem gHs_ok (hs : sCok ρ κ) (hG : ∀ f ∈ G, sWf A L sc ρ f) {as : List sV} {ps : List Nat} (h : gHs κ G as ps = true) : ∃ zs, sA2 (fun a z => sEv ρ a = some z) as zs ∧ gQ1 L sc ps zs := by
  simp only [gHs, Bool.and_eq_true] at h
  obtain ⟨hd, h⟩ := h
  obtain ⟨g, hg, h1⟩ := List.any_eq_true.mp h
  replace h1 := sGq_and h1
  obtain ⟨e1, e2, e3⟩ := h1
  have hw := hG g hg
  obtain ⟨t, bs, qs⟩ := g
  simp only at e1 e2 e3
  have e1' := Nat.eq_of_beq_eq_true e1
  subst e1'; subst e2
  obtain ⟨zs, q1, q2⟩ := hw
  refine ⟨zs, gBack hs as zs hd ?_, q2⟩
  rw [← sVeL_eq e3]
  exact sA2_pk _ _ _ (sNl_ok hs bs) q1
theorem gHs1 (hs : sCok ρ κ) (hG : ∀ f ∈ G, sWf A L sc ρ f) {a : sV} {ps : List Nat} (h : gHs κ G [a] ps = true) : ∃ x, sEv ρ a = some x ∧ gQ1 L sc ps [x] := by
  obtain ⟨zs, h1, h2⟩ := gHs_ok hs hG h
  obtain ⟨x, t, rfl, p1, h1⟩ := sA2_cons h1
  cases sA2_nil h1
  exact ⟨x, p1, h2⟩
theorem gHs2 (hs : sCok ρ κ) (hG : ∀ f ∈ G, sWf A L sc ρ f) {a b : sV} {ps : List Nat} (h : gHs κ G [a, b] ps = true) : ∃ x y, sEv ρ a = some x ∧ sEv ρ b = some y ∧ gQ1 L sc ps [x, y] := by
  obtain ⟨zs, h1, h2⟩ := gHs_ok hs hG h
  obtain ⟨x, t, rfl, p1, h1⟩ := sA2_cons h1
  obtain ⟨y, t, rfl, p2, h1⟩ := sA2_cons h1
  cases sA2_nil h1
  exact ⟨x, y, p1, p2, h2⟩
theorem gHs3 (hs : sCok ρ κ) (hG : ∀ f ∈ G, sWf A L sc ρ f) {a b c : sV} {ps : List Nat} (h : gHs κ G [a, b, c] ps = true) : ∃ x y z, sEv ρ a = some x ∧ sEv ρ b = some y ∧ sEv ρ c = some z ∧ gQ1 L sc ps [x, y, z] := by
  obtain ⟨zs, h1, h2⟩ := gHs_ok hs hG h
  obtain ⟨x, t, rfl, p1, h1⟩ := sA2_cons h1
  obtain ⟨y, t, rfl, p2, h1⟩ := sA2_cons h1
  obtain ⟨z, t, rfl, p3, h1⟩ := sA2_cons h1
  cases sA2_nil h1
  exact ⟨x, y, z, p1, p2, p3, h2⟩
theorem gHs6 (hs : sCok ρ κ) (hG : ∀ f ∈ G, sWf A L sc ρ f) {a b c d e f : sV} {ps : List Nat} (h : gHs κ G [a, b, c, d, e, f] ps = true) : ∃ x1 x2 x3 x4 x5 x6, sEv ρ a = some x1 ∧ sEv ρ b = some x2 ∧ sEv ρ c = some x3 ∧ sEv ρ d = some x4 ∧ sEv ρ e = some x5 ∧ sEv ρ f = some x6 ∧ gQ1 L sc ps [x1, x2, x3, x4, x5, x6] := by
  obtain ⟨zs, h1, h2⟩ := gHs_ok hs hG h
  obtain ⟨x1, t, rfl, p1, h1⟩ := sA2_cons h1
  obtain ⟨x2, t, rfl, p2, h1⟩ := sA2_cons h1
  obtain ⟨x3, t, rfl, p3, h1⟩ := sA2_cons h1
  obtain ⟨x4, t, rfl, p4, h1⟩ := sA2_cons h1
  obtain ⟨x5, t, rfl, p5, h1⟩ := sA2_cons h1
  obtain ⟨x6, t, rfl, p6, h1⟩ := sA2_cons h1
  cases sA2_nil h1
  exact ⟨x1, x2, x3, x4, x5, x6, p1, p2, p3, p4, p5, p6, h2⟩
/-- a byte's class by its bounds -/
def gCl (env : sE) (c : Nat) (y : sV) : Option Bool := match sRg env y with
  | some (lo, hi) => (match c with
    | 0 => if lo = hi then some (tC 0 lo) else if hi < 10 ∨ 32 < lo ∨ (10 < lo ∧ hi < 32) then some false else none
    | 1 => if 97 ≤ lo ∧ hi ≤ 122 then some true else if hi < 97 ∨ 122 < lo then some false else none
    | _ => if 48 ≤ lo ∧ hi ≤ 57 then some true else if hi < 48 ∨ 57 < lo then some false else none)
  | none => none
theorem gCl_ok (hs : sCok ρ κ) {c : Nat} {y : sV} {n : Int} {b : Bool} (hn : sEv ρ y = some n) (h : gCl κ.2.1 c y = some b) : tC c n = b := by
  unfold gCl at h
  split at h
  · rename_i lo hi hr
    obtain ⟨p1, p2, -⟩ := sRg_ev hs.1 hn hr
    split at h
    · split at h
      · rename_i e
        cases h
        have : n = lo := by omega
        rw [this]
      · split at h
        · cases h
          simp only [tC, Bool.or_eq_false_iff, decide_eq_false_iff_not]
          omega
        · cases h
    · split at h
      · cases h
        simp only [tC, Bool.and_eq_true, decide_eq_true_eq]
        omega
      · split at h
        · cases h
          simp only [tC, Bool.and_eq_false_iff, decide_eq_false_iff_not]
          omega
        · cases h
    · rename_i c0 c1
      have e : ∀ z : Int, tC c z = (decide (48 ≤ z) && decide (z ≤ 57)) := fun z => by
        unfold tC
        split
        · exact absurd rfl c0
        · exact absurd rfl c1
        · rfl
      rw [e]
      split at h
      · cases h
        simp only [Bool.and_eq_true, decide_eq_true_eq]
        omega
      · split at h
        · cases h
          simp only [Bool.and_eq_false_iff, decide_eq_false_iff_not]
          omega
        · cases h
  · cases h
/-- one is not less than another -/
def gGe (κ : sCx) (a b : sV) : Bool := sEn0 κ.1 κ.2.1 κ.2.2 (0, [a, b], [])
theorem gGe_ok (hs : sCok ρ κ) {a b : sV} {m n : Int} (hm : sEv ρ a = some m) (hn : sEv ρ b = some n) (h : gGe κ a b = true) : n ≤ m := by
  obtain ⟨x, y, h1, h2, h3⟩ := sEn0_ok hs.1 hs.2 h
  rw [hm] at h1
  rw [hn] at h2
  cases h1
  cases h2
  exact h3
end RU
end
