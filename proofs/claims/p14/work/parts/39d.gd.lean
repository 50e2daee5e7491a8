noncomputable section
/-! ===== steps of a derivation: a step of a way ===== -/
section RU
variable {A : Nat → Nat → Int32} {L : Nat} {sc : Nat → Int32} {ρ : List Int} {κ : sCx} {G : List sFc}
def gTp (κ : sCx) (G : List sFc) (p e t : sV) (q : Nat × Nat) : Bool := match q with
  | (0, k) => gHs κ G [p, e, (0, (k : Int))] [3]
  | (1, k) => gHs κ G [p, e, t] [3] && gNe κ t (k : Int)
  | (2, w) => gHs κ G [p] [6, w]
  | (3, w) => gHs κ G [p] [7, w]
  | (4, c) => gHs κ G [p] [8, c]
  | (5, c) => gHs κ G [p] [9, c]
  | (6, _) => gHs κ G [p, e, t] [3] && gGe κ (p.1, p.2 + 4) e
  | (7, _) => gHs κ G [p, e, t] [3] && gGe κ e (p.1, p.2 + 5)
  | _ => false
theorem gTp_ok (hs : sCok ρ κ) (hG : ∀ f ∈ G, sWf A L sc ρ f) {p e t : sV} {z : Int} (hz : sEv ρ p = some z) {q : Nat × Nat} (h : gTp κ G p e t q = true) : tPr (gT L sc) (gN L sc) z.toNat q := by
  unfold gTp at h
  split at h
  · obtain ⟨x, y, u, e1, e2, e3, q1⟩ := gHs3 hs hG h
    cases hz.symm.trans e1
    have e3' : u = _ := (Option.some.inj e3).symm
    subst e3'
    have := q_p0 q1
    rw [Int.toNat_natCast] at this
    exact this
  · simp only [Bool.and_eq_true] at h
    obtain ⟨x, y, u, e1, e2, e3, q1⟩ := gHs3 hs hG h.1
    cases hz.symm.trans e1
    exact q_p1 q1 (gNe_ok hs e3 h.2)
  · obtain ⟨x, e1, q1⟩ := gHs1 hs hG h
    cases hz.symm.trans e1
    exact q1.2
  · obtain ⟨x, e1, q1⟩ := gHs1 hs hG h
    cases hz.symm.trans e1
    exact q1.2
  · obtain ⟨x, e1, q1⟩ := gHs1 hs hG h
    cases hz.symm.trans e1
    exact q1.2
  · obtain ⟨x, e1, q1⟩ := gHs1 hs hG h
    cases hz.symm.trans e1
    exact q1.2
  · simp only [Bool.and_eq_true] at h
    obtain ⟨x, y, u, e1, e2, e3, q1⟩ := gHs3 hs hG h.1
    cases hz.symm.trans e1
    exact q_p6 q1 (gGe_ok hs (sEv_add e1 4) e2 h.2)
  · simp only [Bool.and_eq_true] at h
    obtain ⟨x, y, u, e1, e2, e3, q1⟩ := gHs3 hs hG h.1
    cases hz.symm.trans e1
    exact q_p7 q1 (gGe_ok hs e2 (sEv_add e1 5) h.2)
  · cases h
def gR12 (κ : sCx) (G : List sFc) (vs : List sV) (cs : List Nat) : Option sFc := match vs, cs with
  | [p0, p, q, e, t], v :: d :: k :: ss => (match tEg v d, ss.drop k with
    | some ed, a :: b :: X => if (decide (k ≤ ss.length) && (gHs κ G [p0, p] (10 :: k :: ss) && (decide (ed.1 = (a, b)) && (ed.2.1.all (gTp κ G p e t) && (decide (ed.2.2.2.2 = 0) && (Bool.rec (motive := fun _ => Bool) (sVe q p) (gHs κ G [p, q] [16]) ed.2.2.1)))))) = true then some (60, [p0, q], 10 :: k :: (ss.take k ++ (tEn ed.2.2.2.1 ++ X))) else none
    | _, _ => none)
  | _, _ => none
theorem gR12_ok (hs : sCok ρ κ) (hG : ∀ f ∈ G, sWf A L sc ρ f) {vs : List sV} {cs : List Nat} {f : sFc} (h : gR12 κ G vs cs = some f) : sWf A L sc ρ f := by
  unfold gR12 at h
  split at h
  · rename_i p0 p q e t v d k ss
    split at h
    · rename_i ed a b X he hX
      split at h
      · rename_i hc
        cases h
        simp only [Bool.and_eq_true, decide_eq_true_eq] at hc
        obtain ⟨h1, h2, h3, h4, h5, h6⟩ := hc
        obtain ⟨x, y, e1, e2, q1⟩ := gHs2 hs hG h2
        have hp : ∀ r ∈ ed.2.1, tPr (gT L sc) (gN L sc) y.toNat r := fun r hr => gTp_ok hs hG e2 (List.all_eq_true.mp h4 r hr)
        cases hcs : ed.2.2.1 with
        | false =>
          rw [hcs] at h6
          have hqp : q = p := sVe_eq h6
          subst hqp
          exact ⟨[x, y], ⟨e1, e2, trivial⟩, q_D1 q1 h1 hX he h3 hp h5 (Or.inr ⟨hcs, rfl⟩)⟩
        | true =>
          rw [hcs] at h6
          obtain ⟨y', u, e3, e4, q2⟩ := gHs2 hs hG h6
          cases e2.symm.trans e3
          exact ⟨[x, u], ⟨e1, e4, trivial⟩, q_D1 q1 h1 hX he h3 hp h5 (Or.inl ⟨hcs, q2⟩)⟩
      · cases h
    · cases h
  · cases h
end RU
end
