noncomputable section
/-! ===== steps of a derivation: ways begin, go wrong, follow each other ===== -/
section RU
variable {A : Nat → Nat → Int32} {L : Nat} {sc : Nat → Int32} {ρ : List Int} {κ : sCx} {G : List sFc}
def gR11 (κ : sCx) (G : List sFc) (vs : List sV) (cs : List Nat) : Option sFc := match vs, cs with
  | [p], k :: ss => if (sDef κ.1 p && (gGe κ p (0, 0) && decide (ss.take k = ss.drop k))) = true then some (60, [p, p], 10 :: k :: ss) else none
  | _, _ => none
theorem gR11_ok (hs : sCok ρ κ) {vs : List sV} {cs : List Nat} {f : sFc} (h : gR11 κ G vs cs = some f) : sWf A L sc ρ f := by
  unfold gR11 at h
  split at h
  · split at h
    · rename_i hc
      cases h
      simp only [Bool.and_eq_true, decide_eq_true_eq] at hc
      obtain ⟨n, hn⟩ := sDef_ev hs.1 hc.1
      exact ⟨[n, n], ⟨hn, hn, trivial⟩, q_D0 (gGe_ok hs hn (n := 0) rfl hc.2.1) hc.2.2⟩
    · cases h
  · cases h
def gR13 (κ : sCx) (G : List sFc) (vs : List sV) (cs : List Nat) : Option sFc := match vs, cs with
  | [p0, p, e, t], v :: d :: k :: ss => (match tEg v d, ss.drop k with
    | some ed, a :: b :: _ => if (gHs κ G [p0, p] (10 :: k :: ss) && (decide (ed.1 = (a, b)) && (ed.2.1.all (gTp κ G p e t) && (decide (ed.2.2.2.2 ≠ 0) && decide (ed.2.2.1 = false))))) = true then some (60, [p0, (0, (ed.2.2.2.2 : Int)), p], 11 :: ss.take k) else none
    | _, _ => none)
  | _, _ => none
theorem gR13_ok (hs : sCok ρ κ) (hG : ∀ f ∈ G, sWf A L sc ρ f) {vs : List sV} {cs : List Nat} {f : sFc} (h : gR13 κ G vs cs = some f) : sWf A L sc ρ f := by
  unfold gR13 at h
  split at h
  · split at h
    · rename_i ed a b X he hX
      split at h
      · rename_i hc
        cases h
        simp only [Bool.and_eq_true, decide_eq_true_eq] at hc
        obtain ⟨h2, h3, h4, h5, h6⟩ := hc
        obtain ⟨x, y, e1, e2, q1⟩ := gHs2 hs hG h2
        exact ⟨[x, _, y], ⟨e1, rfl, e2, trivial⟩, q_B1 q1 hX he h3 (fun r hr => gTp_ok hs hG e2 (List.all_eq_true.mp h4 r hr)) h5 h6⟩
      · cases h
    · cases h
  · cases h
end RU
end
