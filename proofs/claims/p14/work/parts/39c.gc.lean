noncomputable section
/-! ===== steps of a derivation: bytes of rows, words, signs, ways ===== -/
def gHk (κ : sCx) (G : List sFc) (k : Nat) (as : List sV) (ps : List Nat) : Bool := (as.all (sDef κ.1)) && G.any (sGq κ.2.1 k (as.map (sN κ.2.1)) ps)
section RU
variable {A : Nat → Nat → Int32} {L : Nat} {sc : Nat → Int32} {ρ : List Int} {κ : sCx} {G : List sFc}
/-- a fact of any kind, as it is asked for -/
theorem gHk_ok (hs : sCok ρ κ) (hG : ∀ f ∈ G, sWf A L sc ρ f) {k : Nat} {as : List sV} {ps : List Nat} (h : gHk κ G k as ps = true) : as.all (sDef κ.1) = true ∧ sWf A L sc ρ (k, as.map (sN κ.2.1), ps) := by
  simp only [gHk, Bool.and_eq_true] at h
  obtain ⟨hd, h⟩ := h
  obtain ⟨g, hg, h1⟩ := List.any_eq_true.mp h
  replace h1 := sGq_and h1
  obtain ⟨e1, e2, e3⟩ := h1
  have hw := sWf_rn (as := g.2.1) (sNl_ok hs g.2.1) (hG g hg)
  rw [sVeL_eq e3, Nat.eq_of_beq_eq_true e1, e2] at hw
  exact ⟨hd, hw⟩
theorem gEvN (hs : sCok ρ κ) {a : sV} {z : Int} (hd : sDef κ.1 a = true) (h : sEv ρ (sN κ.2.1 a) = some z) : sEv ρ a = some z := sN_back hs.1 (fun _ => sDef_ev hs.1 hd) h
/-- a place of a row of n -/
theorem gIx_ok (hs : sCok ρ κ) {x : sV} {n : Nat} {z : Int} (hz : sEv ρ x = some z) (h : sIx κ x n = true) : 0 ≤ z ∧ z < (n : Int) := by
  unfold sIx at h
  simp only [Bool.and_eq_true, decide_eq_true_eq] at h
  obtain ⟨-, -, h⟩ := h
  split at h
  · rename_i lo hi hr
    obtain ⟨p1, p2, -⟩ := sRg_ev hs.1 hz hr
    simp only [Bool.and_eq_true, Bool.or_eq_true, decide_eq_true_eq] at h
    obtain ⟨h1, h2⟩ := h
    rcases h2 with h2 | h2
    · omega
    · unfold sLt at h2
      split at h2
      · rename_i u hu
        have := sUb_ok hs.1 hs.2 2 hz hu
        simp only [decide_eq_true_eq] at h2
        omega
      · cases h2
  · cases h
/-- a byte that was read of a tape's row -/
def gR7 (κ : sCx) (G : List sFc) (vs : List sV) (cs : List Nat) : Option sFc := match vs, cs with
  | [x, y, u, v], [r, w] => if (gHk κ G 15 [x, y] [r] && (gHk κ G 64 [u, v] [r, w] && (sIx κ x 700 && (gGe κ u (x.1, x.2 + 1) || gGe κ x v)))) = true then some (60, [x, y], [1, w]) else none
  | _, _ => none
theorem gR7_ok (hs : sCok ρ κ) (hG : ∀ f ∈ G, sWf A L sc ρ f) {vs : List sV} {cs : List Nat} {f : sFc} (h : gR7 κ G vs cs = some f) : sWf A L sc ρ f := by
  unfold gR7 at h
  split at h
  · split at h
    · rename_i hc
      cases h
      simp only [Bool.and_eq_true, Bool.or_eq_true] at hc
      obtain ⟨h1, h2, h3, h4⟩ := hc
      obtain ⟨d1, z1, z2, e1, e2, p0, p1⟩ := gHk_ok hs hG h1
      obtain ⟨d2, zu, zv, e3, e4, p2⟩ := gHk_ok hs hG h2
      simp only [List.all_cons, List.all_nil, Bool.and_eq_true, Bool.and_true] at d1 d2
      have g1 := gEvN hs d1.1 e1
      have g2 := gEvN hs d1.2 e2
      have g3 := gEvN hs d2.1 e3
      have g4 := gEvN hs d2.2 e4
      have hix := gIx_ok hs g1 h3
      refine ⟨[z1, z2], ⟨g1, g2, trivial⟩, p0, ?_⟩
      rw [← p1, p2 z1.toNat (by omega) (by
        rcases h4 with h4 | h4
        · left
          have := gGe_ok hs g3 (sEv_add g1 1) h4
          omega
        · right
          have := gGe_ok hs g1 g4 h4
          omega)]
    · cases h
  · cases h
/-- an entry that was read of a table's row -/
def gR8 (κ : sCx) (G : List sFc) (vs : List sV) (cs : List Nat) : Option sFc := match vs, cs with
  | [x, y, m], [r, id, o] => if (gHk κ G 15 [(x.1, x.2 + (o : Int)), y] [r] && (gHk κ G 62 [m] [r, id, o] && (sDef κ.1 x && (gGe κ x (0, 0) && gGe κ m (x.1, x.2 + 1))))) = true then some (60, [x, y], [14, id]) else none
  | _, _ => none
theorem gR8_ok (hs : sCok ρ κ) (hG : ∀ f ∈ G, sWf A L sc ρ f) {vs : List sV} {cs : List Nat} {f : sFc} (h : gR8 κ G vs cs = some f) : sWf A L sc ρ f := by
  unfold gR8 at h
  split at h
  · rename_i x y m r id o
    split at h
    · rename_i hc
      cases h
      simp only [Bool.and_eq_true] at hc
      obtain ⟨h1, h2, h3, h4, h5⟩ := hc
      obtain ⟨d1, z1, z2, e1, e2, p0, p1⟩ := gHk_ok hs hG h1
      obtain ⟨d2, zm, e3, p2, p3⟩ := gHk_ok hs hG h2
      simp only [List.all_cons, List.all_nil, Bool.and_eq_true, Bool.and_true] at d1 d2
      obtain ⟨zx, gx⟩ := sDef_ev hs.1 h3
      have g1 := gEvN hs d1.1 e1
      have g2 := gEvN hs d1.2 e2
      have g3 := gEvN hs d2 e3
      have gx' := sEv_add gx (o : Int)
      rw [g1] at gx'
      have ez : z1 = zx + (o : Int) := Option.some.inj gx'
      have h0 := gGe_ok hs gx (n := 0) rfl h4
      have hlt := gGe_ok hs g3 (sEv_add gx 1) h5
      refine ⟨[zx, z2], ⟨gx, g2, trivial⟩, h0, ?_⟩
      have := p3 zx.toNat (by omega)
      rw [show o + zx.toNat = z1.toNat by omega, p1] at this
      exact this
    · cases h
  · cases h
/-- no word: by the token's kind, by its length, by a byte -/
def gNe (κ : sCx) (y : sV) (c : Int) : Bool := match sRg κ.2.1 y with
  | some (lo, hi) => decide (hi < c) || decide (c < lo)
  | none => false
theorem gNe_ok (hs : sCok ρ κ) {y : sV} {n c : Int} (hn : sEv ρ y = some n) (h : gNe κ y c = true) : n ≠ c := by
  unfold gNe at h
  split at h
  · rename_i lo hi hr
    obtain ⟨p1, p2, -⟩ := sRg_ev hs.1 hn hr
    simp only [Bool.or_eq_true, decide_eq_true_eq] at h
    omega
  · cases h
def gR9 (κ : sCx) (G : List sFc) (vs : List sV) (cs : List Nat) : Option sFc := match vs, cs with
  | [s, e, t], [7, w] => if (gHs κ G [s, e, t] [3] && gNe κ t 1) = true then some (60, [s], [7, w]) else none
  | [s, e, t], [9, c] => if (gHs κ G [s, e, t] [3] && gNe κ t 3) = true then some (60, [s], [9, c]) else none
  | _, _ => none
theorem gR9_ok (hs : sCok ρ κ) (hG : ∀ f ∈ G, sWf A L sc ρ f) {vs : List sV} {cs : List Nat} {f : sFc} (h : gR9 κ G vs cs = some f) : sWf A L sc ρ f := by
  unfold gR9 at h
  split at h
  · split at h
    · rename_i hc
      cases h
      simp only [Bool.and_eq_true] at hc
      obtain ⟨x, y, z, e1, e2, e3, q1⟩ := gHs3 hs hG hc.1
      exact ⟨[x], ⟨e1, trivial⟩, q_noword0 q1 (gNe_ok hs e3 hc.2)⟩
    · cases h
  · split at h
    · rename_i hc
      cases h
      simp only [Bool.and_eq_true] at hc
      obtain ⟨x, y, z, e1, e2, e3, q1⟩ := gHs3 hs hG hc.1
      exact ⟨[x], ⟨e1, trivial⟩, q_nosign0 q1 (gNe_ok hs e3 hc.2)⟩
    · cases h
  · cases h
/-- a sign, by its byte; no sign, by its byte -/
def gR10 (κ : sCx) (G : List sFc) (vs : List sV) (cs : List Nat) : Option sFc := match vs, cs with
  | [s, e], [8, c, w] => if (decide (c < 128) && (gHs κ G [s, e, (0, 3)] [3] && gHs κ G [s, (0, (c : Int))] [1, w])) = true then some (60, [s], [8, c]) else none
  | [s, y], [9, c, w] => if (decide (c < 128) && (gHs κ G [s, y] [1, w] && gNe κ y (c : Int))) = true then some (60, [s], [9, c]) else none
  | _, _ => none
theorem gR10_ok (hs : sCok ρ κ) (hG : ∀ f ∈ G, sWf A L sc ρ f) {vs : List sV} {cs : List Nat} {f : sFc} (h : gR10 κ G vs cs = some f) : sWf A L sc ρ f := by
  unfold gR10 at h
  split at h
  · split at h
    · rename_i hc
      cases h
      simp only [Bool.and_eq_true, decide_eq_true_eq] at hc
      obtain ⟨x, y, z, e1, e2, e3, q1⟩ := gHs3 hs hG hc.2.1
      obtain ⟨x', u, e4, e5, q2⟩ := gHs2 hs hG hc.2.2
      cases e1.symm.trans e4
      have e3' : z = 3 := (Option.some.inj e3).symm
      have e5' : u = _ := (Option.some.inj e5).symm
      subst e3'; subst e5'
      exact ⟨[x], ⟨e1, trivial⟩, q_sign q1 hc.1 q2⟩
    · cases h
  · split at h
    · rename_i hc
      cases h
      simp only [Bool.and_eq_true, decide_eq_true_eq] at hc
      obtain ⟨x, u, e4, e5, q2⟩ := gHs2 hs hG hc.2.1
      exact ⟨[x], ⟨e4, trivial⟩, q_nosign1 hc.1 q2 (gNe_ok hs e5 hc.2.2)⟩
    · cases h
  · cases h
end RU
end
