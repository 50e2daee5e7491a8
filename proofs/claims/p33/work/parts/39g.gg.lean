noncomputable section
/-! ===== steps of a derivation: one after the other, each only where it checks ===== -/
def gE (ρ : List Int) (x : sV) : Int := if x.1 = 0 ∨ x.1 = 1 then x.2 else ρ.getD ((x.1 - 16) / 2) 0 + x.2
theorem gE_add (ρ : List Int) (x : sV) (c : Int) : gE ρ (gA x c) = gE ρ x + c := by
  unfold gE gA
  simp only
  split <;> omega
theorem gE_k (ρ : List Int) (z : Int) : gE ρ (0, z) = z := rfl
theorem gE_ev {ρ : List Int} {x : sV} {z : Int} (h : sEv ρ x = some z) : gE ρ x = z := by
  obtain ⟨t, c⟩ := x
  by_cases h0 : t = 0
  · subst h0
    exact Option.some.inj h
  · by_cases h1 : t = 1
    · subst h1
      exact Option.some.inj h
    · rw [sEv_gen ⟨h0, h1⟩] at h
      split at h
      · obtain ⟨y, hy, rfl⟩ := Option.map_eq_some_iff.mp h
        unfold gE
        rw [if_neg (by simp only; omega), List.getD_eq_getElem?_getD, hy]
        rfl
      · cases h
theorem gE_evs {ρ : List Int} : ∀ (as : List sV) (zs : List Int), sA2 (fun a z => sEv ρ a = some z) as zs → as.map (gE ρ) = zs
  | [], [], _ => rfl
  | a :: as, z :: zs, ⟨h1, h2⟩ => by rw [List.map_cons, gE_ev h1, gE_evs as zs h2]
  | [], _ :: _, q => q.elim
  | _ :: _, [], q => q.elim
theorem gE_def {ρ : List Int} {nx : Nat} {env : sE} (h : sOk ρ nx env) {x : sV} (hd : sDef nx x = true) : sEv ρ x = some (gE ρ x) := by
  obtain ⟨n, hn⟩ := sDef_ev h hd
  rw [gE_ev hn]
  exact hn
theorem gE_defs {ρ : List Int} {nx : Nat} {env : sE} (h : sOk ρ nx env) : ∀ as : List sV, as.all (sDef nx) = true → sA2 (fun a z => sEv ρ a = some z) as (as.map (gE ρ))
  | [], _ => trivial
  | a :: as, hd => by
    simp only [List.all_cons, Bool.and_eq_true] at hd
    exact ⟨gE_def h hd.1, gE_defs h as hd.2⟩
/-- a fact on what is reckoned -/
def gHF (κ : sCx) (r a b : sV) (op : Nat) : Bool := sDef κ.1 r && (sDef κ.1 a && (sDef κ.1 b && κ.2.2.any (sGq κ.2.1 5 [sN κ.2.1 r, sN κ.2.1 a, sN κ.2.1 b] [op])))
section RU
variable {A : Nat → Nat → Int32} {L : Nat} {sc : Nat → Int32} {ρ : List Int} {κ : sCx} {G : List sFc}
theorem gHF_ok (hs : sCok ρ κ) {r a b : sV} {op : Nat} (h : gHF κ r a b op = true) : sOp5 op (gE ρ r) (gE ρ a) (gE ρ b) := by
  simp only [gHF, Bool.and_eq_true] at h
  obtain ⟨d1, d2, d3, h⟩ := h
  obtain ⟨g, hg, h1⟩ := List.any_eq_true.mp h
  obtain ⟨e1, e2, e3⟩ := sGq_and h1
  have hp := sPf_rn (as := g.2.1) (sNl_ok hs g.2.1) (hs.2 g hg)
  rw [sVeL_eq e3, Nat.eq_of_beq_eq_true e1, e2] at hp
  obtain ⟨x, m, n, h1, h2, h3, h4⟩ := hp
  rw [gE_ev (gEvN hs d1 h1), gE_ev (gEvN hs d2 h2), gE_ev (gEvN hs d3 h3)]
  exact h4
def gLc (κ : sCx) (G : List sFc) (vs : List sV) (cs : List Nat) : List sFc := match cs with
  | r :: cs' => (match fAt gTab r with
    | some f => (match f vs cs' with
      | some u => Bool.rec (motive := fun _ => List sFc) [] (u.2.2.2.2.map fun o => (60, o.1, o.2)) (u.1.all (fun q => gHs κ G q.1 q.2) && (u.2.1.all (fun q => gGe κ q.1 q.2) && (u.2.2.1.all (fun q => gHF κ q.1 q.2.1 q.2.2.1 q.2.2.2) && (u.2.2.2.1.all (fun q => sEn0 κ.1 κ.2.1 κ.2.2 (6, [q.1, q.2], [])) && u.2.2.2.2.all (fun o => o.1.all (sDef κ.1))))))
      | none => [])
    | none => [])
  | [] => []
/-- what a step tells holds -/
def gSo (A : Nat → Nat → Int32) (L : Nat) (sc : Nat → Int32) (ρ : List Int) (g : sFc) : Prop := (g.1 < 10 → sPf ρ g) ∧ (¬ g.1 < 10 → sWf A L sc ρ g)
theorem gSo_w {g : sFc} (h : ¬ g.1 < 10) (hw : sWf A L sc ρ g) : gSo A L sc ρ g := ⟨fun q => absurd q h, fun _ => hw⟩
theorem gSo_p {g : sFc} (h : g.1 < 10) (hw : sPf ρ g) : gSo A L sc ρ g := ⟨fun _ => hw, fun q => absurd h q⟩
theorem gLc_ok (hs : sCok ρ κ) (hG : ∀ f ∈ G, sWf A L sc ρ f) {vs : List sV} {cs : List Nat} : ∀ g ∈ gLc κ G vs cs, gSo A L sc ρ g := by
  intro g hg
  unfold gLc at hg
  split at hg
  · rename_i r cs'
    rw [fAt_eq] at hg
    split at hg
    · rename_i f hf
      split at hg
      · rename_i u hu
        cases hb : (u.1.all (fun q => gHs κ G q.1 q.2) && (u.2.1.all (fun q => gGe κ q.1 q.2) && (u.2.2.1.all (fun q => gHF κ q.1 q.2.1 q.2.2.1 q.2.2.2) && (u.2.2.2.1.all (fun q => sEn0 κ.1 κ.2.1 κ.2.2 (6, [q.1, q.2], [])) && u.2.2.2.2.all (fun o => o.1.all (sDef κ.1)))))) with
        | false => rw [hb] at hg; cases hg
        | true =>
          rw [hb] at hg
          simp only [Bool.and_eq_true] at hb
          obtain ⟨b1, b2, b3, b4, b5⟩ := hb
          obtain ⟨o, ho, rfl⟩ := List.mem_map.mp hg
          have hd := List.all_eq_true.mp b5 o ho
          refine gSo_w (by show ¬ 60 < 10; decide) ⟨o.1.map (gE ρ), gE_defs hs.1 _ hd, ?_⟩
          refine gTab_ok f (List.mem_of_getElem? hf) vs cs' u hu L sc (gE ρ) (gE_add ρ) (gE_k ρ) (fun q hq => ?_) (fun q hq => ?_) (fun q hq => gHF_ok hs (List.all_eq_true.mp b3 q hq)) (fun q hq => ?_) o ho
          · obtain ⟨zs, h1, h2⟩ := gHs_ok hs hG (List.all_eq_true.mp b1 q hq)
            rw [gE_evs _ _ h1]
            exact h2
          · obtain ⟨x, y, h1, h2, h3⟩ := sEn0_ok hs.1 hs.2 (List.all_eq_true.mp b2 q hq)
            rw [gE_ev h1, gE_ev h2]
            exact h3
          · obtain ⟨x, y, h1, h2, h3⟩ := sEn0_ok hs.1 hs.2 (List.all_eq_true.mp b4 q hq)
            rw [gE_ev h1, gE_ev h2]
            exact h3
      · cases hg
    · cases hg
  · cases hg
def gOl (o : Option sFc) : List sFc := match o with
  | some f => Bool.rec (motive := fun _ => List sFc) [] [f] (Nat.beq f.1 60)
  | none => []
theorem gOl_ok {o : Option sFc} (h : ∀ f, o = some f → sWf A L sc ρ f) : ∀ g ∈ gOl o, gSo A L sc ρ g := by
  intro g hg
  unfold gOl at hg
  split at hg
  · rename_i f
    cases e : Nat.beq f.1 60 with
    | false => rw [e] at hg; cases hg
    | true =>
      rw [e] at hg
      have hg' : g ∈ [f] := hg
      rw [List.mem_singleton] at hg'
      subst hg'
      have := Nat.eq_of_beq_eq_true e
      exact gSo_w (by omega) (h _ rfl)
  · cases hg
/-- a table grows by an entry -/
def gS15 (κ : sCx) (G : List sFc) (vs : List sV) (cs : List Nat) : List sFc := match vs, cs with
  | [m, v], [r, id, o] => if (gHk κ G 62 [m] [r, id, o] && (gHk κ G 15 [gA m (o : Int), v] [r] && (gHs κ G [m, v] [14, id] && gGe κ m (0, 0)))) = true then [(62, [gA m 1], [r, id, o])] else []
  | _, _ => []
theorem gS15_ok (hs : sCok ρ κ) (hG : ∀ f ∈ G, sWf A L sc ρ f) {vs : List sV} {cs : List Nat} : ∀ g ∈ gS15 κ G vs cs, gSo A L sc ρ g := by
  intro g hg
  unfold gS15 at hg
  split at hg
  · rename_i m v r id o
    split at hg
    · rename_i hc
      rw [List.mem_singleton] at hg
      subst hg
      simp only [Bool.and_eq_true] at hc
      obtain ⟨h1, h2, h3, h4⟩ := hc
      obtain ⟨d1, zm, e1, p1, p2⟩ := gHk_ok hs hG h1
      obtain ⟨d2, za, zv, e2, e3, p3, p4⟩ := gHk_ok hs hG h2
      obtain ⟨x, y, e4, e5, p5⟩ := gHs2 hs hG h3
      simp only [List.all_cons, List.all_nil, Bool.and_eq_true, Bool.and_true] at d1 d2
      have g1 := gEvN hs d1 e1
      have g2 := gEvN hs d2.1 e2
      have g3 := gEvN hs d2.2 e3
      cases e4.symm.trans g1
      cases e5.symm.trans g3
      have g2' : za = zm + (o : Int) := by
        have := gE_add ρ m (o : Int)
        rw [gE_ev g2, gE_ev g1] at this
        exact this
      refine gSo_w (by show ¬ 62 < 10; decide) ⟨zm + 1, sEv_add g1 1, by omega, fun j hj => ?_⟩
      by_cases e : (j : Int) = zm
      · have := p5.2
        rw [show o + j = za.toNat by omega, p4, show j = zm.toNat by omega]
        exact this
      · exact p2 j (by omega)
    · cases hg
  · cases hg
/-- two ends are one -/
def gS16 (κ : sCx) (G : List sFc) (vs : List sV) (cs : List Nat) : List sFc := match vs, cs with
  | [a, b, c, d], [] => if (gHs κ G [a, b] [13] && gHs κ G [c, d] [13]) = true then [(0, [a, c], []), (0, [c, a], []), (0, [b, d], []), (0, [d, b], [])] else []
  | _, _ => []
theorem gS16_ok (hs : sCok ρ κ) (hG : ∀ f ∈ G, sWf A L sc ρ f) {vs : List sV} {cs : List Nat} : ∀ g ∈ gS16 κ G vs cs, gSo A L sc ρ g := by
  intro g hg
  unfold gS16 at hg
  split at hg
  · split at hg
    · rename_i hc
      simp only [Bool.and_eq_true] at hc
      obtain ⟨x, y, e1, e2, p1⟩ := gHs2 hs hG hc.1
      obtain ⟨x', y', e3, e4, p2⟩ := gHs2 hs hG hc.2
      obtain ⟨rfl, rfl⟩ := q_one p1 p2
      simp only [List.mem_cons, List.not_mem_nil, or_false] at hg
      rcases hg with rfl | rfl | rfl | rfl
      · exact gSo_p (by show 0 < 10; decide) ⟨_, _, e1, e3, Int.le_refl _⟩
      · exact gSo_p (by show 0 < 10; decide) ⟨_, _, e3, e1, Int.le_refl _⟩
      · exact gSo_p (by show 0 < 10; decide) ⟨_, _, e2, e4, Int.le_refl _⟩
      · exact gSo_p (by show 0 < 10; decide) ⟨_, _, e4, e2, Int.le_refl _⟩
    · cases hg
  · cases hg
/-- a difference that isn't more than c -/
def gS17 (κ : sCx) (_G : List sFc) (vs : List sV) (cs : List Nat) : List sFc := match vs, cs with
  | [d, a, b], [c] => (match sHi κ.2.1 d with
    | some h => if (gHF κ d a b 3 && gLe h (c : Int)) = true then [(0, [gA b (c : Int), a], [])] else []
    | none => [])
  | _, _ => []
theorem gS17_ok (hs : sCok ρ κ) {vs : List sV} {cs : List Nat} : ∀ g ∈ gS17 κ G vs cs, gSo A L sc ρ g := by
  intro g hg
  unfold gS17 at hg
  split at hg
  · rename_i d a b c
    split at hg
    · rename_i h hh
      split at hg
      · rename_i hc
        rw [List.mem_singleton] at hg
        subst hg
        rw [Bool.and_eq_true] at hc
        have h1 := gHF_ok hs hc.1
        have h2 := gLe_iff.mp hc.2
        simp only [gHF, Bool.and_eq_true] at hc
        have ed := gE_def hs.1 hc.1.1
        have ea := gE_def hs.1 hc.1.2.1
        have eb := gE_def hs.1 hc.1.2.2.1
        have h3 := sHi_ok hs.1 ed hh
        simp only [sOp5] at h1
        exact gSo_p (by show 0 < 10; decide) ⟨_, _, sEv_add eb (c : Int), ea, by omega⟩
      · cases hg
    · cases hg
  · cases hg
def gS18 (_κ : sCx) (_G : List sFc) (vs : List sV) (cs : List Nat) : List sFc := match vs, cs with
  | [], [r, id, o] => [(62, [(0, 0)], [r, id, o])]
  | _, _ => []
theorem gS18_ok {vs : List sV} {cs : List Nat} : ∀ g ∈ gS18 κ G vs cs, gSo A L sc ρ g := by
  intro g hg
  unfold gS18 at hg
  split at hg
  · rw [List.mem_singleton] at hg
    subst hg
    exact gSo_w (by show ¬ 62 < 10; decide) ⟨0, rfl, Int.le_refl _, fun j hj => by omega⟩
  · cases hg
def gS19 (κ : sCx) (G : List sFc) (vs : List sV) (cs : List Nat) : List sFc := match vs, cs with
  | [s, e, t], [] => if gHs κ G [s, e, t] [3] = true then [(1, [e, gA s 1, t], [])] else []
  | _, _ => []
theorem gS19_ok (hs : sCok ρ κ) (hG : ∀ f ∈ G, sWf A L sc ρ f) {vs : List sV} {cs : List Nat} : ∀ g ∈ gS19 κ G vs cs, gSo A L sc ρ g := by
  intro g hg
  unfold gS19 at hg
  split at hg
  · split at hg
    · rename_i hc
      rw [List.mem_singleton] at hg
      subst hg
      obtain ⟨x, y, z, e1, e2, e3, p1⟩ := gHs3 hs hG hc
      exact gSo_p (by show 1 < 10; decide) ⟨y, x + 1, z, e2, sEv_add e1 1, e3, q_end1 p1⟩
    · cases hg
  · cases hg
def sGq2 (env : sE) (y u : sV) (op : Nat) (g : sFc) : Bool := match g with
  | (5, [y', u', _], [o]) => Nat.beq o op && (sVe (sN env y') (sN env y) && sVe (sN env u') (sN env u))
  | _ => false
theorem sGq2_ok (hs : sCok ρ κ) {y u : sV} {op : Nat} (dy : sDef κ.1 y = true) (du : sDef κ.1 u = true) (h : κ.2.2.any (sGq2 κ.2.1 y u op) = true) : ∃ n, sOp5 op (gE ρ y) (gE ρ u) n := by
  obtain ⟨g, hg, h1⟩ := List.any_eq_true.mp h
  have hp := hs.2 g hg
  unfold sGq2 at h1
  split at h1
  · rename_i y' u' b o
    simp only [Bool.and_eq_true] at h1
    obtain ⟨e1, e2, e3⟩ := h1
    have eo := Nat.eq_of_beq_eq_true e1
    subst eo
    obtain ⟨x, m, n, q1, q2, q3, q4⟩ := hp
    have n1 := sN_ev hs.1 q1
    have n2 := sN_ev hs.1 q2
    rw [sVe_eq e2] at n1
    rw [sVe_eq e3] at n2
    rw [gE_ev (gEvN hs dy n1), gE_ev (gEvN hs du n2)]
    exact ⟨n, q4⟩
  · cases h1
/-- a tape's row holds one byte more -/
def gS20 (κ : sCx) (G : List sFc) (vs : List sV) (cs : List Nat) : List sFc := match vs, cs with
  | [lo, hi, y, u, a], [r, w, s] => if (gHk κ G 64 [lo, hi] [r, w] && (gHk κ G 15 [lo, y] [r] && (gHs κ G [lo, a] [20, s] && (gHF κ u a (0, (s : Int)) 4 && (((Nat.beq w 0 && κ.2.2.any (sGq2 κ.2.1 y u 6)) || (Nat.beq w 1 && κ.2.2.any (sGq2 κ.2.1 y u 5))) && sIx κ lo 700))))) = true then [(64, [gA lo 1, hi], [r, w])] else []
  | _, _ => []
theorem gS20_ok (hs : sCok ρ κ) (hG : ∀ f ∈ G, sWf A L sc ρ f) {vs : List sV} {cs : List Nat} : ∀ g ∈ gS20 κ G vs cs, gSo A L sc ρ g := by
  intro g hg
  unfold gS20 at hg
  split at hg
  · rename_i lo hi y u a r w s
    split at hg
    · rename_i hc
      rw [List.mem_singleton] at hg
      subst hg
      simp only [Bool.and_eq_true, Bool.or_eq_true] at hc
      obtain ⟨h1, h2, h3, h4, h5, h6⟩ := hc
      obtain ⟨d1, zl, zh, e1, e2, p1⟩ := gHk_ok hs hG h1
      obtain ⟨d2, zl', zy, e3, e4, p2, p3⟩ := gHk_ok hs hG h2
      obtain ⟨zx, za, e5, e6, p4, p5⟩ := gHs2 hs hG h3
      have h4o := gHF_ok hs h4
      simp only [gHF, Bool.and_eq_true] at h4
      simp only [List.all_cons, List.all_nil, Bool.and_eq_true, Bool.and_true] at d1 d2
      have g1 := gEvN hs d1.1 e1
      have g2 := gEvN hs d1.2 e2
      have g3 := gEvN hs d2.1 e3
      have g4 := gEvN hs d2.2 e4
      cases g1.symm.trans g3
      cases g1.symm.trans e5
      have hix := gIx_ok hs g1 h6
      simp only [sOp5, gE_k, gE_ev e6, Int.toNat_natCast] at h4o
      have hu := gE_def hs.1 h4.1
      have hby : zy = gB w (gT L sc zl.toNat) := by
        rw [p5, ← h4o]
        rcases h5 with ⟨hw, h5⟩ | ⟨hw, h5⟩
        · have ew := Nat.eq_of_beq_eq_true hw
          subst ew
          obtain ⟨n, this⟩ := sGq2_ok hs d2.2 h4.1 h5
          rw [gE_ev g4] at this
          unfold gB
          rw [if_pos rfl]
          exact this
        · have ew := Nat.eq_of_beq_eq_true hw
          subst ew
          obtain ⟨n, this⟩ := sGq2_ok hs d2.2 h4.1 h5
          rw [gE_ev g4] at this
          unfold gB
          rw [if_neg (by decide)]
          exact this
      refine gSo_w (by show ¬ 64 < 10; decide) ⟨zl + 1, zh, sEv_add g1 1, g2, fun j hj hq => ?_⟩
      by_cases e : (j : Int) = zl
      · have ej : j = zl.toNat := by omega
        rw [ej, p3]
        exact hby
      · exact p1 j hj (by omega)
    · cases hg
  · cases hg
def gS21 (κ : sCx) (G : List sFc) (vs : List sV) (cs : List Nat) : List sFc := match vs, cs with
  | [lo, hi], [r, w] => if (gHk κ G 64 [lo, hi] [r, w] && gGe κ lo hi) = true then [(64, [(0, 0), (0, 0)], [r, w])] else []
  | _, _ => []
theorem gS21_ok (hs : sCok ρ κ) (hG : ∀ f ∈ G, sWf A L sc ρ f) {vs : List sV} {cs : List Nat} : ∀ g ∈ gS21 κ G vs cs, gSo A L sc ρ g := by
  intro g hg
  unfold gS21 at hg
  split at hg
  · split at hg
    · rename_i hc
      rw [List.mem_singleton] at hg
      subst hg
      rw [Bool.and_eq_true] at hc
      obtain ⟨d1, zl, zh, e1, e2, p1⟩ := gHk_ok hs hG hc.1
      simp only [List.all_cons, List.all_nil, Bool.and_eq_true, Bool.and_true] at d1
      have h2 := gGe_ok hs (gEvN hs d1.1 e1) (gEvN hs d1.2 e2) hc.2
      exact gSo_w (by show ¬ 64 < 10; decide) ⟨0, 0, rfl, rfl, fun j hj _ => p1 j hj (by omega)⟩
    · cases hg
  · cases hg
/-! ### the steps' table -/
abbrev gSf : Type := sCx → List sFc → List sV → List Nat → List sFc
def gSk (f : gSf) : Prop := ∀ (A : Nat → Nat → Int32) (L : Nat) (sc : Nat → Int32) (ρ : List Int) (κ : sCx) (G : List sFc), sCok ρ κ → (∀ f ∈ G, sWf A L sc ρ f) → ∀ (vs : List sV) (cs : List Nat), ∀ g ∈ f κ G vs cs, gSo A L sc ρ g
def gTb : List gSf := [fun κ G vs cs => gOl (gR0 κ G vs cs), fun κ G vs cs => gOl (gR1 κ G vs cs), fun κ G vs cs => gOl (gR2 κ G vs cs), fun κ G vs cs => gOl (gR3 κ G vs cs), fun κ G vs cs => gOl (gR4 κ G vs cs), fun κ G vs cs => gOl (gR5 κ G vs cs), fun κ G vs cs => gOl (gR6 κ G vs cs), fun κ G vs cs => gOl (gR7 κ G vs cs), fun κ G vs cs => gOl (gR8 κ G vs cs), fun κ G vs cs => gOl (gR9 κ G vs cs), fun κ G vs cs => gOl (gR10 κ G vs cs), fun κ G vs cs => gOl (gR11 κ G vs cs), fun κ G vs cs => gOl (gR12 κ G vs cs), fun κ G vs cs => gOl (gR13 κ G vs cs), gLc, gS15, gS16, gS17, gS18, gS19, gS20, gS21]
theorem gTb_ok : ∀ f ∈ gTb, gSk f := gMc (fun A L sc ρ κ G hs hG vs cs => gOl_ok (fun f h => gR0_ok hs h)) (gMc (fun A L sc ρ κ G hs hG vs cs => gOl_ok (fun f h => gR1_ok hs hG h)) (gMc (fun A L sc ρ κ G hs hG vs cs => gOl_ok (fun f h => gR2_ok hs hG h)) (gMc (fun A L sc ρ κ G hs hG vs cs => gOl_ok (fun f h => gR3_ok hs hG h)) (gMc (fun A L sc ρ κ G hs hG vs cs => gOl_ok (fun f h => gR4_ok hs hG h)) (gMc (fun A L sc ρ κ G hs hG vs cs => gOl_ok (fun f h => gR5_ok hs hG h)) (gMc (fun A L sc ρ κ G hs hG vs cs => gOl_ok (fun f h => gR6_ok hs hG h)) (gMc (fun A L sc ρ κ G hs hG vs cs => gOl_ok (fun f h => gR7_ok hs hG h)) (gMc (fun A L sc ρ κ G hs hG vs cs => gOl_ok (fun f h => gR8_ok hs hG h)) (gMc (fun A L sc ρ κ G hs hG vs cs => gOl_ok (fun f h => gR9_ok hs hG h)) (gMc (fun A L sc ρ κ G hs hG vs cs => gOl_ok (fun f h => gR10_ok hs hG h)) (gMc (fun A L sc ρ κ G hs hG vs cs => gOl_ok (fun f h => gR11_ok hs h)) (gMc (fun A L sc ρ κ G hs hG vs cs => gOl_ok (fun f h => gR12_ok hs hG h)) (gMc (fun A L sc ρ κ G hs hG vs cs => gOl_ok (fun f h => gR13_ok hs hG h)) (gMc (fun A L sc ρ κ G hs hG vs cs => gLc_ok hs hG) (gMc (fun A L sc ρ κ G hs hG vs cs => gS15_ok hs hG) (gMc (fun A L sc ρ κ G hs hG vs cs => gS16_ok hs hG) (gMc (fun A L sc ρ κ G hs hG vs cs => gS17_ok hs) (gMc (fun A L sc ρ κ G hs hG vs cs => gS18_ok ) (gMc (fun A L sc ρ κ G hs hG vs cs => gS19_ok hs hG) (gMc (fun A L sc ρ κ G hs hG vs cs => gS20_ok hs hG) (gMc (fun A L sc ρ κ G hs hG vs cs => gS21_ok hs hG) (gMn))))))))))))))))))))))
abbrev gSp1 : Type := Nat × List sV × List Nat
def gSt (κ : sCx) (G : List sFc) (q : gSp1) : List sFc := match fAt gTb q.1 with
  | some f => f κ G q.2.1 q.2.2
  | none => []
theorem gSt_ok (hs : sCok ρ κ) (hG : ∀ f ∈ G, sWf A L sc ρ f) {q : gSp1} : ∀ g ∈ gSt κ G q, gSo A L sc ρ g := by
  intro g hg
  unfold gSt at hg
  rw [fAt_eq] at hg
  split at hg
  · rename_i f hf
    exact gTb_ok f (List.mem_of_getElem? hf) A L sc ρ κ G hs hG _ _ g hg
  · cases hg
end RU
/-- what follows from one state's facts are another's -/
def gImp (κ : sCx) (G : List sFc) (κ' : sCx) (G' : List sFc) : Prop := ∀ (A : Nat → Nat → Int32) (L : Nat) (sc : Nat → Int32) (ρ : List Int), sCok ρ κ → (∀ f ∈ G, sWf A L sc ρ f) → sCok ρ κ' ∧ ∀ f ∈ G', sWf A L sc ρ f
theorem gImp_rfl {κ : sCx} {G : List sFc} : gImp κ G κ G := fun _ _ _ _ hs hG => ⟨hs, hG⟩
theorem gImp_tr {κ κ1 κ2 : sCx} {G G1 G2 : List sFc} (h1 : gImp κ G κ1 G1) (h2 : gImp κ1 G1 κ2 G2) : gImp κ G κ2 G2 := fun A L sc ρ hs hG => h2 A L sc ρ (h1 A L sc ρ hs hG).1 (h1 A L sc ρ hs hG).2
def gPut {α : Type} (fs : List sFc) (κ : sCx) (G : List sFc) (k : sCx → List sFc → α) : α := List.rec (motive := fun _ => sCx → List sFc → α) (fun κ G => k κ G) (fun f _ ih κ G => Bool.rec (motive := fun _ => α) (ih κ (f :: G)) (ih (κ.1, κ.2.1, f :: κ.2.2) G) (Nat.blt f.1 10)) fs κ G
theorem gPut_ex {α : Type} {k : sCx → List sFc → α} : ∀ (fs : List sFc) (κ : sCx) (G : List sFc), ∃ κ' G', gPut fs κ G k = k κ' G' ∧ ∀ (A : Nat → Nat → Int32) (L : Nat) (sc : Nat → Int32) (ρ : List Int), (∀ g ∈ fs, gSo A L sc ρ g) → sCok ρ κ → (∀ f ∈ G, sWf A L sc ρ f) → sCok ρ κ' ∧ ∀ f ∈ G', sWf A L sc ρ f
  | [], κ, G => ⟨κ, G, rfl, fun _ _ _ _ _ hs hG => ⟨hs, hG⟩⟩
  | f :: fs, κ, G => by
    have hu : gPut (f :: fs) κ G k = Bool.rec (motive := fun _ => α) (gPut fs κ (f :: G) k) (gPut fs (κ.1, κ.2.1, f :: κ.2.2) G k) (Nat.blt f.1 10) := rfl
    cases e : Nat.blt f.1 10 with
    | false =>
      rw [e] at hu
      obtain ⟨κ', G', h1, h2⟩ := gPut_ex (k := k) fs κ (f :: G)
      refine ⟨κ', G', hu.trans h1, fun A L sc ρ ho hs hG => h2 A L sc ρ (fun g hg => ho g (List.mem_cons_of_mem _ hg)) hs (fun g hg => ?_)⟩
      rcases List.mem_cons.mp hg with rfl | hg
      · refine (ho _ List.mem_cons_self).2 (fun q => ?_)
        have : Nat.blt g.1 10 = true := Nat.ble_eq_true_of_le q
        rw [e] at this
        cases this
      · exact hG g hg
    | true =>
      rw [e] at hu
      obtain ⟨κ', G', h1, h2⟩ := gPut_ex (k := k) fs (κ.1, κ.2.1, f :: κ.2.2) G
      refine ⟨κ', G', hu.trans h1, fun A L sc ρ ho hs hG => h2 A L sc ρ (fun g hg => ho g (List.mem_cons_of_mem _ hg)) ⟨hs.1, fun g hg => ?_⟩ hG⟩
      rcases List.mem_cons.mp hg with rfl | hg
      · exact (ho _ List.mem_cons_self).1 (Nat.le_of_ble_eq_true e)
      · exact hs.2 g hg
def gDr {α : Type} (hs : List gSp1) (κ : sCx) (G : List sFc) (k : sCx → List sFc → α) : α := List.rec (motive := fun _ => sCx → List sFc → α) (fun κ G => k κ G) (fun s _ ih κ G => gPut (gSt κ G s) κ G ih) hs κ G
theorem gDr_ex {α : Type} {k : sCx → List sFc → α} : ∀ (hs : List gSp1) (κ : sCx) (G : List sFc), ∃ κ' G', gDr hs κ G k = k κ' G' ∧ gImp κ G κ' G'
  | [], κ, G => ⟨κ, G, rfl, gImp_rfl⟩
  | s :: t, κ, G => by
    have hu : gDr (s :: t) κ G k = gPut (gSt κ G s) κ G (fun κ G => gDr t κ G k) := rfl
    obtain ⟨κ1, G1, h1, h2⟩ := gPut_ex (k := fun κ G => gDr t κ G k) (gSt κ G s) κ G
    obtain ⟨κ', G', h3, h4⟩ := gDr_ex (k := k) t κ1 G1
    exact ⟨κ', G', (hu.trans h1).trans h3, gImp_tr (fun A L sc ρ hs hG => h2 A L sc ρ (gSt_ok hs hG) hs hG) h4⟩
/-! ===== the walker with hints: at a method's place these steps are tried ===== -/
abbrev gHt : Type := List (Nat × Nat × List gSp1)
def gLk (H : gHt) (mi pc : Nat) : List gSp1 := List.rec (motive := fun _ => List gSp1) [] (fun q _ ih => Bool.rec (motive := fun _ => List gSp1) ih (Bool.rec (motive := fun _ => List gSp1) ih q.2.2 (Nat.beq q.1 mi)) (Nat.beq q.2.1 pc)) H
def gStp (H : gHt) (F : sRun) : sRun := fun d mi cuts S => match S with
  | (κ, G, wd, pc, lv, st, cells, slots) => gDr (gLk H mi pc) κ G fun κ' G' => F d mi cuts (κ', G', wd, pc, lv, st, cells, slots)
theorem gStp_ok {PT : List sMd} {H : gHt} {F : sRun} (hF : sSnd PT F) : sSnd PT (gStp H F) := by
  intro d mi cuts S r h
  obtain ⟨κ, G, wd, pc, lv, st, cells, slots⟩ := S
  obtain ⟨κ', G', h1, h2⟩ := gDr_ex (k := fun κ' G' => F d mi cuts (κ', G', wd, pc, lv, st, cells, slots)) (gLk H mi pc) κ G
  have h3 : F d mi cuts (κ', G', wd, pc, lv, st, cells, slots) = some r := h1.symm.trans h
  obtain ⟨g1, g2, g3, g4⟩ := hF d mi cuts _ r h3
  refine ⟨g1, g2, g3, ?_⟩
  intro M hM ρ ex g n0 L sc p l e Rm s m args below meth c Q hFx oc os c1 c2 ws Hh locs ls lc vs hs hG hpt hl hL hS K
  obtain ⟨hs', hG'⟩ := h2 (sAc ws) L sc ρ hs hG
  exact g4 M hM ρ ex g n0 L sc p l e Rm s m args below meth c Q hFx oc os c1 c2 ws Hh locs ls lc vs hs' hG' hpt hl hL hS K
noncomputable def sGoH (PT : List sMd) (SM : List sIn) (H : gHt) (n : Nat) : sRun := Nat.rec (fun _ _ _ _ => none) (fun _ R => gStp H (sStep PT (sClS PT SM R) R)) n
theorem sGoH_succ (PT : List sMd) (SM : List sIn) (H : gHt) (n : Nat) : sGoH PT SM H (n + 1) = gStp H (sStep PT (sClS PT SM (sGoH PT SM H n)) (sGoH PT SM H n)) := rfl
theorem sGoH_ok {PT : List sMd} {SM : List sIn} {H : gHt} (hPT : sOkP PT) (hS : ∀ I ∈ SM, sInOk PT I) : ∀ n : Nat, sSnd PT (sGoH PT SM H n)
  | 0 => fun d mi cuts S r h => by cases h
  | n + 1 => by
    rw [sGoH_succ]
    exact gStp_ok (sStep_ok hPT (sGoH_ok hPT hS n) (sClS_ok hPT hS (sGoH_ok hPT hS n)))
end
