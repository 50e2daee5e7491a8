noncomputable section
/-! ===== steps of a derivation: one after the other, each only where it checks ===== -/
def gE (ρ : List Int) (x : sV) : Int := if x.1 = 0 ∨ x.1 = 1 then x.2 else ρ.getD ((x.1 - 16) / 2) 0 + x.2
theorem gE_add (ρ : List Int) (x : sV) (c : Int) : gE ρ (gA x c) = gE ρ x + c := by
  unfold gE gA
  simp only
  split <;> omega
theorem gE_k (ρ : List Int) (z : Int) : gE ρ (0, z) = z := rfl
theorem gE_ev {ρ : List Int} {x : sV} {z : Int} (h : sEv ρ x = some z) : gE ρ x = z := by
  obtain ⟨t, c⟩ := x
  by_cases h0 : t = 0
  · subst h0
    exact Option.some.inj h
  · by_cases h1 : t = 1
    · subst h1
      exact Option.some.inj h
    · rw [sEv_gen ⟨h0, h1⟩] at h
      split at h
      · obtain ⟨y, hy, rfl⟩ := Option.map_eq_some_iff.mp h
        unfold gE
        rw [if_neg (by simp only; omega), List.getD_eq_getElem?_getD, hy]
        rfl
      · cases h
theorem gE_evs {ρ : List Int} : ∀ (as : List sV) (zs : List Int), sA2 (fun a z => sEv ρ a = some z) as zs → as.map (gE ρ) = zs
  | [], [], _ => rfl
  | a :: as, z :: zs, ⟨h1, h2⟩ => by rw [List.map_cons, gE_ev h1, gE_evs as zs h2]
  | [], _ :: _, q => q.elim
  | _ :: _, [], q => q.elim
theorem gE_def {ρ : List Int} {nx : Nat} {env : sE} (h : sOk ρ nx env) {x : sV} (hd : sDef nx x = true) : sEv ρ x = some (gE ρ x) := by
  obtain ⟨n, hn⟩ := sDef_ev h hd
  rw [gE_ev hn]
  exact hn
theorem gE_defs {ρ : List Int} {nx : Nat} {env : sE} (h : sOk ρ nx env) : ∀ as : List sV, as.all (sDef nx) = true → sA2 (fun a z => sEv ρ a = some z) as (as.map (gE ρ))
  | [], _ => trivial
  | a :: as, hd => by
    simp only [List.all_cons, Bool.and_eq_true] at hd
    exact ⟨gE_def h hd.1, gE_defs h as hd.2⟩
/-- a fact on what is reckoned -/
def gHF (κ : sCx) (r a b : sV) (op : Nat) : Bool := sDef κ.1 r && (sDef κ.1 a && (sDef κ.1 b && κ.2.2.any (sGq κ.2.1 5 [sN κ.2.1 r, sN κ.2.1 a, sN κ.2.1 b] [op])))
section RU
variable {A : Nat → Nat → Int32} {L : Nat} {sc : Nat → Int32} {ρ : List Int} {κ : sCx} {G : List sFc}
theorem gHF_ok (hs : sCok ρ κ) {r a b : sV} {op : Nat} (h : gHF κ r a b op = true) : sOp5 op (gE ρ r) (gE ρ a) (gE ρ b) := by
  simp only [gHF, Bool.and_eq_true] at h
  obtain ⟨d1, d2, d3, h⟩ := h
  obtain ⟨g, hg, h1⟩ := List.any_eq_true.mp h
  obtain ⟨e1, e2, e3⟩ := sGq_and h1
  have hp := sPf_rn (as := g.2.1) (sNl_ok hs g.2.1) (hs.2 g hg)
  rw [sVeL_eq e3, Nat.eq_of_beq_eq_true e1, e2] at hp
  obtain ⟨x, m, n, h1, h2, h3, h4⟩ := hp
  rw [gE_ev (gEvN hs d1 h1), gE_ev (gEvN hs d2 h2), gE_ev (gEvN hs d3 h3)]
  exact h4
def gLc (κ : sCx) (G : List sFc) (vs : List sV) (cs : List Nat) : List sFc := match cs with
  | r :: cs' => (match fAt gTab r with
    | some f => (match f vs cs' with
      | some u => Bool.rec (motive := fun _ => List sFc) [] (u.2.2.2.2.map fun o => (60, o.1, o.2)) (u.1.all (fun q => gHs κ G q.1 q.2) && (u.2.1.all (fun q => gGe κ q.1 q.2) && (u.2.2.1.all (fun q => gHF κ q.1 q.2.1 q.2.2.1 q.2.2.2) && (u.2.2.2.1.all (fun q => sEn0 κ.1 κ.2.1 κ.2.2 (6, [q.1, q.2], [])) && u.2.2.2.2.all (fun o => o.1.all (sDef κ.1))))))
      | none => [])
    | none => [])
  | [] => []
/-- what a step tells holds -/
def gSo (A : Nat → Nat → Int32) (L : Nat) (sc : Nat → Int32) (ρ : List Int) (g : sFc) : Prop := (g.1 < 10 → sPf ρ g) ∧ (¬ g.1 < 10 → sWf A L sc ρ g)
theorem gSo_w {g : sFc} (h : ¬ g.1 < 10) (hw : sWf A L sc ρ g) : gSo A L sc ρ g := ⟨fun q => absurd q h, fun _ => hw⟩
theorem gSo_p {g : sFc} (h : g.1 < 10) (hw : sPf ρ g) : gSo A L sc ρ g := ⟨fun _ => hw, fun q => absurd h q⟩
theorem gLc_ok (hs : sCok ρ κ) (hG : ∀ f ∈ G, sWf A L sc ρ f) {vs : List sV} {cs : List Nat} : ∀ g ∈ gLc κ G vs cs, gSo A L sc ρ g := by
  intro g hg
  unfold gLc at hg
  split at hg
  · rename_i r cs'
    rw [fAt_eq] at hg
    split at hg
    · rename_i f hf
      split at hg
      · rename_i u hu
        cases hb : (u.1.all (fun q => gHs κ G q.1 q.2) && (u.2.1.all (fun q => gGe κ q.1 q.2) && (u.2.2.1.all (fun q => gHF κ q.1 q.2.1 q.2.2.1 q.2.2.2) && (u.2.2.2.1.all (fun q => sEn0 κ.1 κ.2.1 κ.2.2 (6, [q.1, q.2], [])) && u.2.2.2.2.all (fun o => o.1.all (sDef κ.1)))))) with
        | false => rw [hb] at hg; cases hg
        | true =>
          rw [hb] at hg
          simp only [Bool.and_eq_true] at hb
          obtain ⟨b1, b2, b3, b4, b5⟩ := hb
          obtain ⟨o, ho, rfl⟩ := List.mem_map.mp hg
          have hd := List.all_eq_true.mp b5 o ho
          refine gSo_w (by show ¬ 60 < 10; decide) ⟨o.1.map (gE ρ), gE_defs hs.1 _ hd, ?_⟩
          refine gTab_ok f (List.mem_of_getElem? hf) vs cs' u hu L sc (gE ρ) (gE_add ρ) (gE_k ρ) (fun q hq => ?_) (fun q hq => ?_) (fun q hq => gHF_ok hs (List.all_eq_true.mp b3 q hq)) (fun q hq => ?_) o ho
          · obtain ⟨zs, h1, h2⟩ := gHs_ok hs hG (List.all_eq_true.mp b1 q hq)
            rw [gE_evs _ _ h1]
            exact h2
          · obtain ⟨x, y, h1, h2, h3⟩ := sEn0_ok hs.1 hs.2 (List.all_eq_true.mp b2 q hq)
            rw [gE_ev h1, gE_ev h2]
            exact h3
          · obtain ⟨x, y, h1, h2, h3⟩ := sEn0_ok hs.1 hs.2 (List.all_eq_true.mp b4 q hq)
            rw [gE_ev h1, gE_ev h2]
            exact h3
      · cases hg
    · cases hg
  · cases hg
def gOl (o : Option sFc) : List sFc := match o with
  | some f => Bool.rec (motive := fun _ => List sFc) [] [f] (Nat.beq f.1 60)
  | none => []
theorem gOl_ok {o : Option sFc} (h : ∀ f, o = some f → sWf A L sc ρ f) : ∀ g ∈ gOl o, gSo A L sc ρ g := by
  intro g hg
  unfold gOl at hg
  split at hg
  · rename_i f
    cases e : Nat.beq f.1 60 with
    | false => rw [e] at hg; cases hg
    | true =>
      rw [e] at hg
      have hg' : g ∈ [f] := hg
      rw [List.mem_singleton] at hg'
      subst hg'
      have := Nat.eq_of_beq_eq_true e
      exact gSo_w (by omega) (h _ rfl)
  · cases hg
/-- a table grows by an entry -/
def gS15 (κ : sCx) (G : List sFc) (vs : List sV) (cs : List Nat) : List sFc := match vs, cs with
  | [m, v], [r, id, o] => if (gHk κ G 62 [m] [r, id, o] && (gHk κ G 15 [gA m (o : Int), v] [r] && (gHs κ G [m, v] [14, id] && gGe κ m (0, 0)))) = true then [(62, [gA m 1], [r, id, o])] else []
  | _, _ => []
theorem gS15_ok (hs : sCok ρ κ) (hG : ∀ f ∈ G, sWf A L sc ρ f) {vs : List sV} {cs : List Nat} : ∀ g ∈ gS15 κ G vs cs, gSo A L sc ρ g := by
  intro g hg
  unfold gS15 at hg
  split at hg
  · rename_i m v r id o
    split at hg
    · rename_i hc
      rw [List.mem_singleton] at hg
      subst hg
      simp only [Bool.and_eq_true] at hc
      obtain ⟨h1, h2, h3, h4⟩ := hc
      obtain ⟨d1, zm, e1, p1, p2⟩ := gHk_ok hs hG h1
      obtain ⟨d2, za, zv, e2, e3, p3, p4⟩ := gHk_ok hs hG h2
      obtain ⟨x, y, e4, e5, p5⟩ := gHs2 hs hG h3
      simp only [List.all_cons, List.all_nil, Bool.and_eq_true, Bool.and_true] at d1 d2
      have g1 := gEvN hs d1 e1
      have g2 := gEvN hs d2.1 e2
      have g3 := gEvN hs d2.2 e3
      cases e4.symm.trans g1
      cases e5.symm.trans g3
      have g2' : za = zm + (o : Int) := by
        have := gE_add ρ m (o : Int)
        rw [gE_ev g2, gE_ev g1] at this
        exact this
      refine gSo_w (by show ¬ 62 < 10; decide) ⟨zm + 1, sEv_add g1 1, by omega, fun j hj => ?_⟩
      by_cases e : (j : Int) = zm
      · have := p5.2
        rw [show o + j = za.toNat by omega, p4, show j = zm.toNat by omega]
        exact this
      · exact p2 j (by omega)
    · cases hg
  · cases hg
/-- two ends are one -/
def gS16 (κ : sCx) (G : List sFc) (vs : List sV) (cs : List Nat) : List sFc := match vs, cs with
  | [a, b, c, d], [] => if (gHs κ G [a, b] [13] && gHs κ G [c, d] [13]) = true then [(0, [a, c], []), (0, [c, a], []), (0, [b, d], []), (0, [d, b], [])] else []
  | _, _ => []
theorem gS16_ok (hs : sCok ρ κ) (hG : ∀ f ∈ G, sWf A L sc ρ f) {vs : List sV} {cs : List Nat} : ∀ g ∈ gS16 κ G vs cs, gSo A L sc ρ g := by
  intro g hg
  unfold gS16 at hg
  split at hg
  · split at hg
    · rename_i hc
      simp only [Bool.and_eq_true] at hc
      obtain ⟨x, y, e1, e2, p1⟩ := gHs2 hs hG hc.1
      obtain ⟨x', y', e3, e4, p2⟩ := gHs2 hs hG hc.2
      obtain ⟨rfl, rfl⟩ := q_one p1 p2
      simp only [List.mem_cons, List.not_mem_nil, or_false] at hg
      rcases hg with rfl | rfl | rfl | rfl
      · exact gSo_p (by show 0 < 10; decide) ⟨_, _, e1, e3, Int.le_refl _⟩
      · exact gSo_p (by show 0 < 10; decide) ⟨_, _, e3, e1, Int.le_refl _⟩
      · exact gSo_p (by show 0 < 10; decide) ⟨_, _, e2, e4, Int.le_refl _⟩
      · exact gSo_p (by show 0 < 10; decide) ⟨_, _, e4, e2, Int.le_refl _⟩
    · cases hg
  · cases hg
/-- a difference that isn't more than c -/
def gS17 (κ : sCx) (_G : List sFc) (vs : List sV) (cs : List Nat) : List sFc := match vs, cs with
  | [d, a, b], [c] => (match sHi κ.2.1 d with
    | some h => if (gHF κ d a b 3 && gLe h (c : Int)) = true then [(0, [gA b (c : Int), a], [])] else []
    | none => [])
  | _, _ => []
theorem gS17_ok (hs : sCok ρ κ) {vs : List sV} {cs : List Nat} : ∀ g ∈ gS17 κ G vs cs, gSo A L sc ρ g := by
  intro g hg
  unfold gS17 at hg
  split at hg
  · rename_i d a b c
    split at hg
    · rename_i h hh
      split at hg
      · rename_i hc
        rw [List.mem_singleton] at hg
        subst hg
        rw [Bool.and_eq_true] at hc
        have h1 := gHF_ok hs hc.1
        have h2 := gLe_iff.mp hc.2
        simp only [gHF, Bool.and_eq_true] at hc
        have ed := gE_def hs.1 hc.1.1
        have ea := gE_def hs.1 hc.1.2.1
        have eb := gE_def hs.1 hc.1.2.2.1
        have h3 := sHi_ok hs.1 ed hh
        simp only [sOp5] at h1
        exact gSo_p (by show 0 < 10; decide) ⟨_, _, sEv_add eb (c : Int), ea, by omega⟩
      · cases hg
    · cases hg
  · cases hg
def gS18 (_κ : sCx) (_G : List sFc) (vs : List sV) (cs : List Nat) : List sFc := match vs, cs with
  | [], [r, id, o] => [(62, [(0, 0)], [r, id, o])]
  | _, _ => []
theorem gS18_ok {vs : List sV} {cs : List Nat} : ∀ g ∈ gS18 κ G vs cs, gSo A L sc ρ g := by
  intro g hg
  unfold gS18 at hg
  split at hg
  · rw [List.mem_singleton] at hg
    subst hg
    exact gSo_w (by show ¬ 62 < 10; decide) ⟨0, rfl, Int.le_refl _, fun j hj => by omega⟩
  · cases hg
def gS19 (κ : sCx) (G : List sFc) (vs : List sV) (cs : List Nat) : List sFc := match vs, cs with
  | [s, e, t], [] => if gHs κ G [s, e, t] [3] = true then [(1, [e, gA s 1, t], [])] else []
  | _, _ => []
theorem gS19_ok (hs : sCok ρ κ) (hG : ∀ f ∈ G, sWf A L sc ρ f) {vs : List sV} {cs : List Nat} : ∀ g ∈ gS19 κ G vs cs, gSo A L sc ρ g := by
  intro g hg
  unfold gS19 at hg
  split at hg
  · split at hg
    · rename_i hc
      rw [List.mem_singleton] at hg
      subst hg
      obtain ⟨x, y, z, e1, e2, e3, p1⟩ := gHs3 hs hG hc
      exact gSo_p (by show 1 < 10; decide) ⟨y, x + 1, z, e2, sEv_add e1 1, e3, q_end1 p1⟩
    · cases hg
  · cases hg
def sGq2 (env : sE) (y u : sV) (op : Nat) (g : sFc) : Bool := match g with
  | (5, [y', u', _], [o]) => Nat.beq o op && (sVe (sN env y') (sN env y) && sVe (sN env u') (sN env u))
  | _ => false
theorem sGq2_ok (hs : sCok ρ κ) {y u : sV} {op : Nat} (dy : sDef κ.1 y = true) (du : sDef κ.1 u = true) (h : κ.2.2.any (sGq2 κ.2.1 y u op) = true) : ∃ n, sOp5 op (gE ρ y) (gE ρ u) n := by
  obtain ⟨g, hg, h1⟩ := List.any_eq_true.mp h
  have hp := hs.2 g hg
  unfold sGq2 at h1
  split at h1
  · rename_i y' u' b o
    simp only [Bool.and_eq_true] at h1
    obtain ⟨e1, e2, e3⟩ := h1
    have eo := Nat.eq_of_beq_eq_true e1
    subst eo
    obtain ⟨x, m, n, q1, q2, q3, q4⟩ := hp
    have n1 := sN_ev hs.1 q1
    have n2 := sN_ev hs.1 q2
    rw [sVe_eq e2] at n1
    rw [sVe_eq e3] at n2
    rw [gE_ev (gEvN hs dy n1), gE_ev (gEvN hs du n2)]
    exact ⟨n, q4⟩
  · cases h1
/-- a tape's row holds one byte more -/
def gS20 (κ : sCx) (G : List sFc) (vs : List sV) (cs : List Nat) : List sFc := match vs, cs with
  | [lo, hi, y, u, a], [r, w, s] => if (gHk κ G 64 [lo, hi] [r, w] && (gHk κ G 15 [lo, y] [r] && (gHs κ G [lo, a] [20, s] && (gHF κ u a (0, (s : Int)) 4 && (((Nat.beq w 0 && κ.2.2.any (sGq2 κ.2.1 y u 6)) || (Nat.beq w 1 && κ.2.2.any (sGq2 κ.2.1 y u 5))) && sIx κ lo 700))))) = true then [(64, [gA lo 1, hi], [r, w])] else []
  | _, _ => []
theorem gS20_ok (hs : sCok ρ κ) (hG : ∀ f ∈ G, sWf A L sc ρ f) {vs : List sV} {cs : List Nat} : ∀ g ∈ gS20 κ G vs cs, gSo A L sc ρ g := by
  intro g hg
  unfold gS20 at hg
  split at hg
  · rename_i lo hi y u a r w s
    split at hg
    · rename_i hc
      rw [List.mem_singleton] at hg
      subst hg
      simp only [Bool.and_eq_true, Bool.or_eq_true] at hc
      obtain ⟨h1, h2, h3, h4, h5, h6⟩ := hc
      obtain ⟨d1, zl, zh, e1, e2, p1⟩ := gHk_ok hs hG h1
      obtain ⟨d2, zl', zy, e3, e4, p2, p3⟩ := gHk_ok hs hG h2
      obtain ⟨zx, za, e5, e6, p4, p5⟩ := gHs2 hs hG h3
      have h4o := gHF_ok hs h4
      simp only [gHF, Bool.and_eq_true] at h4
      simp only [List.all_cons, List.all_nil, Bool.and_eq_true, Bool.and_true] at d1 d2
      have g1 := gEvN hs d1.1 e1
      have g2 := gEvN hs d1.2 e2
      have g3 := gEvN hs d2.1 e3
      have g4 := gEvN hs d2.2 e4
      cases g1.symm.trans g3
      cases g1.symm.trans e5
      have hix := gIx_ok hs g1 h6
      simp only [sOp5, gE_k, gE_ev e6, Int.toNat_natCast] at h4o
      have hu := gE_def hs.1 h4.1
      have hby : zy = gB w (gT L sc zl.toNat) := by
        rw [p5, ← h4o]
        rcases h5 with ⟨hw, h5⟩ | ⟨hw, h5⟩
        · have ew := Nat.eq_of_beq_eq_true hw
          subst ew
          obtain ⟨n, this⟩ := sGq2_ok hs d2.2 h4.1 h5
          rw [gE_ev g4] at this
          unfold gB
          rw [if_pos rfl]
          exact this
        · have ew := Nat.eq_of_beq_eq_true hw
          subst ew
          obtain ⟨n, this⟩ := sGq2_ok hs d2.2 h4.1 h5
          rw [gE_ev g4] at this
          unfold gB
          rw [if_neg (by decide)]
          exact this
      refine gSo_w (by show ¬ 64 < 10; decide) ⟨zl + 1, zh, sEv_add g1 1, g2, fun j hj hq => ?_⟩
      by_cases e : (j : Int) = zl
      · have ej : j = zl.toNat := by omega
        rw [ej, p3]
        exact hby
      · exact p1 j hj (by omega)
    · cases hg
  · cases hg
def gS21 (κ : sCx) (G : List sFc) (vs : List sV) (cs : List Nat) : List sFc := match vs, cs with
  | [lo, hi], [r, w] => if (gHk κ G 64 [lo, hi] [r, w] && gGe κ lo hi) = true then [(64, [(0, 0), (0, 0)], [r, w])] else []
  | _, _ => []
theorem gS21_ok (hs : sCok ρ κ) (hG : ∀ f ∈ G, sWf A L sc ρ f) {vs : List sV} {cs : List Nat} : ∀ g ∈ gS21 κ G vs cs, gSo A L sc ρ g := by
  intro g hg
  unfold gS21 at hg
  split at hg
  · split at hg
    · rename_i hc
      rw [List.mem_singleton] at hg
      subst hg
      rw [Bool.and_eq_true] at hc
      obtain ⟨d1, zl, zh, e1, e2, p1⟩ := gHk_ok hs hG hc.1
      simp only [List.all_cons, List.all_nil, Bool.and_eq_true, Bool.and_true] at d1
      have h2 := gGe_ok hs (gEvN hs d1.1 e1) (gEvN hs d1.2 e2) hc.2
      exact gSo_w (by show ¬ 64 < 10; decide) ⟨0, 0, rfl, rfl, fun j hj _ => p1 j hj (by omega)⟩
    · cases hg
  · cases hg
/-- two last configurations are one -/
theorem q_two {ru ru' : Nat} {p a b d e r p' a' b' d' e' r' : Int} (h1 : gQ1 L sc [12, ru] [p, a, b, d, e, r]) (h2 : gQ1 L sc [12, ru'] [p', a', b', d', e', r']) : p = p' ∧ a = a' ∧ b = b' ∧ d = d' ∧ e = e' ∧ r = r' := by
  obtain ⟨a1, a2, a3, a4, a5, a6, tb, s1, c1⟩ := h1
  obtain ⟨b1, b2, b3, b4, b5, b6, tb', s2, c2⟩ := h2
  have h := tRe_uniq s1 s2 rfl rfl
  have e1 : p.toNat = p'.toNat := congrArg (fun c : tCf => c.1) h
  have e2 : tb = tb' := congrArg (fun c : tCf => c.2.2.2.1) h
  rw [e2, c2] at c1
  injection c1 with g1 c1
  injection c1 with g2 c1
  injection c1 with g3 c1
  injection c1 with g4 c1
  injection c1 with g5 c1
  exact ⟨by omega, by omega, by omega, by omega, by omega, by omega⟩
def gS22 (κ : sCx) (G : List sFc) (vs : List sV) (cs : List Nat) : List sFc := match vs, cs with
  | [p, a, b, d, e, r, p', a', b', d', e', r'], [u, u'] => if (gHs κ G [p, a, b, d, e, r] [12, u] && gHs κ G [p', a', b', d', e', r'] [12, u']) = true then [(0, [p, p'], []), (0, [p', p], []), (0, [a, a'], []), (0, [a', a], []), (0, [b, b'], []), (0, [b', b], []), (0, [d, d'], []), (0, [d', d], []), (0, [e, e'], []), (0, [e', e], []), (0, [r, r'], []), (0, [r', r], [])] else []
  | _, _ => []
theorem gS22_ok (hs : sCok ρ κ) (hG : ∀ f ∈ G, sWf A L sc ρ f) {vs : List sV} {cs : List Nat} : ∀ g ∈ gS22 κ G vs cs, gSo A L sc ρ g := by
  intro g hg
  unfold gS22 at hg
  split at hg
  · split at hg
    · rename_i hc
      simp only [Bool.and_eq_true] at hc
      obtain ⟨x1, x2, x3, x4, x5, x6, f1, f2, f3, f4, f5, f6, p1⟩ := gHs6 hs hG hc.1
      obtain ⟨y1, y2, y3, y4, y5, y6, k1, k2, k3, k4, k5, k6, p2⟩ := gHs6 hs hG hc.2
      obtain ⟨rfl, rfl, rfl, rfl, rfl, rfl⟩ := q_two p1 p2
      simp only [List.mem_cons, List.not_mem_nil, or_false] at hg
      rcases hg with rfl | rfl | rfl | rfl | rfl | rfl | rfl | rfl | rfl | rfl | rfl | rfl
      · exact gSo_p (by show 0 < 10; decide) ⟨_, _, f1, k1, Int.le_refl _⟩
      · exact gSo_p (by show 0 < 10; decide) ⟨_, _, k1, f1, Int.le_refl _⟩
      · exact gSo_p (by show 0 < 10; decide) ⟨_, _, f2, k2, Int.le_refl _⟩
      · exact gSo_p (by show 0 < 10; decide) ⟨_, _, k2, f2, Int.le_refl _⟩
      · exact gSo_p (by show 0 < 10; decide) ⟨_, _, f3, k3, Int.le_refl _⟩
      · exact gSo_p (by show 0 < 10; decide) ⟨_, _, k3, f3, Int.le_refl _⟩
      · exact gSo_p (by show 0 < 10; decide) ⟨_, _, f4, k4, Int.le_refl _⟩
      · exact gSo_p (by show 0 < 10; decide) ⟨_, _, k4, f4, Int.le_refl _⟩
      · exact gSo_p (by show 0 < 10; decide) ⟨_, _, f5, k5, Int.le_refl _⟩
      · exact gSo_p (by show 0 < 10; decide) ⟨_, _, k5, f5, Int.le_refl _⟩
      · exact gSo_p (by show 0 < 10; decide) ⟨_, _, f6, k6, Int.le_refl _⟩
      · exact gSo_p (by show 0 < 10; decide) ⟨_, _, k6, f6, Int.le_refl _⟩
    · cases hg
  · cases hg
end RU
end
