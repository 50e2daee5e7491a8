noncomputable section
abbrev gSf0 : Type := sCx → List sFc → List sV → List Nat → List sFc
/-! ===== steps over rows, bits and the acts: in one form ===== -/
/-- the meaning of a fact, its numbers reckoned -/
def gM (A : Nat → Nat → Int32) (L : Nat) (sc : Nat → Int32) (E : sV → Int) (f : sFc) : Prop := match f with
  | (0, [a, b], []) => E b ≤ E a
  | (5, [r, a, b], [12]) => E r = gBo 12 (E a) (E b)
  | (15, [x, y], [k]) => 0 ≤ E x ∧ (A k (E x).toNat).toInt = E y
  | (60, as, ps) => gQ1 L sc ps (as.map E)
  | (62, [m], [r, id, o]) => 0 ≤ E m ∧ ∀ j : Nat, (j : Int) < E m → tRow (gT L sc) (gN L sc) id j (A r (o + j)).toInt
  | (65, as, ps) => gA5 A ps (as.map E)
  | (66, as, ps) => gA6 A ps (as.map E)
  | (67, as, ps) => gA7 A ps (as.map E)
  | (68, as, ps) => gA8 A ps (as.map E)
  | (80, as, ps) => gA9 A L sc ps (as.map E)
  | _ => False
def gMk (f : sFc) : Bool := match f with
  | (15, [_, _], [_]) => true
  | (60, _, _) => true
  | (62, [_], [_, _, _]) => true
  | (65, _, _) => true
  | (66, _, _) => true
  | (67, _, _) => true
  | (68, _, _) => true
  | (80, _, _) => true
  | _ => false
section RU
variable {A : Nat → Nat → Int32} {L : Nat} {sc : Nat → Int32} {ρ : List Int} {κ : sCx} {G : List sFc}
theorem gM_of {f : sFc} (hk : gMk f = true) (h : sWf A L sc ρ f) : gM A L sc (gE ρ) f := by
  unfold gMk at hk
  split at hk
  · rename_i x y k
    obtain ⟨m, n, e1, e2, e3, e4⟩ := h
    show 0 ≤ gE ρ x ∧ (A k (gE ρ x).toNat).toInt = gE ρ y
    rw [gE_ev e1, gE_ev e2]
    exact ⟨e3, e4⟩
  · rename_i as ps
    obtain ⟨zs, e1, e2⟩ := h
    show gQ1 L sc ps (as.map (gE ρ))
    rw [gE_evs _ _ e1]
    exact e2
  · rename_i m r id o
    obtain ⟨z, e1, e2⟩ := h
    show 0 ≤ gE ρ m ∧ ∀ j : Nat, (j : Int) < gE ρ m → tRow (gT L sc) (gN L sc) id j (A r (o + j)).toInt
    rw [gE_ev e1]
    exact e2
  · rename_i as ps
    obtain ⟨zs, e1, e2⟩ := h
    show gA5 A ps (as.map (gE ρ))
    rw [gE_evs _ _ e1]
    exact e2
  · rename_i as ps
    obtain ⟨zs, e1, e2⟩ := h
    show gA6 A ps (as.map (gE ρ))
    rw [gE_evs _ _ e1]
    exact e2
  · rename_i as ps
    obtain ⟨zs, e1, e2⟩ := h
    show gA7 A ps (as.map (gE ρ))
    rw [gE_evs _ _ e1]
    exact e2
  · rename_i as ps
    obtain ⟨zs, e1, e2⟩ := h
    show gA8 A ps (as.map (gE ρ))
    rw [gE_evs _ _ e1]
    exact e2
  · rename_i as ps
    obtain ⟨zs, e1, e2⟩ := h
    show gA9 A L sc ps (as.map (gE ρ))
    rw [gE_evs _ _ e1]
    exact e2
  · cases hk
theorem gM_so (hs : sCok ρ κ) {f : sFc} (hd : f.2.1.all (sDef κ.1) = true) (hm : gM A L sc (gE ρ) f) : gSo A L sc ρ f := by
  have hE := gE_defs hs.1 f.2.1 hd
  unfold gM at hm
  split at hm
  · obtain ⟨e1, e2, -⟩ := hE
    exact gSo_p (by show 0 < 10; decide) ⟨_, _, e1, e2, hm⟩
  · obtain ⟨e1, e2, e3, -⟩ := hE
    exact gSo_p (by show 5 < 10; decide) ⟨_, _, _, e1, e2, e3, hm⟩
  · obtain ⟨e1, e2, -⟩ := hE
    exact gSo_w (by show ¬ 15 < 10; decide) ⟨_, _, e1, e2, hm.1, hm.2⟩
  · exact gSo_w (by show ¬ 60 < 10; decide) ⟨_, hE, hm⟩
  · obtain ⟨e1, -⟩ := hE
    exact gSo_w (by show ¬ 62 < 10; decide) ⟨_, e1, hm⟩
  · exact gSo_w (by show ¬ 65 < 10; decide) ⟨_, hE, hm⟩
  · exact gSo_w (by show ¬ 66 < 10; decide) ⟨_, hE, hm⟩
  · exact gSo_w (by show ¬ 67 < 10; decide) ⟨_, hE, hm⟩
  · exact gSo_w (by show ¬ 68 < 10; decide) ⟨_, hE, hm⟩
  · exact gSo_w (by show ¬ 80 < 10; decide) ⟨_, hE, hm⟩
  · exact hm.elim
theorem gN_pk (hs : sCok ρ κ) : ∀ as : List sV, as.all (sDef κ.1) = true → sA2 (sPk2 ρ ρ) (as.map (sN κ.2.1)) as
  | [], _ => trivial
  | a :: as, hd => by
    simp only [List.all_cons, Bool.and_eq_true] at hd
    exact ⟨fun z hz => gEvN hs hd.1 hz, gN_pk hs as hd.2⟩
theorem gM_hk (hs : sCok ρ κ) (hG : ∀ f ∈ G, sWf A L sc ρ f) {f : sFc} (hk : gMk f = true) (h : gHk κ G f.1 f.2.1 f.2.2 = true) : gM A L sc (gE ρ) f := by
  obtain ⟨hd, hw⟩ := gHk_ok hs hG h
  exact gM_of hk (sWf_rn (gN_pk hs _ hd) hw)
/-- what is reckoned of bits, of known numbers too -/
def gOc (r a b : sV) (o : Nat) : Bool := Nat.beq r.1 0 && (Nat.beq a.1 0 && (Nat.beq b.1 0 && decide (r.2 = gBo o a.2 b.2)))
def gOpk (κ : sCx) (r a b : sV) (o : Nat) : Bool := (Nat.ble 7 o && Nat.ble o 12) && (gHF κ r a b o || ((sDef κ.1 r && (sDef κ.1 a && sDef κ.1 b)) && gOc (sN κ.2.1 r) (sN κ.2.1 a) (sN κ.2.1 b) o))
theorem gE_N (hs : sCok ρ κ) {x : sV} (hd : sDef κ.1 x = true) : gE ρ (sN κ.2.1 x) = gE ρ x := gE_ev (sN_ev hs.1 (gE_def hs.1 hd))
theorem gE_0 {x : sV} (h : Nat.beq x.1 0 = true) : gE ρ x = x.2 := by
  have h := Nat.eq_of_beq_eq_true h
  unfold gE
  rw [if_pos (Or.inl h)]
theorem gOpk_ok (hs : sCok ρ κ) {r a b : sV} {o : Nat} (h : gOpk κ r a b o = true) : gE ρ r = gBo o (gE ρ a) (gE ρ b) := by
  unfold gOpk at h
  rw [Bool.and_eq_true, Bool.and_eq_true, Bool.or_eq_true] at h
  obtain ⟨⟨h1, h2⟩, h⟩ := h
  have h1 := Nat.le_of_ble_eq_true h1
  have h2 := Nat.le_of_ble_eq_true h2
  rcases h with h | h
  · have h3 := gHF_ok hs h
    have : o = 7 ∨ o = 8 ∨ o = 9 ∨ o = 10 ∨ o = 11 ∨ o = 12 := by omega
    rcases this with rfl | rfl | rfl | rfl | rfl | rfl <;> exact h3
  · unfold gOc at h
    simp only [Bool.and_eq_true, decide_eq_true_eq] at h
    obtain ⟨⟨d1, d2, d3⟩, e1, e2, e3, e4⟩ := h
    rw [← gE_N hs d1, ← gE_N hs d2, ← gE_N hs d3, gE_0 e1, gE_0 e2, gE_0 e3]
    exact e4
abbrev gRw : Type := List sFc × List (sV × sV) × List (sV × sV × sV × Nat) × List (sV × Int × sV) × List sV × List sFc
abbrev gRf : Type := (sV → sV) → List sV → List Nat → Option gRw
/-- asked facts, not less, reckoned bits, products, numbers of 32 bits, told facts -/
def gSw (f : gRf) : Prop := ∀ (N : sV → sV) (vs : List sV) (cs : List Nat) (u : gRw), f N vs cs = some u → ∀ (A : Nat → Nat → Int32) (L : Nat) (sc : Nat → Int32) (E : sV → Int), (∀ x c, E (gA x c) = E x + c) → (∀ z, E (0, z) = z) → (∀ v ∈ vs, E (N v) = E v) → (∀ q ∈ u.1, gM A L sc E q) → (∀ q ∈ u.2.1, E q.2 ≤ E q.1) → (∀ q ∈ u.2.2.1, E q.1 = gBo q.2.2.2 (E q.2.1) (E q.2.2.1)) → (∀ q ∈ u.2.2.2.1, E q.1 = q.2.1 * E q.2.2) → (∀ v ∈ u.2.2.2.2.1, sI (E v) = true) → ∀ o ∈ u.2.2.2.2.2, gM A L sc E o
def gSx (f : gRf) : gSf0 := fun κ G vs cs => if vs.all (sDef κ.1) = true then (match f (sN κ.2.1) vs cs with
  | some u => if (u.1.all (fun q => gMk q && gHk κ G q.1 q.2.1 q.2.2) && (u.2.1.all (fun q => gGe κ q.1 q.2) && (u.2.2.1.all (fun q => gOpk κ q.1 q.2.1 q.2.2.1 q.2.2.2) && (u.2.2.2.1.all (fun q => (sDef κ.1 q.1 && sDef κ.1 q.2.2) && sPrd κ q.1 q.2.1 q.2.2 false) && (u.2.2.2.2.1.all (fun v => sDef κ.1 v && (sRg κ.2.1 v).isSome) && u.2.2.2.2.2.all (fun o => o.2.1.all (sDef κ.1))))))) = true then u.2.2.2.2.2 else []
  | none => []) else []
theorem gSx_ok {f : gRf} (hf : gSw f) : ∀ (A : Nat → Nat → Int32) (L : Nat) (sc : Nat → Int32) (ρ : List Int) (κ : sCx) (G : List sFc), sCok ρ κ → (∀ f ∈ G, sWf A L sc ρ f) → ∀ (vs : List sV) (cs : List Nat), ∀ g ∈ gSx f κ G vs cs, gSo A L sc ρ g := by
  intro A L sc ρ κ G hs hG vs cs g hg
  unfold gSx at hg
  split at hg
  · rename_i hv
    split at hg
    · rename_i u hu
      split at hg
      · rename_i hc
        simp only [Bool.and_eq_true] at hc
        obtain ⟨b1, b2, b3, b4, b5, b6⟩ := hc
        refine gM_so hs (List.all_eq_true.mp b6 g hg) (hf (sN κ.2.1) vs cs u hu A L sc (gE ρ) (gE_add ρ) (gE_k ρ) (fun v hq => gE_N hs (List.all_eq_true.mp hv v hq)) (fun q hq => ?_) (fun q hq => ?_) (fun q hq => gOpk_ok hs (List.all_eq_true.mp b3 q hq)) (fun q hq => ?_) (fun v hq => ?_) g hg)
        · have h : (gMk q && gHk κ G q.1 q.2.1 q.2.2) = true := List.all_eq_true.mp b1 q hq
          rw [Bool.and_eq_true] at h
          exact gM_hk hs hG h.1 h.2
        · obtain ⟨x, y, h1, h2, h3⟩ := sEn0_ok hs.1 hs.2 (List.all_eq_true.mp b2 q hq)
          rw [gE_ev h1, gE_ev h2]
          exact h3
        · have h : ((sDef κ.1 q.1 && sDef κ.1 q.2.2) && sPrd κ q.1 q.2.1 q.2.2 false) = true := List.all_eq_true.mp b4 q hq
          simp only [Bool.and_eq_true] at h
          exact (sPrd_ok hs (gE_def hs.1 h.1.1) (gE_def hs.1 h.1.2) h.2).2 rfl
        · have h : (sDef κ.1 v && (sRg κ.2.1 v).isSome) = true := List.all_eq_true.mp b5 v hq
          rw [Bool.and_eq_true] at h
          obtain ⟨⟨lo, hi⟩, hr⟩ := Option.isSome_iff_exists.mp h.2
          exact (sRg_ev hs.1 (gE_def hs.1 h.1) hr).2.2
      · cases hg
    · cases hg
  · cases hg
def gSz : gSf0 := fun _ _ _ _ => []
theorem gSz_ok : ∀ (A : Nat → Nat → Int32) (L : Nat) (sc : Nat → Int32) (ρ : List Int) (κ : sCx) (G : List sFc), sCok ρ κ → (∀ f ∈ G, sWf A L sc ρ f) → ∀ (vs : List sV) (cs : List Nat), ∀ g ∈ gSz κ G vs cs, gSo A L sc ρ g := fun _ _ _ _ _ _ _ _ _ _ g hg => by cases hg
end RU
section RW
variable {A : Nat → Nat → Int32} {L : Nat} {sc : Nat → Int32} {E : sV → Int}
theorem gMp {α : Type} {P : α → Prop} {l t : List α} (h : ∀ q ∈ l ++ t, P q) : (∀ q ∈ l, P q) ∧ ∀ q ∈ t, P q := ⟨fun q hq => h q (List.mem_append_left _ hq), fun q hq => h q (List.mem_append_right _ hq)⟩
theorem gMq {α : Type} {P : α → Prop} {l t : List α} (h1 : ∀ q ∈ l, P q) (h2 : ∀ q ∈ t, P q) : ∀ q ∈ l ++ t, P q := fun q hq => by
  rcases List.mem_append.mp hq with hq | hq
  · exact h1 q hq
  · exact h2 q hq
def gDD (a b : sV) : List sFc := [(0, [a, b], []), (0, [b, a], [])]
theorem gDD_ok {a b : sV} (h : E a = E b) : ∀ o ∈ gDD a b, gM A L sc E o := gMc (show E b ≤ E a by omega) (gMc (show E a ≤ E b by omega) gMn)
def gPl2 (N : sV → sV) (o m : sV) : Option sV := match N o, N m with
  | (0, c), (t, z) => some (gA (t, z) c)
  | (t, z), (0, c) => some (gA (t, z) c)
  | _, _ => none
theorem gPl2_ok {N : sV → sV} {o m p : sV} (hA : ∀ x c, E (gA x c) = E x + c) (hZ : ∀ z, E (0, z) = z) (h1 : E (N o) = E o) (h2 : E (N m) = E m) (h : gPl2 N o m = some p) : E p = E o + E m := by
  unfold gPl2 at h
  split at h
  · rename_i c t z e1 e2
    cases h
    rw [hA, ← h1, ← h2, e1, e2, hZ]
    omega
  · rename_i t z c e3 e1 e2
    cases h
    rw [hA, ← h1, ← h2, e1, e2, hZ]
  · cases h
theorem gA6_flip {r : Nat} {v v0 m x : Int} (h : gA6 A [r, 1] [v0, m, x]) (h0 : 0 ≤ x) (hx : x ≤ 15) (hm : m ≤ 8) (hb : v = gBo 12 v0 x ∨ v0 = gBo 12 v x) : gA6 A [r, 0] [v, m, 0] := by
  intro j hj
  have h1 := h j hj
  obtain ⟨k, rfl⟩ : ∃ k : Nat, x = (k : Int) := ⟨x.toNat, by omega⟩
  have hj' : j < 31 := by omega
  have hk : k < 31 := by omega
  rw [if_neg (by rintro ⟨q, -⟩; cases q), h1]
  rcases hb with hb | hb
  · rw [hb, gBit_turn v0 hk hj']
    by_cases e : j = k
    · rw [if_pos ⟨rfl, by omega⟩, if_pos e]
    · rw [if_neg (by rintro ⟨-, q⟩; omega), if_neg e]
  · rw [hb, gBit_turn v hk hj']
    by_cases e : j = k
    · rw [if_pos ⟨rfl, by omega⟩, if_pos e]
      omega
    · rw [if_neg (by rintro ⟨-, q⟩; omega), if_neg e]
def gW23 (N : sV → sV) (vs : List sV) (cs : List Nat) : Option gRw := match vs, cs with
  | [v, v0, z, m, x], [r, 0] => some ([(66, [v0, m, x], [r, 1])], [(x, (0, 0)), ((0, 15), x), ((0, 8), m)], [(v, v0, z, 9), (z, (0, 1), x, 10)], [], [], [(66, [v, m, (0, 0)], [r, 0])])
  | [v, v0, z, m, x], [r, 1] => some ([(66, [v0, m, x], [r, 1])], [(x, (0, 0)), ((0, 15), x), ((0, 8), m)], [(v0, v, x, 12)], [], [], [(66, [v, m, (0, 0)], [r, 0])])
  | _, _ => none
theorem gW23_ok : gSw gW23 := by
  intro N vs cs u h A L sc E hA hZ hN hF hC hO hP hI
  unfold gW23 at h
  split at h
  · rename_i v v0 z m x r
    cases h
    obtain ⟨f0, hF⟩ := gMa hF
    obtain ⟨c0, hC⟩ := gMa hC
    obtain ⟨c1, hC⟩ := gMa hC
    obtain ⟨c2, hC⟩ := gMa hC
    obtain ⟨o0, hO⟩ := gMa hO
    obtain ⟨o1, hO⟩ := gMa hO
    try simp only [hA, hZ] at c0 c1 c2 o0 o1
    refine gMc ?_ gMn
    have f0 : gA6 A [r, 1] [E v0, E m, E x] := f0
    show gA6 A [r, 0] [E v, E m, E (0, 0)]
    rw [hZ]
    exact gA6_flip f0 c0 c1 c2 (Or.inl (by rw [gBo12, ← o1]; exact o0))
  · rename_i v v0 z m x r
    cases h
    obtain ⟨f0, hF⟩ := gMa hF
    obtain ⟨c0, hC⟩ := gMa hC
    obtain ⟨c1, hC⟩ := gMa hC
    obtain ⟨c2, hC⟩ := gMa hC
    obtain ⟨o0, hO⟩ := gMa hO
    try simp only [hA, hZ] at c0 c1 c2 o0
    refine gMc ?_ gMn
    have f0 : gA6 A [r, 1] [E v0, E m, E x] := f0
    show gA6 A [r, 0] [E v, E m, E (0, 0)]
    rw [hZ]
    exact gA6_flip f0 c0 c1 c2 (Or.inr o0)
  · cases h
def gW24 (N : sV → sV) (vs : List sV) (cs : List Nat) : Option gRw := match vs, cs with
  | [v, m, v0, m0, x], [r, f] => some ([(66, [v0, m0, x], [r, f])], [(v, v0), (v0, v), (m0, m)], [], [], [], [(66, [v, m, x], [r, f])])
  | _, _ => none
theorem gW24_ok : gSw gW24 := by
  intro N vs cs u h A L sc E hA hZ hN hF hC hO hP hI
  unfold gW24 at h
  split at h
  · rename_i v m v0 m0 x r f
    cases h
    obtain ⟨f0, hF⟩ := gMa hF
    obtain ⟨c0, hC⟩ := gMa hC
    obtain ⟨c1, hC⟩ := gMa hC
    obtain ⟨c2, hC⟩ := gMa hC
    try simp only [hA, hZ] at c0 c1 c2
    refine gMc ?_ gMn
    have f0 : gA6 A [r, f] [E v0, E m0, E x] := f0
    have e : E v = E v0 := by omega
    show gA6 A [r, f] [E v, E m, E x]
    rw [e]
    exact fun j hj => f0 j (by omega)
  · cases h
def gW25 (N : sV → sV) (vs : List sV) (cs : List Nat) : Option gRw := match vs, cs with
  | [v, m, m1, m2], [r, i] => some ([(62, [m1], [r, i, 0]), (60, [v, m2], [26, i])], [(m1, m), (m2, m)], [], [], [], [(66, [v, m, (0, 0)], [r, 0])])
  | _, _ => none
theorem gW25_ok : gSw gW25 := by
  intro N vs cs u h A L sc E hA hZ hN hF hC hO hP hI
  unfold gW25 at h
  split at h
  · rename_i v m m1 m2 r i
    cases h
    obtain ⟨f0, hF⟩ := gMa hF
    obtain ⟨f1, hF⟩ := gMa hF
    obtain ⟨c0, hC⟩ := gMa hC
    obtain ⟨c1, hC⟩ := gMa hC
    try simp only [hA, hZ] at c0 c1
    refine gMc ?_ gMn
    have f0 : 0 ≤ E m1 ∧ ∀ j : Nat, (j : Int) < E m1 → tRow (gT L sc) (gN L sc) i j (A r (0 + j)).toInt := f0
    have f1 : 0 ≤ E m2 ∧ E m2 ≤ 8 ∧ tBt (gT L sc) (gN L sc) i (E v) (E m2).toNat := f1
    show gA6 A [r, 0] [E v, E m, E (0, 0)]
    intro j hj
    rw [if_neg (by rintro ⟨q, -⟩; cases q)]
    have a := f0.2 j (by omega)
    have b := f1.2.2.1 j (by omega)
    rw [Nat.zero_add] at a
    exact tRow_uniq a b
  · cases h
def gW26 (N : sV → sV) (vs : List sV) (cs : List Nat) : Option gRw := match vs, cs with
  | [m, x1, x2, w], [r1, r2] => (match gPl2 N x1 m, gPl2 N x2 m with
    | some p1, some p2 => some ([(65, [m, x1, x2], [r1, r2]), (15, [p1, w], [r1]), (15, [p2, w], [r2])], [(m, (0, 0))], [], [], [], [(65, [gA m 1, x1, x2], [r1, r2])])
    | _, _ => none)
  | _, _ => none
theorem gW26_ok : gSw gW26 := by
  intro N vs cs u h A L sc E hA hZ hN hF hC hO hP hI
  unfold gW26 at h
  split at h
  · rename_i m x1 x2 w r1 r2
    split at h
    · rename_i p1 p2 e1 e2
      cases h
      obtain ⟨f0, hF⟩ := gMa hF
      obtain ⟨f1, hF⟩ := gMa hF
      obtain ⟨f2, hF⟩ := gMa hF
      obtain ⟨c0, hC⟩ := gMa hC
      simp only [hZ] at c0
      have g1 := gPl2_ok hA hZ (hN x1 (by simp)) (hN m (by simp)) e1
      have g2 := gPl2_ok hA hZ (hN x2 (by simp)) (hN m (by simp)) e2
      have f0 : 0 ≤ E x1 ∧ 0 ≤ E x2 ∧ ∀ j : Nat, (j : Int) < E m → A r1 ((E x1).toNat + j) = A r2 ((E x2).toNat + j) := f0
      have f1 : 0 ≤ E p1 ∧ (A r1 (E p1).toNat).toInt = E w := f1
      have f2 : 0 ≤ E p2 ∧ (A r2 (E p2).toNat).toInt = E w := f2
      refine gMc ?_ gMn
      show gA5 A [r1, r2] [E (gA m 1), E x1, E x2]
      rw [hA]
      refine ⟨f0.1, f0.2.1, fun j hj => ?_⟩
      by_cases e : (j : Int) = E m
      · rw [show (E x1).toNat + j = (E p1).toNat by omega, show (E x2).toNat + j = (E p2).toNat by omega]
        exact Int32.toInt_inj.mp (f1.2.trans f2.2.symm)
      · exact f0.2.2 j (by omega)
    · cases h
  · cases h
def gW27 (N : sV → sV) (vs : List sV) (cs : List Nat) : Option gRw := match vs, cs with
  | [x1, x2], [r1, r2] => some ([], [(x1, (0, 0)), (x2, (0, 0))], [], [], [], [(65, [(0, 0), x1, x2], [r1, r2])])
  | _, _ => none
theorem gW27_ok : gSw gW27 := by
  intro N vs cs u h A L sc E hA hZ hN hF hC hO hP hI
  unfold gW27 at h
  split at h
  · rename_i x1 x2 r1 r2
    cases h
    obtain ⟨c0, hC⟩ := gMa hC
    obtain ⟨c1, hC⟩ := gMa hC
    try simp only [hA, hZ] at c0 c1
    refine gMc ?_ gMn
    show gA5 A [r1, r2] [E (0, 0), E x1, E x2]
    rw [hZ]
    exact ⟨c0, c1, fun j hj => by omega⟩
  · cases h
def gW28 (N : sV → sV) (vs : List sV) (cs : List Nat) : Option gRw := match vs, cs with
  | [m, m1, m2], [r1, o1, r2, o2, i] => some ([(62, [m1], [r1, i, o1]), (62, [m2], [r2, i, o2])], [(m1, m), (m2, m)], [], [], [], [(65, [m, (0, (o1 : Int)), (0, (o2 : Int))], [r1, r2])])
  | _, _ => none
theorem gW28_ok : gSw gW28 := by
  intro N vs cs u h A L sc E hA hZ hN hF hC hO hP hI
  unfold gW28 at h
  split at h
  · rename_i m m1 m2 r1 o1 r2 o2 i
    cases h
    obtain ⟨f0, hF⟩ := gMa hF
    obtain ⟨f1, hF⟩ := gMa hF
    obtain ⟨c0, hC⟩ := gMa hC
    obtain ⟨c1, hC⟩ := gMa hC
    try simp only [hA, hZ] at c0 c1
    have f0 : 0 ≤ E m1 ∧ ∀ j : Nat, (j : Int) < E m1 → tRow (gT L sc) (gN L sc) i j (A r1 (o1 + j)).toInt := f0
    have f1 : 0 ≤ E m2 ∧ ∀ j : Nat, (j : Int) < E m2 → tRow (gT L sc) (gN L sc) i j (A r2 (o2 + j)).toInt := f1
    refine gMc ?_ gMn
    show gA5 A [r1, r2] [E m, E (0, (o1 : Int)), E (0, (o2 : Int))]
    rw [hZ, hZ]
    refine ⟨Int.natCast_nonneg _, Int.natCast_nonneg _, fun j hj => ?_⟩
    rw [Int.toNat_natCast, Int.toNat_natCast]
    exact Int32.toInt_inj.mp (tRow_uniq (f0.2 j (by omega)) (f1.2 j (by omega)))
  · cases h
def gW29 (N : sV → sV) (vs : List sV) (cs : List Nat) : Option gRw := match vs, cs with
  | [m, m0, x1, x2], [r1, r2] => some ([(65, [m0, x1, x2], [r1, r2])], [(m0, m)], [], [], [], [(65, [m, x1, x2], [r1, r2])])
  | _, _ => none
theorem gW29_ok : gSw gW29 := by
  intro N vs cs u h A L sc E hA hZ hN hF hC hO hP hI
  unfold gW29 at h
  split at h
  · rename_i m m0 x1 x2 r1 r2
    cases h
    obtain ⟨f0, hF⟩ := gMa hF
    obtain ⟨c0, hC⟩ := gMa hC
    try simp only [hA, hZ] at c0
    have f0 : 0 ≤ E x1 ∧ 0 ≤ E x2 ∧ ∀ j : Nat, (j : Int) < E m0 → A r1 ((E x1).toNat + j) = A r2 ((E x2).toNat + j) := f0
    refine gMc ?_ gMn
    exact ⟨f0.1, f0.2.1, fun j hj => f0.2.2 j (by omega)⟩
  · cases h
def gW30 (N : sV → sV) (vs : List sV) (cs : List Nat) : Option gRw := match vs, cs with
  | [m, m0], [r, o, r2, o2, i] => some ([(62, [m], [r2, i, o2]), (65, [m0, (0, (o : Int)), (0, (o2 : Int))], [r, r2])], [(m0, m)], [], [], [], [(62, [m], [r, i, o])])
  | _, _ => none
theorem gW30_ok : gSw gW30 := by
  intro N vs cs u h A L sc E hA hZ hN hF hC hO hP hI
  unfold gW30 at h
  split at h
  · rename_i m m0 r o r2 o2 i
    cases h
    obtain ⟨f0, hF⟩ := gMa hF
    obtain ⟨f1, hF⟩ := gMa hF
    obtain ⟨c0, hC⟩ := gMa hC
    try simp only [hA, hZ] at c0
    have f0 : 0 ≤ E m ∧ ∀ j : Nat, (j : Int) < E m → tRow (gT L sc) (gN L sc) i j (A r2 (o2 + j)).toInt := f0
    have f1 : gA5 A [r, r2] [E m0, E (0, (o : Int)), E (0, (o2 : Int))] := f1
    rw [hZ, hZ] at f1
    refine gMc ⟨f0.1, fun j hj => ?_⟩ gMn
    have e := f1.2.2 j (by omega)
    rw [Int.toNat_natCast, Int.toNat_natCast] at e
    rw [e]
    exact f0.2 j hj
  · cases h
def gW31 (N : sV → sV) (vs : List sV) (cs : List Nat) : Option gRw := match vs, cs with
  | [s, hh, b, c, p, k, po], [kr, wr, pr, plr, ok, ow] => some ([], [(po, (0, 0))], [], [], [], [(67, [(0, 0), s, hh, b, c, p, k, po], [kr, wr, pr, plr, ok, ow])])
  | _, _ => none
theorem gW31_ok : gSw gW31 := by
  intro N vs cs u h A L sc E hA hZ hN hF hC hO hP hI
  unfold gW31 at h
  split at h
  · rename_i s hh b c p k po kr wr pr plr ok ow
    cases h
    obtain ⟨c0, hC⟩ := gMa hC
    try simp only [hA, hZ] at c0
    refine gMc ?_ gMn
    show gA7 A [kr, wr, pr, plr, ok, ow] [E (0, 0), E s, E hh, E b, E c, E p, E k, E po]
    rw [hZ]
    exact ⟨Int.le_refl _, by decide, c0, fun i hi => by omega⟩
  · cases h
theorem gAc_mk {K W : Int} {F F' : Nat → Int} {P P' : Nat → Int32} (h0 : 0 ≤ K) (h4 : K ≤ 4) (f0 : 0 ≤ F 4) (f4 : F 4 ≤ 4) (hp : ∀ j : Nat, (j : Int) < 3 * F 4 → P' j = P j) (e1 : F' 1 = (if K = 0 then gBo 12 (F 1) W else F 1)) (e0 : F' 0 = (if K = 1 then gBo 12 (F 0) W else F 0)) (e2 : F' 2 = (if K = 2 then gBo 12 (F 2) W else F 2)) (e3 : F' 3 = (if K = 3 then gBo 12 (F 3) W else F 3)) (e4 : F' 4 = (if K = 4 then F 4 + 1 else F 4)) : gAc K W F F' P P' := ⟨h0, h4, f0, f4, hp, e1, e0, e2, e3, e4⟩
theorem gAc_cg {K W : Int} {F F' F1 F1' : Nat → Int} {P P' P1 P1' : Nat → Int32} (h : gAc K W F F' P P') (e : ∀ t, t < 5 → F1 t = F t) (e' : ∀ t, t < 5 → F1' t = F' t) (p : ∀ j, j < 12 → P1 j = P j) (p' : ∀ j : Nat, (j : Int) < 3 * F 4 → P1' j = P' j) : gAc K W F1 F1' P1 P1' := by
  obtain ⟨a1, a2, a3, a4, a5, a6, a7, a8, a9, a10⟩ := h
  have w0 := e 0 (by decide)
  have w1 := e 1 (by decide)
  have w2 := e 2 (by decide)
  have w3 := e 3 (by decide)
  have w4 := e 4 (by decide)
  have v0 := e' 0 (by decide)
  have v1 := e' 1 (by decide)
  have v2 := e' 2 (by decide)
  have v3 := e' 3 (by decide)
  have v4 := e' 4 (by decide)
  refine gAc_mk a1 a2 (by omega) (by omega) (fun j hj => ?_) (by rw [v1, w1]; exact a6) (by rw [v0, w0]; exact a7) (by rw [v2, w2]; exact a8) (by rw [v3, w3]; exact a9) (by rw [v4, w4]; exact a10)
  rw [w4] at hj
  rw [p j (by omega), p' j hj]
  exact a5 j hj
theorem gFl_lt {pr : Nat → Int32} {n k : Int} {S : List Int} {i t : Nat} (h : (i : Int) < n) (hk : (17 * (i + 1) + t : Nat) < k) : gFl pr n k S i t = (pr (17 * i + t)).toInt := by
  unfold gFl gLo
  rw [if_pos h, if_pos hk, show 17 * (i + 1) + t - 17 = 17 * i + t by omega]
theorem gPl_lt {pr plr : Nat → Int32} {n k po : Int} {i j : Nat} (h : (i : Int) < n) (hk : (17 * (i + 1) + 5 + j : Nat) < k) : gPl pr plr n k po i j = pr (17 * i + 5 + j) := by
  unfold gPl gLo
  rw [if_pos h, if_pos hk, show 17 * (i + 1) + 5 + j - 17 = 17 * i + 5 + j by omega]
theorem gFl_ge {pr : Nat → Int32} {n k : Int} {S : List Int} {i t : Nat} (h : ¬ (i : Int) < n) : gFl pr n k S i t = S.getD t 0 := by
  unfold gFl
  rw [if_neg h]
theorem gPl_ge {pr plr : Nat → Int32} {n k po : Int} {i j : Nat} (h : ¬ (i : Int) < n) : gPl pr plr n k po i j = plr (po.toNat + j) := by
  unfold gPl
  rw [if_neg h]
theorem z0 (j : Nat) : (0 : Int).toNat + j = j := by show 0 + j = j; omega
/-- one act more -/
theorem gA7_push {kr wr pr plr ok ow : Nat} {n s h b c p q K W s' h' b' c' p' : Int} (hA : gA7 A [kr, wr, pr, plr, ok, ow] [n, s, h, b, c, p, 697, 0]) (h8 : gA8 A [pr, plr] [n, s, h, b, c, p, q]) (hn : n ≤ 39) (hq : 3 * p ≤ q) (hp0 : 0 ≤ p) (hp4 : p ≤ 4) (hK : (A kr (n + ok).toNat).toInt = K) (hW : (A wr (n + ow).toNat).toInt = W) (k0 : 0 ≤ K) (k4 : K ≤ 4)
    (e1 : h' = (if K = 0 then gBo 12 h W else h)) (e0 : s' = (if K = 1 then gBo 12 s W else s)) (e2 : b' = (if K = 2 then gBo 12 b W else b)) (e3 : c' = (if K = 3 then gBo 12 c W else c)) (e4 : p' = (if K = 4 then p + 1 else p)) : gA7 A [kr, wr, pr, plr, ok, ow] [n + 1, s', h', b', c', p', 697, 0] := by
  have hA0 := hA
  obtain ⟨a1, a2, a3, a4⟩ := hA
  obtain ⟨b1, b2, b3⟩ := h8
  refine ⟨by omega, by omega, a3, fun i hi => ?_⟩
  by_cases q1 : (i : Int) < n
  · have old := a4 i q1
    refine gAc_cg old (fun t ht => ?_) (fun t ht => ?_) (fun j hj => ?_) (fun j hj => ?_)
    · rw [gFl_lt hi (by omega), gFl_lt q1 (by omega)]
    · by_cases q2 : ((i + 1 : Nat) : Int) < n
      · rw [gFl_lt (by omega) (by omega), gFl_lt q2 (by omega)]
      · rw [gFl_lt (by omega) (by omega), gFl_ge q2, ← b2 t ht, show n.toNat = i + 1 by omega]
    · rw [gPl_lt hi (by omega), gPl_lt q1 (by omega)]
    · by_cases q2 : ((i + 1 : Nat) : Int) < n
      · have hj12 : j < 12 := by
          obtain ⟨-, -, -, f4, -⟩ := old
          omega
        rw [gPl_lt (by omega) (by omega), gPl_lt q2 (by omega)]
      · have hj12 : j < 12 := by
          obtain ⟨-, -, -, f4, -⟩ := old
          omega
        have hle := (gA7_p hA0 (i := i) (by omega)).1
        rw [gPl_lt (by omega) (by omega), gPl_ge q2, z0, ← b3 j (by omega), show n.toNat = i + 1 by omega]
  · have hin : n.toNat = i := by omega
    have F0 : ∀ t, t < 5 → gFl (A pr) (n + 1) 697 [s', h', b', c', p'] i t = [s, h, b, c, p].getD t 0 := fun t ht => by
      rw [gFl_lt hi (by omega), ← b2 t ht, hin]
    have F1 : ∀ t, gFl (A pr) (n + 1) 697 [s', h', b', c', p'] (i + 1) t = [s', h', b', c', p'].getD t 0 := fun t => gFl_ge (by omega)
    have g0 : gFl (A pr) (n + 1) 697 [s', h', b', c', p'] i 0 = s := F0 0 (by decide)
    have g1 : gFl (A pr) (n + 1) 697 [s', h', b', c', p'] i 1 = h := F0 1 (by decide)
    have g2 : gFl (A pr) (n + 1) 697 [s', h', b', c', p'] i 2 = b := F0 2 (by decide)
    have g3 : gFl (A pr) (n + 1) 697 [s', h', b', c', p'] i 3 = c := F0 3 (by decide)
    have g4 : gFl (A pr) (n + 1) 697 [s', h', b', c', p'] i 4 = p := F0 4 (by decide)
    have w0 : gFl (A pr) (n + 1) 697 [s', h', b', c', p'] (i + 1) 0 = s' := F1 0
    have w1 : gFl (A pr) (n + 1) 697 [s', h', b', c', p'] (i + 1) 1 = h' := F1 1
    have w2 : gFl (A pr) (n + 1) 697 [s', h', b', c', p'] (i + 1) 2 = b' := F1 2
    have w3 : gFl (A pr) (n + 1) 697 [s', h', b', c', p'] (i + 1) 3 = c' := F1 3
    have w4 : gFl (A pr) (n + 1) 697 [s', h', b', c', p'] (i + 1) 4 = p' := F1 4
    rw [show ok + i = (n + ok).toNat by omega, show ow + i = (n + ow).toNat by omega, hK, hW]
    refine gAc_mk k0 k4 (by omega) (by omega) (fun j hj => ?_) (by rw [w1, g1]; exact e1) (by rw [w0, g0]; exact e0) (by rw [w2, g2]; exact e2) (by rw [w3, g3]; exact e3) (by rw [w4, g4]; exact e4)
    rw [g4] at hj
    rw [gPl_ge (by omega), gPl_lt hi (by omega), z0, ← b3 j (by omega), hin]
/-- the last act is taken back -/
theorem gA7_pop {kr wr pr plr ok ow : Nat} {n s h b c p s' h' b' c' p' : Int} (hA : gA7 A [kr, wr, pr, plr, ok, ow] [n, s, h, b, c, p, 697, 0]) (h8 : gA8 A [pr, plr] [n - 1, s', h', b', c', p', 12]) (hn : 1 ≤ n) : gA7 A [kr, wr, pr, plr, ok, ow] [n - 1, s', h', b', c', p', 697, 0] ∧ ∃ i : Nat, (i : Int) = n - 1 ∧ gAc (A kr (ok + i)).toInt (A wr (ow + i)).toInt (fun t => [s', h', b', c', p'].getD t 0) (fun t => [s, h, b, c, p].getD t 0) (fun j => A plr j) (fun j => A plr j) := by
  obtain ⟨a1, a2, a3, a4⟩ := hA
  obtain ⟨b1, b2, b3⟩ := h8
  refine ⟨⟨by omega, by omega, a3, fun i hi => ?_⟩, (n - 1).toNat, by omega, ?_⟩
  · have old := a4 i (by omega)
    have f4 := old.2.2.2.1
    refine gAc_cg old (fun t ht => ?_) (fun t ht => ?_) (fun j hj => ?_) (fun j hj => ?_)
    · rw [gFl_lt hi (by omega), gFl_lt (by omega) (by omega)]
    · by_cases q2 : ((i + 1 : Nat) : Int) < n - 1
      · rw [gFl_lt q2 (by omega), gFl_lt (by omega) (by omega)]
      · rw [gFl_ge q2, gFl_lt (by omega) (by omega), ← b2 t ht, show (n - 1).toNat = i + 1 by omega]
    · rw [gPl_lt hi (by omega), gPl_lt (by omega) (by omega)]
    · have hj12 : j < 12 := by omega
      by_cases q2 : ((i + 1 : Nat) : Int) < n - 1
      · rw [gPl_lt q2 (by omega), gPl_lt (by omega) (by omega)]
      · rw [gPl_ge q2, gPl_lt (by omega) (by omega), z0, ← b3 j (by omega), show (n - 1).toNat = i + 1 by omega]
  · have old := a4 (n - 1).toNat (by omega)
    obtain ⟨c1, c2, c3, c4, c5, c6, c7, c8, c9, c10⟩ := old
    have F0 : ∀ t, t < 5 → gFl (A pr) n 697 [s, h, b, c, p] (n - 1).toNat t = [s', h', b', c', p'].getD t 0 := fun t ht => by
      rw [gFl_lt (by omega) (by omega), ← b2 t ht]
    have F1 : ∀ t, gFl (A pr) n 697 [s, h, b, c, p] ((n - 1).toNat + 1) t = [s, h, b, c, p].getD t 0 := fun t => gFl_ge (by omega)
    rw [F0 4 (by decide)] at c3 c4
    rw [F0 1 (by decide), F1 1] at c6
    rw [F0 0 (by decide), F1 0] at c7
    rw [F0 2 (by decide), F1 2] at c8
    rw [F0 3 (by decide), F1 3] at c9
    rw [F0 4 (by decide), F1 4] at c10
    exact gAc_mk c1 c2 c3 c4 (fun _ _ => rfl) c6 c7 c8 c9 c10
/-- a field that an act may turn -/
def gFo (b : Bool) (x y z w : sV) : List (sV × sV × sV × Nat) := Bool.rec (motive := fun _ => List (sV × sV × sV × Nat)) [] [(x, y, z, 9), (z, (0, 1), w, 10)] b
def gFg (b : Bool) (x y : sV) : List (sV × sV) := Bool.rec (motive := fun _ => List (sV × sV)) [(x, y), (y, x)] [] b
def gFd (b : Bool) (x y w : sV) : List sFc := Bool.rec (motive := fun _ => List sFc) (gDD x y) [(5, [x, y, w], [12])] b
theorem gFog {kz k : Int} {x y z w : sV} (hZ : ∀ z, E (0, z) = z) (ho : ∀ q ∈ gFo (decide (kz = k)) x y z w, E q.1 = gBo q.2.2.2 (E q.2.1) (E q.2.2.1)) (hg : ∀ q ∈ gFg (decide (kz = k)) x y, E q.2 ≤ E q.1) : E x = (if kz = k then gBo 12 (E y) (E w) else E y) := by
  by_cases e : kz = k
  · rw [if_pos e]
    rw [decide_eq_true e] at ho
    obtain ⟨o0, ho⟩ := gMa (l := [(z, (0, 1), w, 10)]) ho
    obtain ⟨o1, -⟩ := gMa ho
    have o0 : E x = gBo 9 (E y) (E z) := o0
    have o1 : E z = gBo 10 (E (0, 1)) (E w) := o1
    rw [hZ] at o1
    rw [gBo12, ← o1]
    exact o0
  · rw [if_neg e]
    rw [decide_eq_false e] at hg
    obtain ⟨g0, hg⟩ := gMa (l := [(y, x)]) hg
    obtain ⟨g1, -⟩ := gMa hg
    have g0 : E y ≤ E x := g0
    have g1 : E x ≤ E y := g1
    omega
theorem gFd_ok {kz k : Int} {x y w : sV} (h : E x = (if kz = k then gBo 12 (E y) (E w) else E y)) : ∀ o ∈ gFd (decide (kz = k)) x y w, gM A L sc E o := by
  by_cases e : kz = k
  · rw [if_pos e] at h
    rw [decide_eq_true e]
    exact gMc (show gM A L sc E (5, [x, y, w], [12]) from h) gMn
  · rw [if_neg e] at h
    rw [decide_eq_false e]
    exact gDD_ok h
def gW32 (N : sV → sV) (vs : List sV) (cs : List Nat) : Option gRw := match vs, cs with
  | [n, s, hh, b, c, p, K, W, s', h', b', c', p', q, z], [kr, wr, pr, plr, ok, ow] => if Nat.beq (N K).1 0 = true then some ([(67, [n, s, hh, b, c, p, (0, 697), (0, 0)], [kr, wr, pr, plr, ok, ow]), (68, [n, s, hh, b, c, p, q], [pr, plr]), (15, [gA n (ok : Int), K], [kr]), (15, [gA n (ow : Int), W], [wr])], ((0, 39), n) :: (n, (0, 0)) :: (p, (0, 0)) :: ((0, 4), p) :: (K, (0, 0)) :: ((0, 4), K) :: ((if decide ((N K).2 = 4) = true then [(p', gA p 1), (gA p 1, p')] else [(p', p), (p, p')]) ++ ((if Nat.beq (N q).1 0 = true then [((0, (N q).2 / 3), p)] else []) ++ (gFg (decide ((N K).2 = 1)) s' s ++ (gFg (decide ((N K).2 = 0)) h' hh ++ (gFg (decide ((N K).2 = 2)) b' b ++ gFg (decide ((N K).2 = 3)) c' c))))), gFo (decide ((N K).2 = 1)) s' s z W ++ (gFo (decide ((N K).2 = 0)) h' hh z W ++ (gFo (decide ((N K).2 = 2)) b' b z W ++ gFo (decide ((N K).2 = 3)) c' c z W)), (if Nat.beq (N q).1 0 = true then [] else [(q, 3, p)]), [], [(67, [gA n 1, s', h', b', c', p', (0, 697), (0, 0)], [kr, wr, pr, plr, ok, ow])]) else none
  | _, _ => none
theorem gW32_ok : gSw gW32 := by
  intro N vs cs u h A L sc E hA hZ hN hF hC hO hP hI
  unfold gW32 at h
  split at h
  · rename_i n s hh b c p K W s' h' b' c' p' q z kr wr pr plr ok ow
    split at h
    · rename_i hk
      cases h
      have eK : E K = (N K).2 := by
        rw [← hN K (by simp)]
        have e : N K = (0, (N K).2) := Prod.ext (Nat.eq_of_beq_eq_true hk) rfl
        rw [e, hZ]
      have eq : Nat.beq (N q).1 0 = true → E q = (N q).2 := fun hq => by
        rw [← hN q (by simp)]
        have e : N q = (0, (N q).2) := Prod.ext (Nat.eq_of_beq_eq_true hq) rfl
        rw [e, hZ]
      obtain ⟨f0, hF⟩ := gMa hF
      obtain ⟨f1, hF⟩ := gMa hF
      obtain ⟨f2, hF⟩ := gMa hF
      obtain ⟨f3, hF⟩ := gMa hF
      obtain ⟨c0, hC⟩ := gMa hC
      obtain ⟨c1, hC⟩ := gMa hC
      obtain ⟨c2, hC⟩ := gMa hC
      obtain ⟨c3, hC⟩ := gMa hC
      obtain ⟨c4, hC⟩ := gMa hC
      obtain ⟨c5, hC⟩ := gMa hC
      obtain ⟨g5, hC⟩ := gMp hC
      obtain ⟨g6, hC⟩ := gMp hC
      obtain ⟨g1, hC⟩ := gMp hC
      obtain ⟨g0, hC⟩ := gMp hC
      obtain ⟨g2, g3⟩ := gMp hC
      obtain ⟨o1, hO⟩ := gMp hO
      obtain ⟨o0, hO⟩ := gMp hO
      obtain ⟨o2, o3⟩ := gMp hO
      simp only [hZ] at c0 c1 c2 c3 c4 c5
      have w0 := gFog hZ o1 g1
      have w1 := gFog hZ o0 g0
      have w2 := gFog hZ o2 g2
      have w3 := gFog hZ o3 g3
      rw [← eK] at w0 w1 w2 w3
      have w4 : E p' = (if E K = 4 then E p + 1 else E p) := by
        rw [eK]
        by_cases e : (N K).2 = 4
        · rw [if_pos e]
          rw [if_pos (decide_eq_true e)] at g5
          obtain ⟨x0, g5⟩ := gMa g5
          obtain ⟨x1, -⟩ := gMa g5
          have x0 : E (gA p 1) ≤ E p' := x0
          have x1 : E p' ≤ E (gA p 1) := x1
          rw [hA] at x0 x1
          omega
        · rw [if_neg e]
          rw [if_neg (by rw [decide_eq_false e]; decide)] at g5
          obtain ⟨x0, g5⟩ := gMa g5
          obtain ⟨x1, -⟩ := gMa g5
          have x0 : E p ≤ E p' := x0
          have x1 : E p' ≤ E p := x1
          omega
      have hq : 3 * E p ≤ E q := by
        by_cases e : Nat.beq (N q).1 0 = true
        · rw [if_pos e] at g6
          obtain ⟨x0, -⟩ := gMa g6
          have x0 : E p ≤ E (0, (N q).2 / 3) := x0
          rw [hZ] at x0
          rw [eq e]
          omega
        · have hP : ∀ r ∈ (if Nat.beq (N q).1 0 = true then ([] : List (sV × Int × sV)) else [(q, 3, p)]), E r.1 = r.2.1 * E r.2.2 := hP
          rw [if_neg e] at hP
          obtain ⟨x0, -⟩ := gMa hP
          have x0 : E q = 3 * E p := x0
          omega
      have f0 : gA7 A [kr, wr, pr, plr, ok, ow] [E n, E s, E hh, E b, E c, E p, E (0, 697), E (0, 0)] := f0
      rw [hZ, hZ] at f0
      have f2 : 0 ≤ E (gA n (ok : Int)) ∧ (A kr (E (gA n (ok : Int))).toNat).toInt = E K := f2
      have f3 : 0 ≤ E (gA n (ow : Int)) ∧ (A wr (E (gA n (ow : Int))).toNat).toInt = E W := f3
      rw [hA] at f2 f3
      refine gMc ?_ gMn
      show gA7 A [kr, wr, pr, plr, ok, ow] [E (gA n 1), E s', E h', E b', E c', E p', E (0, 697), E (0, 0)]
      rw [hA, hZ, hZ]
      exact gA7_push f0 f1 c0 hq c2 c3 f2.2 f3.2 c4 c5 w1 w0 w2 w3 w4
    · cases h
  · cases h
def gW33 (N : sV → sV) (vs : List sV) (cs : List Nat) : Option gRw := match vs, cs with
  | [n, s, hh, b, c, p, K, W, s', h', b', c', p'], [kr, wr, pr, plr, ok, ow] => if Nat.beq (N K).1 0 = true then some ((67, [n, s, hh, b, c, p, (0, 697), (0, 0)], [kr, wr, pr, plr, ok, ow]) :: (68, [gA n (-1), s', h', b', c', p', (0, 12)], [pr, plr]) :: (15, [gA n ((ok : Int) - 1), K], [kr]) :: (if decide ((N K).2 = 4) = true then [] else [(15, [gA n ((ow : Int) - 1), W], [wr])]), [(n, (0, 1))], [], [], [], (67, [gA n (-1), s', h', b', c', p', (0, 697), (0, 0)], [kr, wr, pr, plr, ok, ow]) :: (gFd (decide ((N K).2 = 1)) s s' W ++ (gFd (decide ((N K).2 = 0)) hh h' W ++ (gFd (decide ((N K).2 = 2)) b b' W ++ (gFd (decide ((N K).2 = 3)) c c' W ++ (if decide ((N K).2 = 4) = true then gDD p (gA p' 1) else gDD p p')))))) else none
  | _, _ => none
theorem gW33_ok : gSw gW33 := by
  intro N vs cs u h A L sc E hA hZ hN hF hC hO hP hI
  unfold gW33 at h
  split at h
  · rename_i n s hh b c p K W s' h' b' c' p' kr wr pr plr ok ow
    split at h
    · rename_i hk
      cases h
      have eK : E K = (N K).2 := by
        rw [← hN K (by simp)]
        have e : N K = (0, (N K).2) := Prod.ext (Nat.eq_of_beq_eq_true hk) rfl
        rw [e, hZ]
      obtain ⟨f0, hF⟩ := gMa hF
      obtain ⟨f1, hF⟩ := gMa hF
      obtain ⟨f2, hF⟩ := gMa hF
      obtain ⟨c0, hC⟩ := gMa hC
      simp only [hZ] at c0
      have f0 : gA7 A [kr, wr, pr, plr, ok, ow] [E n, E s, E hh, E b, E c, E p, E (0, 697), E (0, 0)] := f0
      have f1 : gA8 A [pr, plr] [E (gA n (-1)), E s', E h', E b', E c', E p', E (0, 12)] := f1
      have f2 : 0 ≤ E (gA n ((ok : Int) - 1)) ∧ (A kr (E (gA n ((ok : Int) - 1))).toNat).toInt = E K := f2
      rw [hZ, hZ] at f0
      rw [hA, hZ] at f1
      rw [hA] at f2
      have f1' : gA8 A [pr, plr] [E n - 1, E s', E h', E b', E c', E p', 12] := by
        rw [show E n - 1 = E n + -1 by omega]
        exact f1
      obtain ⟨r1, i, hi, c1, c2, c3, c4, c5, c6, c7, c8, c9, c10⟩ := gA7_pop f0 f1' c0
      have kK : (A kr (ok + i)).toInt = (N K).2 := by
        rw [← eK, ← f2.2, show ok + i = (E n + ((ok : Int) - 1)).toNat by omega]
      rw [kK] at c6 c7 c8 c9 c10
      have kW : (N K).2 ≠ 4 → (A wr (ow + i)).toInt = E W := fun e => by
        rw [if_neg (by rw [decide_eq_false e]; decide)] at hF
        obtain ⟨f3, -⟩ := gMa hF
        have f3 : 0 ≤ E (gA n ((ow : Int) - 1)) ∧ (A wr (E (gA n ((ow : Int) - 1))).toNat).toInt = E W := f3
        rw [hA] at f3
        rw [← f3.2, show ow + i = (E n + ((ow : Int) - 1)).toNat by omega]
      have hf : ∀ {x y : Int} {k : Int}, k ≠ 4 → x = (if (N K).2 = k then gBo 12 y (A wr (ow + i)).toInt else y) → x = (if (N K).2 = k then gBo 12 y (E W) else y) := fun {x y k} h4 hx => by
        by_cases e : (N K).2 = k
        · rw [if_pos e] at hx ⊢
          rw [hx, kW (by omega)]
        · rw [if_neg e] at hx ⊢
          exact hx
      refine gMc ?_ (gMq (gFd_ok (hf (by decide) c7)) (gMq (gFd_ok (hf (by decide) c6)) (gMq (gFd_ok (hf (by decide) c8)) (gMq (gFd_ok (hf (by decide) c9)) ?_))))
      · show gA7 A [kr, wr, pr, plr, ok, ow] [E (gA n (-1)), E s', E h', E b', E c', E p', E (0, 697), E (0, 0)]
        rw [hA, hZ, hZ, show E n + -1 = E n - 1 by omega]
        exact r1
      · have c10 : E p = (if (N K).2 = 4 then E p' + 1 else E p') := c10
        by_cases e : (N K).2 = 4
        · rw [if_pos e] at c10
          rw [if_pos (decide_eq_true e)]
          exact gDD_ok (by rw [hA]; exact c10)
        · rw [if_neg e] at c10
          rw [if_neg (by rw [decide_eq_false e]; decide)]
          exact gDD_ok c10
    · cases h
  · cases h
def gW35 (N : sV → sV) (vs : List sV) (cs : List Nat) : Option gRw := match vs, cs with
  | [b, b2, w, x, x2, z], [] => some ([], [(x, b), (b, x)], [(b, b2, w, 12), (x2, x, z, 9), (z, (0, 1), w, 10)], [], [b2], gDD x2 b2)
  | _, _ => none
theorem gW35_ok : gSw gW35 := by
  intro N vs cs u h A L sc E hA hZ hN hF hC hO hP hI
  unfold gW35 at h
  split at h
  · rename_i b b2 w x x2 z
    cases h
    obtain ⟨c0, hC⟩ := gMa hC
    obtain ⟨c1, hC⟩ := gMa hC
    obtain ⟨o0, hO⟩ := gMa hO
    obtain ⟨o1, hO⟩ := gMa hO
    obtain ⟨o2, hO⟩ := gMa hO
    try simp only [hA, hZ] at c0 c1 o0 o1 o2
    obtain ⟨i0, -⟩ := gMa hI
    have e : E x = E b := by omega
    refine gDD_ok ?_
    rw [o1, e, o0, gBo12, ← o2]
    exact gXor_self i0
  · cases h
def gW36 (N : sV → sV) (vs : List sV) (cs : List Nat) : Option gRw := match vs, cs with
  | [n, s, hh, b, c, p, k, po, po2, q], [kr, wr, pr, plr, ok, ow, plr2] => some ([(67, [n, s, hh, b, c, p, k, po], [kr, wr, pr, plr, ok, ow]), (65, [q, po2, po], [plr2, plr])], [(q, (0, 12))], [], [], [], [(67, [n, s, hh, b, c, p, k, po2], [kr, wr, pr, plr2, ok, ow])])
  | _, _ => none
theorem gW36_ok : gSw gW36 := by
  intro N vs cs u h A L sc E hA hZ hN hF hC hO hP hI
  unfold gW36 at h
  split at h
  · rename_i n s hh b c p k po po2 q kr wr pr plr ok ow plr2
    cases h
    obtain ⟨f0, hF⟩ := gMa hF
    obtain ⟨f1, hF⟩ := gMa hF
    obtain ⟨c0, hC⟩ := gMa hC
    try simp only [hA, hZ] at c0
    have f0 : gA7 A [kr, wr, pr, plr, ok, ow] [E n, E s, E hh, E b, E c, E p, E k, E po] := f0
    have f1 : gA5 A [plr2, plr] [E q, E po2, E po] := f1
    refine gMc ?_ gMn
    show gA7 A [kr, wr, pr, plr2, ok, ow] [E n, E s, E hh, E b, E c, E p, E k, E po2]
    have f0' := f0
    obtain ⟨a1, a2, a3, -⟩ := f0'
    refine gA7_map 0 f0 a1 a2 f1.1 (by omega) (fun i hi => rfl) (fun i hi => rfl) (fun i t hi ht => rfl) (fun i j hi hj => ?_)
    show gPl (A pr) (A plr2) (E n) (E k) (E po2) i j = gPl (A pr) (A plr) (E n) (E k) (E po) i j
    by_cases e : (i : Int) < E n
    · unfold gPl
      rw [if_pos e, if_pos e]
    · rw [gPl_ge e, gPl_ge e]
      exact f1.2.2 j (by omega)
  · cases h
def gW37 (N : sV → sV) (vs : List sV) (cs : List Nat) : Option gRw := match vs, cs with
  | [n, s, hh, b, c, p, k, po], [kr, wr, pr, plr, ok, ow, pr2] => some ([(67, [n, s, hh, b, c, p, k, po], [kr, wr, pr, plr, ok, ow]), (65, [(0, 680), (0, 0), (0, 0)], [pr2, pr])], [((0, 40), n), (k, (0, 697)), ((0, 697), k)], [], [], [], [(67, [n, s, hh, b, c, p, k, po], [kr, wr, pr2, plr, ok, ow])])
  | _, _ => none
theorem gW37_ok : gSw gW37 := by
  intro N vs cs u h A L sc E hA hZ hN hF hC hO hP hI
  unfold gW37 at h
  split at h
  · rename_i n s hh b c p k po kr wr pr plr ok ow pr2
    cases h
    obtain ⟨f0, hF⟩ := gMa hF
    obtain ⟨f1, hF⟩ := gMa hF
    obtain ⟨c0, hC⟩ := gMa hC
    obtain ⟨c1, hC⟩ := gMa hC
    obtain ⟨c2, hC⟩ := gMa hC
    try simp only [hA, hZ] at c0 c1 c2
    have f0 : gA7 A [kr, wr, pr, plr, ok, ow] [E n, E s, E hh, E b, E c, E p, E k, E po] := f0
    have f1 : gA5 A [pr2, pr] [E (0, 680), E (0, 0), E (0, 0)] := f1
    rw [hZ, hZ] at f1
    have ek : E k = 697 := by omega
    have g1 : ∀ j : Nat, j < 680 → A pr2 j = A pr j := fun j hj => by
      have := f1.2.2 j (by omega)
      rw [z0] at this
      exact this
    refine gMc ?_ gMn
    show gA7 A [kr, wr, pr2, plr, ok, ow] [E n, E s, E hh, E b, E c, E p, E k, E po]
    have f0' := f0
    obtain ⟨a1, a2, a3, -⟩ := f0'
    rw [ek] at f0 ⊢
    refine gA7_map 0 f0 a1 a2 a3 (by omega) (fun i hi => rfl) (fun i hi => rfl) (fun i t hi ht => ?_) (fun i j hi hj => ?_)
    · show gFl (A pr2) (E n) 697 _ i t = gFl (A pr) (E n) 697 _ i t
      by_cases e : (i : Int) < E n
      · rw [gFl_lt e (by omega), gFl_lt e (by omega), g1 _ (by omega)]
      · rw [gFl_ge e, gFl_ge e]
    · show gPl (A pr2) (A plr) (E n) 697 (E po) i j = gPl (A pr) (A plr) (E n) 697 (E po) i j
      by_cases e : (i : Int) < E n
      · rw [gPl_lt e (by omega), gPl_lt e (by omega), g1 _ (by omega)]
      · rw [gPl_ge e, gPl_ge e]
  · cases h
def gW38 (N : sV → sV) (vs : List sV) (cs : List Nat) : Option gRw := match vs, cs with
  | [n, s, hh, b, c, p, k, po], [kr, wr, pr, plr, ok, ow] => some ([(67, [n, s, hh, b, c, p, k, po], [kr, wr, pr, plr, ok, ow])], [((0, 40), n), (k, (0, 17 * ((N n).2 + 1))), ((0, (N n).2), n)], [], [], [], [(67, [n, s, hh, b, c, p, (0, 697), po], [kr, wr, pr, plr, ok, ow])])
  | _, _ => none
theorem gW38_ok : gSw gW38 := by
  intro N vs cs u h A L sc E hA hZ hN hF hC hO hP hI
  unfold gW38 at h
  split at h
  · rename_i n s hh b c p k po kr wr pr plr ok ow
    cases h
    obtain ⟨f0, hF⟩ := gMa hF
    obtain ⟨c0, hC⟩ := gMa hC
    obtain ⟨c1, hC⟩ := gMa hC
    obtain ⟨c2, hC⟩ := gMa hC
    try simp only [hA, hZ] at c0 c1 c2
    have f0 : gA7 A [kr, wr, pr, plr, ok, ow] [E n, E s, E hh, E b, E c, E p, E k, E po] := f0
    refine gMc ?_ gMn
    show gA7 A [kr, wr, pr, plr, ok, ow] [E n, E s, E hh, E b, E c, E p, E (0, 697), E po]
    rw [hZ]
    have f0' := f0
    obtain ⟨a1, a2, a3, -⟩ := f0'
    refine gA7_map 0 f0 a1 a2 a3 (by omega) (fun i hi => rfl) (fun i hi => rfl) (fun i t hi ht => ?_) (fun i j hi hj => ?_)
    · show gFl (A pr) (E n) 697 _ i t = gFl (A pr) (E n) (E k) _ i t
      by_cases e : (i : Int) < E n
      · rw [gFl_lt e (by omega), gFl_lt e (by omega)]
      · rw [gFl_ge e, gFl_ge e]
    · show gPl (A pr) (A plr) (E n) 697 (E po) i j = gPl (A pr) (A plr) (E n) (E k) (E po) i j
      by_cases e : (i : Int) < E n
      · rw [gPl_lt e (by omega), gPl_lt e (by omega)]
      · rw [gPl_ge e, gPl_ge e]
  · cases h
def gW40 (N : sV → sV) (vs : List sV) (cs : List Nat) : Option gRw := match vs, cs with
  | [x1, x2, x3, x4, x5, x6, x7, x8, y1, y2, y3, y4, y5, y6, y7, y8], [kr, wr, pr, plr, ok, ow] => some ([(67, [y1, y2, y3, y4, y5, y6, y7, y8], [kr, wr, pr, plr, ok, ow])], [(x1, y1), (y1, x1), (x2, y2), (y2, x2), (x3, y3), (y3, x3), (x4, y4), (y4, x4), (x5, y5), (y5, x5), (x6, y6), (y6, x6), (x7, y7), (y7, x7), (x8, y8), (y8, x8)], [], [], [], [(67, [x1, x2, x3, x4, x5, x6, x7, x8], [kr, wr, pr, plr, ok, ow])])
  | _, _ => none
theorem gW40_ok : gSw gW40 := by
  intro N vs cs u h A L sc E hA hZ hN hF hC hO hP hI
  unfold gW40 at h
  split at h
  · rename_i x1 x2 x3 x4 x5 x6 x7 x8 y1 y2 y3 y4 y5 y6 y7 y8 kr wr pr plr ok ow
    cases h
    obtain ⟨f0, hF⟩ := gMa hF
    obtain ⟨c0, hC⟩ := gMa hC
    obtain ⟨c1, hC⟩ := gMa hC
    obtain ⟨c2, hC⟩ := gMa hC
    obtain ⟨c3, hC⟩ := gMa hC
    obtain ⟨c4, hC⟩ := gMa hC
    obtain ⟨c5, hC⟩ := gMa hC
    obtain ⟨c6, hC⟩ := gMa hC
    obtain ⟨c7, hC⟩ := gMa hC
    obtain ⟨c8, hC⟩ := gMa hC
    obtain ⟨c9, hC⟩ := gMa hC
    obtain ⟨c10, hC⟩ := gMa hC
    obtain ⟨c11, hC⟩ := gMa hC
    obtain ⟨c12, hC⟩ := gMa hC
    obtain ⟨c13, hC⟩ := gMa hC
    obtain ⟨c14, hC⟩ := gMa hC
    obtain ⟨c15, hC⟩ := gMa hC
    try simp only [hA, hZ] at c0 c1 c2 c3 c4 c5 c6 c7 c8 c9 c10 c11 c12 c13 c14 c15
    refine gMc ?_ gMn
    show gA7 A [kr, wr, pr, plr, ok, ow] [E x1, E x2, E x3, E x4, E x5, E x6, E x7, E x8]
    rw [show E x1 = E y1 by omega, show E x2 = E y2 by omega, show E x3 = E y3 by omega, show E x4 = E y4 by omega, show E x5 = E y5 by omega, show E x6 = E y6 by omega, show E x7 = E y7 by omega, show E x8 = E y8 by omega]
    exact f0
  · cases h
def gW41 (N : sV → sV) (vs : List sV) (cs : List Nat) : Option gRw := match vs, cs with
  | [a, w, v, m, u, y, v2, x], [r] => some ([(66, [v, m, x], [r, 0]), (15, [a, w], [r])], [(v, v2), (v2, v), (a, (0, 0)), (m, gA a 1)], [(u, v2, a, 11), (y, u, (0, 1), 7)], [], [], gDD w y)
  | _, _ => none
theorem gW41_ok : gSw gW41 := by
  intro N vs cs u h A L sc E hA hZ hN hF hC hO hP hI
  unfold gW41 at h
  split at h
  · rename_i a w v m u y v2 x r
    cases h
    obtain ⟨f0, hF⟩ := gMa hF
    obtain ⟨f1, hF⟩ := gMa hF
    obtain ⟨c0, hC⟩ := gMa hC
    obtain ⟨c1, hC⟩ := gMa hC
    obtain ⟨c2, hC⟩ := gMa hC
    obtain ⟨c3, hC⟩ := gMa hC
    obtain ⟨o0, hO⟩ := gMa hO
    obtain ⟨o1, hO⟩ := gMa hO
    try simp only [hA, hZ] at c0 c1 c2 c3 o0 o1
    have f0 : gA6 A [r, 0] [E v, E m, E x] := f0
    have f1 : 0 ≤ E a ∧ (A r (E a).toNat).toInt = E w := f1
    have e : E v2 = E v := by omega
    obtain ⟨j, hj⟩ : ∃ j : Nat, E a = (j : Int) := ⟨(E a).toNat, by omega⟩
    have g := f0 j (by omega)
    rw [if_neg (by rintro ⟨q, -⟩; cases q)] at g
    refine gDD_ok ?_
    rw [← f1.2, hj, Int.toNat_natCast, g, o1, o0, e, hj]
    rfl
  · cases h
def gW42 (N : sV → sV) (vs : List sV) (cs : List Nat) : Option gRw := match vs, cs with
  | [x, v, x2, w, m], [r1, r2] => some ([(65, [m, (0, 0), (0, 0)], [r1, r2]), (15, [x, v], [r1]), (15, [x2, w], [r2])], [(x, x2), (x2, x), (m, gA x 1)], [], [], [], gDD v w)
  | _, _ => none
theorem gW42_ok : gSw gW42 := by
  intro N vs cs u h A L sc E hA hZ hN hF hC hO hP hI
  unfold gW42 at h
  split at h
  · rename_i x v x2 w m r1 r2
    cases h
    obtain ⟨f0, hF⟩ := gMa hF
    obtain ⟨f1, hF⟩ := gMa hF
    obtain ⟨f2, hF⟩ := gMa hF
    obtain ⟨c0, hC⟩ := gMa hC
    obtain ⟨c1, hC⟩ := gMa hC
    obtain ⟨c2, hC⟩ := gMa hC
    try simp only [hA, hZ] at c0 c1 c2
    have f0 : gA5 A [r1, r2] [E m, E (0, 0), E (0, 0)] := f0
    rw [hZ] at f0
    have f1 : 0 ≤ E x ∧ (A r1 (E x).toNat).toInt = E v := f1
    have f2 : 0 ≤ E x2 ∧ (A r2 (E x2).toNat).toInt = E w := f2
    have g := f0.2.2 (E x).toNat (by omega)
    rw [z0] at g
    refine gDD_ok ?_
    rw [← f1.2, ← f2.2, g, show E x2 = E x by omega]
  · cases h
def gW43 (N : sV → sV) (vs : List sV) (cs : List Nat) : Option gRw := match vs, cs with
  | [u1, a1, b1, u2, a2, b2], [q] => some ([], [(a1, a2), (a2, a1), (b1, b2), (b2, b1)], [(u1, a1, b1, q), (u2, a2, b2, q)], [], [], gDD u1 u2)
  | _, _ => none
theorem gW43_ok : gSw gW43 := by
  intro N vs cs u h A L sc E hA hZ hN hF hC hO hP hI
  unfold gW43 at h
  split at h
  · rename_i u1 a1 b1 u2 a2 b2 q
    cases h
    obtain ⟨c0, hC⟩ := gMa hC
    obtain ⟨c1, hC⟩ := gMa hC
    obtain ⟨c2, hC⟩ := gMa hC
    obtain ⟨c3, hC⟩ := gMa hC
    obtain ⟨o0, hO⟩ := gMa hO
    obtain ⟨o1, hO⟩ := gMa hO
    try simp only [hA, hZ] at c0 c1 c2 c3 o0 o1
    refine gDD_ok ?_
    have o0 : E u1 = gBo q (E a1) (E b1) := o0
    have o1 : E u2 = gBo q (E a2) (E b2) := o1
    rw [o0, o1, show E a1 = E a2 by omega, show E b1 = E b2 by omega]
  · cases h
def gW44 (N : sV → sV) (vs : List sV) (cs : List Nat) : Option gRw := match vs, cs with
  | [n, s, hh, b, c, p, q, y], [pr, plr] => some ([(65, [q, gA y 5, (0, 0)], [pr, plr]), (15, [gA y 0, s], [pr]), (15, [gA y 1, hh], [pr]), (15, [gA y 2, b], [pr]), (15, [gA y 3, c], [pr]), (15, [gA y 4, p], [pr])], [(n, (0, 0))], [], [(y, 17, n)], [], [(68, [n, s, hh, b, c, p, q], [pr, plr])])
  | _, _ => none
theorem gW44_ok : gSw gW44 := by
  intro N vs cs u h A L sc E hA hZ hN hF hC hO hP hI
  unfold gW44 at h
  split at h
  · rename_i n s hh b c p q y pr plr
    cases h
    obtain ⟨f0, hF⟩ := gMa hF
    obtain ⟨f1, hF⟩ := gMa hF
    obtain ⟨f2, hF⟩ := gMa hF
    obtain ⟨f3, hF⟩ := gMa hF
    obtain ⟨f4, hF⟩ := gMa hF
    obtain ⟨f5, hF⟩ := gMa hF
    obtain ⟨c0, hC⟩ := gMa hC
    obtain ⟨p0, hP⟩ := gMa hP
    try simp only [hA, hZ] at c0 p0
    have f0 : gA5 A [pr, plr] [E q, E (gA y 5), E (0, 0)] := f0
    rw [hA, hZ] at f0
    have f1 : 0 ≤ E (gA y 0) ∧ (A pr (E (gA y 0)).toNat).toInt = E s := f1
    rw [hA] at f1
    have f2 : 0 ≤ E (gA y 1) ∧ (A pr (E (gA y 1)).toNat).toInt = E hh := f2
    rw [hA] at f2
    have f3 : 0 ≤ E (gA y 2) ∧ (A pr (E (gA y 2)).toNat).toInt = E b := f3
    rw [hA] at f3
    have f4 : 0 ≤ E (gA y 3) ∧ (A pr (E (gA y 3)).toNat).toInt = E c := f4
    rw [hA] at f4
    have f5 : 0 ≤ E (gA y 4) ∧ (A pr (E (gA y 4)).toNat).toInt = E p := f5
    rw [hA] at f5
    have p0 : E y = 17 * E n := p0
    have ey : (E y).toNat = 17 * (E n).toNat := by omega
    refine gMc ?_ gMn
    refine ⟨c0, fun t ht => ?_, fun j hj => ?_⟩
    · match t, ht with
      | 0, _ => exact (by rw [← ey, show (E y).toNat + 0 = (E y + 0).toNat by omega]; exact f1.2)
      | 1, _ => exact (by rw [← ey, show (E y).toNat + 1 = (E y + 1).toNat by omega]; exact f2.2)
      | 2, _ => exact (by rw [← ey, show (E y).toNat + 2 = (E y + 2).toNat by omega]; exact f3.2)
      | 3, _ => exact (by rw [← ey, show (E y).toNat + 3 = (E y + 3).toNat by omega]; exact f4.2)
      | 4, _ => exact (by rw [← ey, show (E y).toNat + 4 = (E y + 4).toNat by omega]; exact f5.2)
      | t + 5, ht => omega
    · have g := f0.2.2 j hj
      rw [z0] at g
      rw [← g, show (E y + 5).toNat + j = 17 * (E n).toNat + 5 + j by omega]
  · cases h
def gW45 (N : sV → sV) (vs : List sV) (cs : List Nat) : Option gRw := match vs, cs with
  | [n, s, hh, b, c, p, q, y], [pr, plr] => some ([(65, [q, (0, 0), gA y 5], [plr, pr]), (15, [gA y 0, s], [pr]), (15, [gA y 1, hh], [pr]), (15, [gA y 2, b], [pr]), (15, [gA y 3, c], [pr]), (15, [gA y 4, p], [pr])], [(n, (0, 0))], [], [(y, 17, n)], [], [(68, [n, s, hh, b, c, p, q], [pr, plr])])
  | _, _ => none
theorem gW45_ok : gSw gW45 := by
  intro N vs cs u h A L sc E hA hZ hN hF hC hO hP hI
  unfold gW45 at h
  split at h
  · rename_i n s hh b c p q y pr plr
    cases h
    obtain ⟨f0, hF⟩ := gMa hF
    obtain ⟨f1, hF⟩ := gMa hF
    obtain ⟨f2, hF⟩ := gMa hF
    obtain ⟨f3, hF⟩ := gMa hF
    obtain ⟨f4, hF⟩ := gMa hF
    obtain ⟨f5, hF⟩ := gMa hF
    obtain ⟨c0, hC⟩ := gMa hC
    obtain ⟨p0, hP⟩ := gMa hP
    try simp only [hA, hZ] at c0 p0
    have f0 : gA5 A [plr, pr] [E q, E (0, 0), E (gA y 5)] := f0
    rw [hA, hZ] at f0
    have f1 : 0 ≤ E (gA y 0) ∧ (A pr (E (gA y 0)).toNat).toInt = E s := f1
    rw [hA] at f1
    have f2 : 0 ≤ E (gA y 1) ∧ (A pr (E (gA y 1)).toNat).toInt = E hh := f2
    rw [hA] at f2
    have f3 : 0 ≤ E (gA y 2) ∧ (A pr (E (gA y 2)).toNat).toInt = E b := f3
    rw [hA] at f3
    have f4 : 0 ≤ E (gA y 3) ∧ (A pr (E (gA y 3)).toNat).toInt = E c := f4
    rw [hA] at f4
    have f5 : 0 ≤ E (gA y 4) ∧ (A pr (E (gA y 4)).toNat).toInt = E p := f5
    rw [hA] at f5
    have p0 : E y = 17 * E n := p0
    have ey : (E y).toNat = 17 * (E n).toNat := by omega
    refine gMc ?_ gMn
    refine ⟨c0, fun t ht => ?_, fun j hj => ?_⟩
    · match t, ht with
      | 0, _ => exact (by rw [← ey, show (E y).toNat + 0 = (E y + 0).toNat by omega]; exact f1.2)
      | 1, _ => exact (by rw [← ey, show (E y).toNat + 1 = (E y + 1).toNat by omega]; exact f2.2)
      | 2, _ => exact (by rw [← ey, show (E y).toNat + 2 = (E y + 2).toNat by omega]; exact f3.2)
      | 3, _ => exact (by rw [← ey, show (E y).toNat + 3 = (E y + 3).toNat by omega]; exact f4.2)
      | 4, _ => exact (by rw [← ey, show (E y).toNat + 4 = (E y + 4).toNat by omega]; exact f5.2)
      | t + 5, ht => omega
    · have g := f0.2.2 j hj
      rw [z0] at g
      rw [g, show (E y + 5).toNat + j = 17 * (E n).toNat + 5 + j by omega]
  · cases h
def gW46 (N : sV → sV) (vs : List sV) (cs : List Nat) : Option gRw := match vs, cs with
  | [u, a, b], [q] => some ([], [((0, (N a).2), a), (a, (0, (N a).2)), ((0, (N b).2), b), (b, (0, (N b).2))], [(u, a, b, q)], [], [], gDD u (0, gBo q (N a).2 (N b).2))
  | _, _ => none
theorem gW46_ok : gSw gW46 := by
  intro N vs cs u h A L sc E hA hZ hN hF hC hO hP hI
  unfold gW46 at h
  split at h
  · rename_i u a b q
    cases h
    obtain ⟨c0, hC⟩ := gMa hC
    obtain ⟨c1, hC⟩ := gMa hC
    obtain ⟨c2, hC⟩ := gMa hC
    obtain ⟨c3, hC⟩ := gMa hC
    obtain ⟨o0, hO⟩ := gMa hO
    try simp only [hA, hZ] at c0 c1 c2 c3 o0
    refine gDD_ok ?_
    have o0 : E u = gBo q (E a) (E b) := o0
    rw [hZ, o0, show E a = (N a).2 by omega, show E b = (N b).2 by omega]
  · cases h
def gW49 (N : sV → sV) (vs : List sV) (cs : List Nat) : Option gRw := match vs, cs with
  | [a, b], [] => some ([], [(a, b), (b, gA a 1)], [], [], [], [(0, [(0, 0), (0, 1)], [])])
  | _, _ => none
theorem gW49_ok : gSw gW49 := by
  intro N vs cs u h A L sc E hA hZ hN hF hC hO hP hI
  unfold gW49 at h
  split at h
  · rename_i a b
    cases h
    obtain ⟨c0, hC⟩ := gMa hC
    obtain ⟨c1, hC⟩ := gMa hC
    try simp only [hA, hZ] at c0 c1
    exfalso
    omega
  · cases h
def gW50 (N : sV → sV) (vs : List sV) (cs : List Nat) : Option gRw := match vs, cs with
  | [c, u, v, z1, z2], [] => some ([], [(z1, z2), (z2, z1)], [(u, c, z1, 9), (v, u, z2, 9)], [], [c], gDD v c)
  | _, _ => none
theorem gW50_ok : gSw gW50 := by
  intro N vs cs u h A L sc E hA hZ hN hF hC hO hP hI
  unfold gW50 at h
  split at h
  · rename_i c u v z1 z2
    cases h
    obtain ⟨c0, hC⟩ := gMa hC
    obtain ⟨c1, hC⟩ := gMa hC
    obtain ⟨o0, hO⟩ := gMa hO
    obtain ⟨o1, hO⟩ := gMa hO
    try simp only [hA, hZ] at c0 c1 o0 o1
    obtain ⟨i0, -⟩ := gMa hI
    refine gDD_ok ?_
    rw [o1, o0, show E z2 = E z1 by omega]
    exact gXor_self i0
  · cases h
def gW51 (N : sV → sV) (vs : List sV) (cs : List Nat) : Option gRw := match vs, cs with
  | [n, s, hh, b, c, p, k, po, K], [kr, wr, pr, plr, ok, ow] => some ([(67, [n, s, hh, b, c, p, k, po], [kr, wr, pr, plr, ok, ow]), (15, [gA n ((ok : Int) - 1), K], [kr])], [(n, (0, 1))], [], [], [], [(0, [K, (0, 0)], []), (0, [(0, 4), K], [])])
  | _, _ => none
theorem gW51_ok : gSw gW51 := by
  intro N vs cs u h A L sc E hA hZ hN hF hC hO hP hI
  unfold gW51 at h
  split at h
  · rename_i n s hh b c p k po K kr wr pr plr ok ow
    cases h
    obtain ⟨f0, hF⟩ := gMa hF
    obtain ⟨f1, hF⟩ := gMa hF
    obtain ⟨c0, hC⟩ := gMa hC
    try simp only [hA, hZ] at c0
    have f0 : gA7 A [kr, wr, pr, plr, ok, ow] [E n, E s, E hh, E b, E c, E p, E k, E po] := f0
    have f1 : 0 ≤ E (gA n ((ok : Int) - 1)) ∧ (A kr (E (gA n ((ok : Int) - 1))).toNat).toInt = E K := f1
    rw [hA] at f1
    obtain ⟨a1, a2, a3, a4⟩ := f0
    have g := a4 (E n - 1).toNat (by omega)
    rw [show ok + (E n - 1).toNat = (E n + ((ok : Int) - 1)).toNat by omega, f1.2] at g
    exact gMc (show E (0, 0) ≤ E K by rw [hZ]; exact g.1) (gMc (show E K ≤ E (0, 4) by rw [hZ]; exact g.2.1) gMn)
  · cases h
end RW
end
