noncomputable section
/-! ===== what a row's entry may be: numbers alone ===== -/
theorem sEv_add {ρ : List Int} {x : sV} {m : Int} (h : sEv ρ x = some m) (c : Int) : sEv ρ (x.1, x.2 + c) = some (m + c) := by
  obtain ⟨t, z⟩ := x
  by_cases h0 : t = 0
  · subst h0
    simp only [sEv, Option.some.injEq] at h ⊢
    omega
  · by_cases h1 : t = 1
    · subst h1
      simp only [sEv, Option.some.injEq] at h ⊢
      omega
    · rw [sEv_gen ⟨h0, h1⟩] at h ⊢
      simp only
      split at h
      · rename_i h16
        rw [if_pos h16]
        obtain ⟨y, hy, rfl⟩ := Option.map_eq_some_iff.mp h
        rw [hy]
        show some (y + (z + c)) = some (y + z + c)
        congr 1
        omega
      · cases h
abbrev sLr : Type := sCx × List sFc × sV
/-- a load's answer is right -/
def sLok (A : Nat → Nat → Int32) (L : Nat) (sc : Nat → Int32) (ρ : List Int) (z : Int32) (q : sLr) : Prop := ∃ ρ' : List Int, ρ <+: ρ' ∧ sCok ρ' q.1 ∧ (∀ f ∈ q.2.1, sWf A L sc ρ' f) ∧ sK q.2.2 = 0 ∧ sEv ρ' q.2.2 = some z.toInt
/-- rows whose entries are kept in mind -/
def sTap (k : Nat) : Bool := Nat.beq (Nat.land (Nat.shiftRight 146078509044182654543585056748757066 k) 1) 1
def sWfd (k : Nat) (x : sV) : List sFc → Option sV
  | [] => none
  | (15, [x', y], [k']) :: t => if k' = k ∧ x' = x ∧ sK y = 0 then some y else sWfd k x t
  | _ :: t => sWfd k x t
theorem sWfd_mem {k : Nat} {x y : sV} : ∀ G : List sFc, sWfd k x G = some y → (15, [x, y], [k]) ∈ G ∧ sK y = 0
  | [], h => by cases h
  | f :: t, h => by
    unfold sWfd at h
    split at h
    · cases h
    · rename_i x' y' k' t' e
      cases e
      split at h
      · rename_i hc
        obtain ⟨rfl, rfl, hk⟩ := hc
        cases h
        exact ⟨List.mem_cons_self, hk⟩
      · obtain ⟨h1, h2⟩ := sWfd_mem _ h
        exact ⟨List.mem_cons_of_mem _ h1, h2⟩
    · rename_i e
      cases e
      obtain ⟨h1, h2⟩ := sWfd_mem _ h
      exact ⟨List.mem_cons_of_mem _ h1, h2⟩
def sMind (k : Nat) (x y : sV) (G : List sFc) : List sFc := if sTap k = true then (15, [x, y], [k]) :: G else G
theorem sMind_ok {A : Nat → Nat → Int32} {L : Nat} {sc : Nat → Int32} {ρ : List Int} {k : Nat} {x y : sV} {G : List sFc} {j : Nat} (hG : ∀ f ∈ G, sWf A L sc ρ f) (hx : sEv ρ x = some (j : Int)) (hy : sEv ρ y = some (A k j).toInt) : ∀ f ∈ sMind k x y G, sWf A L sc ρ f := by
  unfold sMind
  split
  · intro f hf
    rcases List.mem_cons.mp hf with rfl | hf
    · exact ⟨j, _, hx, hy, Int.natCast_nonneg _, by rw [Int.toNat_natCast]⟩
    · exact hG f hf
  · exact hG
/-- an entry within bounds; by the place's rest, if that isn't known now -/
def sPln (κ : sCx) (G : List sFc) (k i : Nat) (S : List (Int × Int)) (x : sV) (lo hi : Int) : sLr := match sFx κ lo hi with
  | q => match sPlus q (match sRs κ x S.length with
      | none => [(4, [x, q.2], [i])]
      | some _ => []) with
    | q' => (q'.1, sMind k x q'.2 G, q'.2)
theorem sPlus_2 (q : sCx × sV) (fs : List sFc) : (sPlus q fs).2 = q.2 := by
  unfold sPlus
  split <;> rfl
theorem sPln_ok {A : Nat → Nat → Int32} {L : Nat} {sc : Nat → Int32} {ρ : List Int} {κ : sCx} {G : List sFc} {k i : Nat} {S : List (Int × Int)} {x : sV} {j : Nat} {lo hi : Int} (hs : sCok ρ κ) (hG : ∀ f ∈ G, sWf A L sc ρ f) (hx : sEv ρ x = some (j : Int)) (hS : sSpec[i]? = some S) (hb : ∃ lo hi, S[j % S.length]? = some (lo, hi) ∧ lo ≤ (A k j).toInt ∧ (A k j).toInt ≤ hi) (h1 : lo ≤ (A k j).toInt) (h2 : (A k j).toInt ≤ hi) : sLok A L sc ρ (A k j) (sPln κ G k i S x lo hi) := by
  unfold sPln
  obtain ⟨ρ', r1, r2, r3, r4⟩ := sFx_ok hs (A k j) (lo := lo) (hi := hi) (fun _ _ => ⟨h1, h2⟩)
  simp only [sPlus_2]
  refine ⟨ρ', r1, ?_, sMind_ok (fun f hf => sWf_mono r1 (hG f hf)) (sEv_mono r1 hx) r4, r3, r4⟩
  unfold sPlus
  split
  · refine ⟨r2.1, fun f hf => ?_⟩
    rcases List.mem_append.mp hf with hf | hf
    · split at hf
      · rw [List.mem_singleton] at hf
        subst hf
        obtain ⟨lo', hi', b1, b2, b3⟩ := hb
        exact ⟨j, _, S, lo', hi', sEv_mono r1 hx, r4, hS, by rw [← Int.natCast_emod, Int.toNat_natCast]; exact b1, b2, b3⟩
      · cases hf
    · exact r2.2 f hf
  · exact r2
/-- one of the acts' two rows: which pair, which of the two -/
def sPk1 (k : Nat) : Option Nat := if k = 43 then some 0 else if k = 59 then some 1 else none
def sPw1 (k : Nat) : Option Nat := if k = 44 then some 0 else if k = 60 then some 1 else none
theorem sPk1_ok {k p : Nat} (h : sPk1 k = some p) : sKc p = k := by
  unfold sPk1 at h
  split at h
  · rename_i e; cases h; exact e.symm
  · split at h
    · rename_i e; cases h; exact e.symm
    · cases h
theorem sPw1_ok {k p : Nat} (h : sPw1 k = some p) : sWc p = k := by
  unfold sPw1 at h
  split at h
  · rename_i e; cases h; exact e.symm
  · split at h
    · rename_i e; cases h; exact e.symm
    · cases h
def sHas (G : List sFc) (f : sFc) : Bool := G.contains f
theorem sHas_mem {G : List sFc} {f : sFc} (h : sHas G f = true) : f ∈ G := by simpa [sHas] using h
def sApp3 (a b c : Option (List sLr)) : Option (List sLr) := match a, b, c with
  | some x, some y, some z => some (x ++ (y ++ z))
  | _, _, _ => none
def sTag1 (r : Option (List sCx)) (G : List sFc) (y : sV) : Option (List sLr) := match r with
  | some l => some (l.map fun κ => (κ, G, y))
  | none => none
theorem sTag1_mem {r : Option (List sCx)} {G : List sFc} {y : sV} {l : List sLr} (h : sTag1 r G y = some l) {l' : List sCx} (hr : r = some l') {κ : sCx} (hκ : κ ∈ l') : (κ, G, y) ∈ l := by
  subst hr
  simp only [sTag1, Option.some.injEq] at h
  subst h
  exact List.mem_map.mpr ⟨κ, hκ, rfl⟩
/-- the kind of an act: 0 or 1, below, above -/
def sPair1 (κ : sCx) (G : List sFc) (k p : Nat) (x : sV) : Option (List sLr) := match sAny κ with
  | (κ1, y) => sApp3 (sTag1 (sCut κ1 y 0 1 fun κ2 => some [κ2]) ((14, [x], [p]) :: sMind k x y G) y) (sTag1 (sCut κ1 y (-2147483648) (-1) fun κ2 => some [κ2]) (sMind k x y G) y) (sTag1 (sCut κ1 y 2 2147483647 fun κ2 => some [κ2]) (sMind k x y G) y)
theorem sPair1_ok {A : Nat → Nat → Int32} {L : Nat} {sc : Nat → Int32} {ρ : List Int} {κ : sCx} {G : List sFc} {k p : Nat} {x : sV} {j : Nat} (hs : sCok ρ κ) (hG : ∀ f ∈ G, sWf A L sc ρ f) (hx : sEv ρ x = some (j : Int)) (hp : sKc p = k) {r : List sLr} (h : sPair1 κ G k p x = some r) : ∃ q ∈ r, sLok A L sc ρ (A k j) q := by
  unfold sPair1 at h
  have hI := sI_of (A k j)
  rw [sI_iff] at hI
  obtain ⟨ρ', r1, r2, r3, r4⟩ := sFx_ok hs (A k j) (lo := -2147483648) (hi := 2147483647) (fun _ _ => hI)
  have e : sAny κ = sFx κ (-2147483648) 2147483647 := rfl
  rw [← e] at r2 r3 r4
  generalize sAny κ = q at h r2 r3 r4
  obtain ⟨κ1, y⟩ := q
  simp only at h r2 r3 r4
  have hM : ∀ f ∈ sMind k x y G, sWf A L sc ρ' f := sMind_ok (fun f hf => sWf_mono r1 (hG f hf)) (sEv_mono r1 hx) r4
  unfold sApp3 at h
  split at h
  · rename_i l1 l2 l3 e1 e2 e3
    cases h
    rcases (by omega : (0 ≤ (A k j).toInt ∧ (A k j).toInt ≤ 1) ∨ (A k j).toInt ≤ -1 ∨ 2 ≤ (A k j).toInt) with hz | hz | hz
    · cases hc : sCut κ1 y 0 1 fun κ2 => some [κ2] with
      | none => rw [hc] at e1; cases e1
      | some l =>
        obtain ⟨κ2, g1, g2⟩ := sCut_ok r2 r4 hz.1 hz.2 hc
        cases g2
        refine ⟨_, List.mem_append_left _ (sTag1_mem e1 hc List.mem_cons_self), ρ', r1, g1, fun f hf => ?_, r3, r4⟩
        rcases List.mem_cons.mp hf with rfl | hf
        · exact ⟨j, sEv_mono r1 hx, Int.natCast_nonneg _, by rw [hp, Int.toNat_natCast]; exact hz.1, by rw [hp, Int.toNat_natCast]; exact hz.2⟩
        · exact hM f hf
    · cases hc : sCut κ1 y (-2147483648) (-1) fun κ2 => some [κ2] with
      | none => rw [hc] at e2; cases e2
      | some l =>
        obtain ⟨κ2, g1, g2⟩ := sCut_ok r2 r4 hI.1 hz hc
        cases g2
        exact ⟨_, List.mem_append_right _ (List.mem_append_left _ (sTag1_mem e2 hc List.mem_cons_self)), ρ', r1, g1, hM, r3, r4⟩
    · cases hc : sCut κ1 y 2 2147483647 fun κ2 => some [κ2] with
      | none => rw [hc] at e3; cases e3
      | some l =>
        obtain ⟨κ2, g1, g2⟩ := sCut_ok r2 r4 hz hI.2 hc
        cases g2
        exact ⟨_, List.mem_append_right _ (List.mem_append_right _ (sTag1_mem e3 hc List.mem_cons_self)), ρ', r1, g1, hM, r3, r4⟩
  · cases h
end
