noncomputable section
/-! ===== the signs' entries; an entry of any row ===== -/
def sE1 (env : sE) (x : sV) : List sFc → Option (sV × sV)
  | [] => none
  | (18, [i, e], ps) :: t => if sN env i = x ∧ ps = [] then some (i, e) else sE1 env x t
  | _ :: t => sE1 env x t
theorem sE1_mem {env : sE} {x i e : sV} : ∀ G : List sFc, sE1 env x G = some (i, e) → (18, [i, e], []) ∈ G ∧ sN env i = x
  | [], h => by cases h
  | f :: t, h => by
    unfold sE1 at h
    split at h
    · cases h
    · rename_i i' e' ps t' q
      cases q
      split at h
      · rename_i hc
        obtain ⟨h1, rfl⟩ := hc
        cases h
        exact ⟨List.mem_cons_self, h1⟩
      · obtain ⟨h1, h2⟩ := sE1_mem _ h
        exact ⟨List.mem_cons_of_mem _ h1, h2⟩
    · rename_i q
      cases q
      obtain ⟨h1, h2⟩ := sE1_mem _ h
      exact ⟨List.mem_cons_of_mem _ h1, h2⟩
def sL1 (κ : sCx) (i : sV) (f : sFc) : Bool := match f with
  | (17, [n], _) => sNn (sDm κ.2.1 κ.2.2 5 n (i.1, i.2 + 1))
  | _ => false
def sJ1 (env : sE) (x : sV) : List sFc → Option sV
  | [] => none
  | (19, [j], ps) :: t => if sN env (j.1, j.2 + 700) = x ∧ ps = [] then some j else sJ1 env x t
  | _ :: t => sJ1 env x t
theorem sJ1_mem {env : sE} {x j : sV} : ∀ G : List sFc, sJ1 env x G = some j → (19, [j], []) ∈ G ∧ sN env (j.1, j.2 + 700) = x
  | [], h => by cases h
  | f :: t, h => by
    unfold sJ1 at h
    split at h
    · cases h
    · rename_i j' ps t' q
      cases q
      split at h
      · rename_i hc
        obtain ⟨h1, rfl⟩ := hc
        cases h
        exact ⟨List.mem_cons_self, h1⟩
      · obtain ⟨h1, h2⟩ := sJ1_mem _ h
        exact ⟨List.mem_cons_of_mem _ h1, h2⟩
    · rename_i q
      cases q
      obtain ⟨h1, h2⟩ := sJ1_mem _ h
      exact ⟨List.mem_cons_of_mem _ h1, h2⟩
def sFk1 (κ : sCx) (y e : sV) (a b c d : Int) : Option (List sCx) := sCut κ y a b fun κ1 => sCut κ1 e c d fun κ2 => some [κ2]
theorem sFk1_ok {ρ : List Int} {κ : sCx} (hs : sCok ρ κ) {y e : sV} {m n a b c d : Int} (hy : sEv ρ y = some m) (he : sEv ρ e = some n) (h1 : a ≤ m) (h2 : m ≤ b) (h3 : c ≤ n) (h4 : n ≤ d) {l : List sCx} (h : sFk1 κ y e a b c d = some l) : ∃ κ2 ∈ l, sCok ρ κ2 := by
  obtain ⟨κ1, g1, q1⟩ := sCut_ok hs hy h1 h2 h
  obtain ⟨κ2, g2, q2⟩ := sCut_ok g1 he h3 h4 q1
  cases q2
  exact ⟨κ2, List.mem_cons_self, g2⟩
def sSgE (κ : sCx) (G : List sFc) (i e : sV) : Option (List sLr) := match sAny κ with
  | (κ1, y) => match sTag1 (sFk1 κ1 y e (-8) 2147483647 (-2147483648) 63) ((18, [(i.1, i.2 + 1), (e.1, e.2 + 1)], []) :: G) y with
    | none => none
    | some l => match sApp3 (sTag1 (sFk1 κ1 y e (-28) (-28) 1 2147483647) ((18, [(i.1, i.2 + 1), e], []) :: G) y) (sTag1 (sFk1 κ1 y e (-2147483648) (-29) 2 2147483647) ((18, [(i.1, i.2 + 1), (e.1, e.2 + -1)], []) :: G) y) (sTag1 (sFk1 κ1 y e (-27) (-20) 2 2147483647) ((18, [(i.1, i.2 + 1), (e.1, e.2 + -1)], []) :: G) y) with
      | none => none
      | some l' => some (l ++ l')
theorem sTag1_some {r : Option (List sCx)} {G : List sFc} {y : sV} {l : List sLr} (h : sTag1 r G y = some l) : ∃ l', r = some l' := by
  cases r with
  | none => cases h
  | some l' => exact ⟨l', rfl⟩
theorem sSgE_ok {A : Nat → Nat → Int32} {L : Nat} {sc : Nat → Int32} {ρ : List Int} {κ : sCx} {G : List sFc} {x i e : sV} {j : Nat} (hs : sCok ρ κ) (hG : ∀ f ∈ G, sWf A L sc ρ f) (hx : sEv ρ x = some (j : Int)) (hi : (18, [i, e], []) ∈ G) (hix : sN κ.2.1 i = x) (hL : G.any (sL1 κ i) = true) (hre : ∃ q, sRg κ.2.1 e = some q) {r : List sLr} (h : sSgE κ G i e = some r) : ∃ q ∈ r, sLok A L sc ρ (A sSg j) q := by
  obtain ⟨m, k, e1, e2, p1, p2, p3⟩ := hG _ hi
  have hm : m = (j : Int) := by
    have := sN_ev hs.1 e1
    rw [hix, hx] at this
    cases this
    rfl
  subst hm
  rw [Int.toNat_natCast] at p3
  obtain ⟨q, hq⟩ := hre
  obtain ⟨-, -, ik⟩ := sRg_ev (lo := q.1) (hi := q.2) hs.1 e2 hq
  rw [sI_iff] at ik
  obtain ⟨f, hf, h1⟩ := List.any_eq_true.mp hL
  unfold sL1 at h1
  split at h1
  · rename_i n ps
    obtain ⟨u, g1, g2, g3, g4⟩ := hG _ hf
    obtain ⟨z, hz, hz0⟩ := sNn_some h1
    have hle := sDm_ok hs.1 hs.2 5 g1 (sEv_add e1 1) hz
    obtain ⟨d', hd'⟩ := sRp_lt g4 (show j + 1 ≤ u.toNat by omega)
    simp only [sRp, p3] at hd'
    rw [Nat.zero_add] at hd'
    unfold sSgE at h
    have hI := sI_of (A sSg j)
    rw [sI_iff] at hI
    obtain ⟨ρ', r1, r2, r3, r4⟩ := sFx_ok hs (A sSg j) (lo := -2147483648) (hi := 2147483647) (fun _ _ => hI)
    have ea : sAny κ = sFx κ (-2147483648) 2147483647 := rfl
    rw [← ea] at r2 r3 r4
    generalize sAny κ = qq at h r2 r3 r4
    obtain ⟨κ1, y⟩ := qq
    simp only at h r2 r3 r4
    have e1' := sEv_mono r1 e1
    have e2' := sEv_mono r1 e2
    have hG' : ∀ f ∈ G, sWf A L sc ρ' f := fun f hf => sWf_mono r1 (hG f hf)
    have mk : ∀ (ev : sV) (ke : Int), sEv ρ' ev = some ke → 0 ≤ ke → d' = ke.toNat → ∀ f ∈ (18, [(i.1, i.2 + 1), ev], []) :: G, sWf A L sc ρ' f := fun ev ke h1 h2 h3 f hf => by
      rcases List.mem_cons.mp hf with rfl | hf
      · refine ⟨(j : Int) + 1, ke, sEv_add e1' 1, h1, by omega, h2, ?_⟩
        rw [show ((j : Int) + 1).toNat = j + 1 by omega]
        simp only [sRp, p3]
        rw [Nat.zero_add, hd', h3]
      · exact hG' f hf
    split at h
    · cases h
    · rename_i l t1
      split at h
      · cases h
      · rename_i l' t2
        cases h
        unfold sApp3 at t2
        split at t2
        · rename_i l2 l3 l4 t3 t4 t5
          cases t2
          unfold sRp1 at hd'
          obtain ⟨c1, hc1⟩ := sTag1_some t1
          obtain ⟨c3, hc3⟩ := sTag1_some t3
          obtain ⟨c4, hc4⟩ := sTag1_some t4
          obtain ⟨c5, hc5⟩ := sTag1_some t5
          split at hd'
          · rename_i z1
            split at hd'
            · rename_i z2
              cases hd'
              obtain ⟨κ2, g5, g6⟩ := sFk1_ok r2 r4 e2' z1 hI.2 (by omega) (by omega) hc1
              exact ⟨_, List.mem_append_left _ (sTag1_mem t1 hc1 g5), ρ', r1, g6, mk _ (k + 1) (sEv_add e2' 1) (by omega) (by omega), r3, r4⟩
            · cases hd'
          · rename_i z1
            split at hd'
            · cases hd'
            · rename_i z2
              split at hd'
              · rename_i z3
                split at hd'
                · rename_i z4
                  cases hd'
                  obtain ⟨κ2, g5, g6⟩ := sFk1_ok r2 r4 e2' (by omega) (by omega) (by omega) ik.2 hc3
                  exact ⟨_, List.mem_append_right _ (List.mem_append_left _ (sTag1_mem t3 hc3 g5)), ρ', r1, g6, mk e k e2' p2 rfl, r3, r4⟩
                · cases hd'
              · rename_i z3
                split at hd'
                · rename_i z4
                  cases hd'
                  rcases (by omega : (A sSg j).toInt ≤ -29 ∨ (-27 ≤ (A sSg j).toInt ∧ (A sSg j).toInt ≤ -20)) with z5 | z5
                  · obtain ⟨κ2, g5, g6⟩ := sFk1_ok r2 r4 e2' hI.1 z5 (by omega) ik.2 hc4
                    exact ⟨_, List.mem_append_right _ (List.mem_append_right _ (List.mem_append_left _ (sTag1_mem t4 hc4 g5))), ρ', r1, g6, mk _ (k + -1) (sEv_add e2' (-1)) (by omega) (by omega), r3, r4⟩
                  · obtain ⟨κ2, g5, g6⟩ := sFk1_ok r2 r4 e2' z5.1 z5.2 (by omega) ik.2 hc5
                    exact ⟨_, List.mem_append_right _ (List.mem_append_right _ (List.mem_append_right _ (sTag1_mem t5 hc5 g5))), ρ', r1, g6, mk _ (k + -1) (sEv_add e2' (-1)) (by omega) (by omega), r3, r4⟩
                · cases hd'
        · cases t2
  · cases h1
def sVk (x : sV) (p : Nat) (f : sFc) : Bool := decide (f = (14, [x], [p]))
def sWb (G : List sFc) (k : Nat) (x : sV) (b : Int × Int) : Int × Int := match sPw1 k with
  | some p => if sHas G (10, [], [p]) = true ∧ sHas G (14, [x], [p]) = true then (sMx2 b.1 0, sMn2 b.2 7) else b
  | none => b
def sPl2 (κ : sCx) (G : List sFc) (k i : Nat) (S : List (Int × Int)) (x : sV) : sLr := match sWb G k x (sBds κ x S) with
  | (lo, hi) => sPln κ G k i S x lo hi
/-- an entry of a row within bounds -/
def sLdB (κ : sCx) (G : List sFc) (k i : Nat) (x : sV) : Option (List sLr) := match sSpec[i]? with
  | none => none
  | some S => match sWfd k x G with
    | some y => some [(κ, G, y)]
    | none => match sPk1 k with
      | some p => sPair1 κ G k p x
      | none => if k = sSg then (match sE1 κ.2.1 x G with
          | some (i1, e1) => if G.any (sL1 κ i1) = true ∧ (sRg κ.2.1 e1).isSome = true then sSgE κ G i1 e1 else some [sPl2 κ G k i S x]
          | none => match sJ1 κ.2.1 x G with
            | some j1 => (match sAny κ with
              | (κ1, y) => some [(κ1, (20, [j1, y], []) :: G, y)])
            | none => some [sPl2 κ G k i S x]) else some [sPl2 κ G k i S x]
theorem sLdB_ok {A : Nat → Nat → Int32} {L : Nat} {sc : Nat → Int32} {ρ : List Int} {κ : sCx} {G : List sFc} {k i : Nat} {x : sV} {j n : Nat} (hs : sCok ρ κ) (hG : ∀ f ∈ G, sWf A L sc ρ f) (hx : sEv ρ x = some (j : Int)) (hjn : sPw1 k ≠ none → j < 40) {S : List (Int × Int)} (hS : sSpec[i]? = some S) (hb : ∃ lo hi, S[j % S.length]? = some (lo, hi) ∧ lo ≤ (A k j).toInt ∧ (A k j).toInt ≤ hi) {r : List sLr} (h : sLdB κ G k i x = some r) : ∃ q ∈ r, sLok A L sc ρ (A k j) q := by
  have pl : ∃ q ∈ [sPl2 κ G k i S x], sLok A L sc ρ (A k j) q := by
    refine ⟨_, List.mem_cons_self, ?_⟩
    unfold sPl2
    have hb2 := hb
    obtain ⟨lo, hi, b1, b2, b3⟩ := hb
    obtain ⟨c1, c2⟩ := sBds_ok hs hx b1
    generalize sBds κ x S = b at c1 c2
    have hw : (sWb G k x b).1 ≤ (A k j).toInt ∧ (A k j).toInt ≤ (sWb G k x b).2 := by
      unfold sWb
      split
      · rename_i p hp
        split
        · rename_i hh
          have h1 := hG _ (sHas_mem hh.1)
          obtain ⟨m, g1, g2, g3, g4⟩ := hG _ (sHas_mem hh.2)
          rw [hx] at g1
          cases g1
          rw [Int.toNat_natCast] at g3 g4
          have h5 := h1 j (hjn (by rw [hp]; intro q; cases q)) ⟨g3, g4⟩
          rw [sPw1_ok hp] at h5
          simp only [sMx2_eq, sMn2_eq]
          constructor <;> split <;> omega
        · omega
      · omega
    exact sPln_ok hs hG hx hS hb2 hw.1 hw.2
  unfold sLdB at h
  rw [hS] at h
  simp only at h
  split at h
  · rename_i y hy
    cases h
    obtain ⟨h1, h2⟩ := sWfd_mem G hy
    obtain ⟨m, n0, g1, g2, g3, g4⟩ := hG _ h1
    rw [hx] at g1
    cases g1
    rw [Int.toNat_natCast] at g4
    exact ⟨_, List.mem_cons_self, ρ, List.prefix_rfl, hs, hG, h2, by rw [g4]; exact g2⟩
  · split at h
    · rename_i p hp
      exact sPair1_ok hs hG hx (sPk1_ok hp) h
    · split at h
      · rename_i e
        subst e
        split at h
        · rename_i i1 e1 he
          split at h
          · rename_i hc
            obtain ⟨h1, h2⟩ := sE1_mem G he
            exact sSgE_ok hs hG hx h1 h2 hc.1 (Option.isSome_iff_exists.mp hc.2) h
          · cases h
            exact pl
        · split at h
          · rename_i j1 hj1
            obtain ⟨h1, h2⟩ := sJ1_mem G hj1
            obtain ⟨m, g1, g2, g3, g4⟩ := hG _ h1
            have hm : m + 700 = (j : Int) := by
              have := sN_ev hs.1 (sEv_add g1 700)
              rw [h2, hx] at this
              have := Option.some.inj this
              omega
            have hI := sI_of (A sSg j)
            rw [sI_iff] at hI
            obtain ⟨ρ', r1, r2, r3, r4⟩ := sFx_ok hs (A sSg j) (lo := -2147483648) (hi := 2147483647) (fun _ _ => hI)
            have ea : sAny κ = sFx κ (-2147483648) 2147483647 := rfl
            rw [← ea] at r2 r3 r4
            generalize sAny κ = qq at h r2 r3 r4
            obtain ⟨κ1, y⟩ := qq
            simp only at h r2 r3 r4
            cases h
            refine ⟨_, List.mem_cons_self, ρ', r1, r2, fun f hf => ?_, r3, r4⟩
            rcases List.mem_cons.mp hf with rfl | hf
            · exact ⟨m, _, sEv_mono r1 g1, r4, g2, by rw [show 700 + m.toNat = j by omega]⟩
            · exact sWf_mono r1 (hG f hf)
          · cases h
            exact pl
      · cases h
        exact pl
def sLdY (κ : sCx) (G : List sFc) (k : Nat) (x : sV) : sLr := match sWfd k x G with
  | some y => (κ, G, y)
  | none => match sFx κ (-128) 127 with
    | (κ1, y) => (κ1, sMind k x y G, y)
theorem sLdY_ok {A : Nat → Nat → Int32} {L : Nat} {sc : Nat → Int32} {ρ : List Int} {κ : sCx} {G : List sFc} {k : Nat} {x : sV} {j : Nat} (hs : sCok ρ κ) (hG : ∀ f ∈ G, sWf A L sc ρ f) (hx : sEv ρ x = some (j : Int)) (h1 : -128 ≤ (A k j).toInt) (h2 : (A k j).toInt ≤ 127) : sLok A L sc ρ (A k j) (sLdY κ G k x) := by
  unfold sLdY
  split
  · rename_i y hy
    obtain ⟨h1, h2⟩ := sWfd_mem G hy
    obtain ⟨m, n0, g1, g2, g3, g4⟩ := hG _ h1
    rw [hx] at g1
    cases g1
    rw [Int.toNat_natCast] at g4
    exact ⟨ρ, List.prefix_rfl, hs, hG, h2, by rw [g4]; exact g2⟩
  · obtain ⟨ρ', r1, r2, r3, r4⟩ := sFx_ok hs (A k j) (lo := -128) (hi := 127) (fun _ _ => ⟨h1, h2⟩)
    generalize sFx κ (-128) 127 = qq at r2 r3 r4
    obtain ⟨κ1, y⟩ := qq
    exact ⟨ρ', r1, r2, sMind_ok (fun f hf => sWf_mono r1 (hG f hf)) (sEv_mono r1 hx) r4, r3, r4⟩
end
