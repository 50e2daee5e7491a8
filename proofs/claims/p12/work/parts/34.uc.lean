noncomputable section
/-! ===== covers: facts, states ===== -/
def sPk2 (ρ ρ' : List Int) (a b : sV) : Prop := ∀ m, sEv ρ a = some m → sEv ρ' b = some m
theorem sA2_r0 {α β : Type} {R : α → β → Prop} {as : List α} (h : sA2 R as []) : as = [] := by
  cases as with
  | nil => rfl
  | cons _ _ => exact h.elim
theorem sA2_rc {α β : Type} {R : α → β → Prop} {as : List α} {b : β} {bs : List β} (h : sA2 R as (b :: bs)) : ∃ a as', as = a :: as' ∧ R a b ∧ sA2 R as' bs := by
  cases as with
  | nil => exact h.elim
  | cons a as' => exact ⟨a, as', rfl, h.1, h.2⟩
theorem sPf_rn {ρ ρ' : List Int} {t : Nat} {as bs : List sV} {ps : List Nat} (ha : sA2 (sPk2 ρ ρ') as bs) (h : sPf ρ (t, as, ps)) : sPf ρ' (t, bs, ps) := by
  unfold sPf
  split
  · rename_i a b ps' e
    cases e
    obtain ⟨x, _, rfl, p1, ha⟩ := sA2_rc ha
    obtain ⟨y, _, rfl, p2, ha⟩ := sA2_rc ha
    cases sA2_r0 ha
    obtain ⟨m, n, h1, h2, h3⟩ := h
    exact ⟨m, n, p1 m h1, p2 n h2, h3⟩
  · rename_i a b z ps' e
    cases e
    obtain ⟨x, _, rfl, p1, ha⟩ := sA2_rc ha
    obtain ⟨y, _, rfl, p2, ha⟩ := sA2_rc ha
    obtain ⟨w, _, rfl, p3, ha⟩ := sA2_rc ha
    cases sA2_r0 ha
    obtain ⟨m, n, k, h1, h2, h3, h4⟩ := h
    exact ⟨m, n, k, p1 m h1, p2 n h2, p3 k h3, h4⟩
  · rename_i a b z ps' e
    cases e
    obtain ⟨x, _, rfl, p1, ha⟩ := sA2_rc ha
    obtain ⟨y, _, rfl, p2, ha⟩ := sA2_rc ha
    obtain ⟨w, _, rfl, p3, ha⟩ := sA2_rc ha
    cases sA2_r0 ha
    obtain ⟨m, n, k, h1, h2, h3, h4⟩ := h
    exact ⟨m, n, k, p1 m h1, p2 n h2, p3 k h3, h4⟩
  · rename_i a md r e
    cases e
    obtain ⟨x, _, rfl, p1, ha⟩ := sA2_rc ha
    cases sA2_r0 ha
    obtain ⟨m, q, h1, h2⟩ := h
    exact ⟨m, q, p1 m h1, h2⟩
  · rename_i a b j e
    cases e
    obtain ⟨x, _, rfl, p1, ha⟩ := sA2_rc ha
    obtain ⟨y, _, rfl, p2, ha⟩ := sA2_rc ha
    cases sA2_r0 ha
    obtain ⟨m, n, S, lo, hi, h1, h2, h3⟩ := h
    exact ⟨m, n, S, lo, hi, p1 m h1, p2 n h2, h3⟩
  · rename_i r a b op e
    cases e
    obtain ⟨x, _, rfl, p1, ha⟩ := sA2_rc ha
    obtain ⟨y, _, rfl, p2, ha⟩ := sA2_rc ha
    obtain ⟨w, _, rfl, p3, ha⟩ := sA2_rc ha
    cases sA2_r0 ha
    obtain ⟨m, n, k, h1, h2, h3, h4⟩ := h
    exact ⟨m, n, k, p1 m h1, p2 n h2, p3 k h3, h4⟩
  · rename_i a b ps' e
    cases e
    obtain ⟨x, _, rfl, p1, ha⟩ := sA2_rc ha
    obtain ⟨y, _, rfl, p2, ha⟩ := sA2_rc ha
    cases sA2_r0 ha
    obtain ⟨m, n, h1, h2, h3⟩ := h
    exact ⟨m, n, p1 m h1, p2 n h2, h3⟩
  · trivial
theorem sA2_pk {ρ ρ' : List Int} : ∀ (as bs : List sV) (zs : List Int), sA2 (sPk2 ρ ρ') as bs → sA2 (fun a z => sEv ρ a = some z) as zs → sA2 (fun a z => sEv ρ' a = some z) bs zs
  | [], [], [], _, _ => trivial
  | a :: as, b :: bs, z :: zs, ⟨h1, h2⟩, ⟨g1, g2⟩ => ⟨h1 z g1, sA2_pk as bs zs h2 g2⟩
  | [], _ :: _, _, q, _ => q.elim
  | _ :: _, [], _, q, _ => q.elim
  | [], [], _ :: _, _, q => q.elim
  | _ :: _, _ :: _, [], _, q => q.elim
theorem sWf_rn {A : Nat → Nat → Int32} {L : Nat} {sc : Nat → Int32} {ρ ρ' : List Int} {t : Nat} {as bs : List sV} {ps : List Nat} (ha : sA2 (sPk2 ρ ρ') as bs) (h : sWf A L sc ρ (t, as, ps)) : sWf A L sc ρ' (t, bs, ps) := by
  unfold sWf
  split
  · rename_i p e
    cases e
    cases sA2_r0 ha
    exact h
  · rename_i a b p e
    cases e
    obtain ⟨x, _, rfl, p1, ha⟩ := sA2_rc ha
    obtain ⟨y, _, rfl, p2, ha⟩ := sA2_rc ha
    cases sA2_r0 ha
    obtain ⟨m, n, h1, h2, h3⟩ := h
    exact ⟨m, n, p1 m h1, p2 n h2, h3⟩
  · rename_i p e
    cases e
    cases sA2_r0 ha
    exact h
  · rename_i p q e
    cases e
    cases sA2_r0 ha
    exact h
  · rename_i a p e
    cases e
    obtain ⟨x, _, rfl, p1, ha⟩ := sA2_rc ha
    cases sA2_r0 ha
    obtain ⟨m, h1, h2⟩ := h
    exact ⟨m, p1 m h1, h2⟩
  · rename_i a b k e
    cases e
    obtain ⟨x, _, rfl, p1, ha⟩ := sA2_rc ha
    obtain ⟨y, _, rfl, p2, ha⟩ := sA2_rc ha
    cases sA2_r0 ha
    obtain ⟨m, n, h1, h2, h3⟩ := h
    exact ⟨m, n, p1 m h1, p2 n h2, h3⟩
  · rename_i a b ps' e
    cases e
    obtain ⟨x, _, rfl, p1, ha⟩ := sA2_rc ha
    obtain ⟨y, _, rfl, p2, ha⟩ := sA2_rc ha
    cases sA2_r0 ha
    obtain ⟨m, n, h1, h2, h3⟩ := h
    exact ⟨m, n, p1 m h1, p2 n h2, h3⟩
  · rename_i a ps' e
    cases e
    obtain ⟨x, _, rfl, p1, ha⟩ := sA2_rc ha
    cases sA2_r0 ha
    obtain ⟨m, h1, h2⟩ := h
    exact ⟨m, p1 m h1, h2⟩
  · rename_i a b ps' e
    cases e
    obtain ⟨x, _, rfl, p1, ha⟩ := sA2_rc ha
    obtain ⟨y, _, rfl, p2, ha⟩ := sA2_rc ha
    cases sA2_r0 ha
    obtain ⟨m, n, h1, h2, h3⟩ := h
    exact ⟨m, n, p1 m h1, p2 n h2, h3⟩
  · rename_i a ps' e
    cases e
    obtain ⟨x, _, rfl, p1, ha⟩ := sA2_rc ha
    cases sA2_r0 ha
    obtain ⟨m, h1, h2⟩ := h
    exact ⟨m, p1 m h1, h2⟩
  · rename_i a b ps' e
    cases e
    obtain ⟨x, _, rfl, p1, ha⟩ := sA2_rc ha
    obtain ⟨y, _, rfl, p2, ha⟩ := sA2_rc ha
    cases sA2_r0 ha
    obtain ⟨m, n, h1, h2, h3⟩ := h
    exact ⟨m, n, p1 m h1, p2 n h2, h3⟩
  · rename_i a b ps' e
    cases e
    obtain ⟨x, _, rfl, p1, ha⟩ := sA2_rc ha
    obtain ⟨y, _, rfl, p2, ha⟩ := sA2_rc ha
    cases sA2_r0 ha
    obtain ⟨m, n, h1, h2, h3⟩ := h
    exact ⟨m, n, p1 m h1, p2 n h2, h3⟩
  · rename_i as' ps' e
    cases e
    obtain ⟨zs, h1, h2⟩ := h
    exact ⟨zs, sA2_pk _ _ _ ha h1, h2⟩
  · rename_i a r w e
    cases e
    obtain ⟨x, _, rfl, p1, ha⟩ := sA2_rc ha
    cases sA2_r0 ha
    obtain ⟨m, h1, h2⟩ := h
    exact ⟨m, p1 m h1, h2⟩
  · rename_i a r id o e
    cases e
    obtain ⟨x, _, rfl, p1, ha⟩ := sA2_rc ha
    cases sA2_r0 ha
    obtain ⟨m, h1, h2⟩ := h
    exact ⟨m, p1 m h1, h2⟩
  · rename_i a b r w e
    cases e
    obtain ⟨x, _, rfl, p1, ha⟩ := sA2_rc ha
    obtain ⟨y, _, rfl, p2, ha⟩ := sA2_rc ha
    cases sA2_r0 ha
    obtain ⟨m, n, h1, h2, h3⟩ := h
    exact ⟨m, n, p1 m h1, p2 n h2, h3⟩
  · rename_i as' ps' e
    cases e
    obtain ⟨zs, h1, h2⟩ := h
    exact ⟨zs, sA2_pk _ _ _ ha h1, h2⟩
  · rename_i as' ps' e
    cases e
    obtain ⟨zs, h1, h2⟩ := h
    exact ⟨zs, sA2_pk _ _ _ ha h1, h2⟩
  · rename_i as' ps' e
    cases e
    obtain ⟨zs, h1, h2⟩ := h
    exact ⟨zs, sA2_pk _ _ _ ha h1, h2⟩
  · rename_i as' ps' e
    cases e
    obtain ⟨zs, h1, h2⟩ := h
    exact ⟨zs, sA2_pk _ _ _ ha h1, h2⟩
  · rename_i as' ps' e
    cases e
    obtain ⟨zs, h1, h2⟩ := h
    exact ⟨zs, sA2_pk _ _ _ ha h1, h2⟩
  · rename_i m e
    cases e
    cases sA2_r0 ha
    exact h
  · trivial
def sFm (env : sE) (k0 : Nat) (sg : List sV) : List sV → Option (List sV)
  | [] => some []
  | a :: t => match sSb k0 sg a, sFm env k0 sg t with
    | some a', some r => some (sN env a' :: r)
    | _, _ => none
theorem sFm_ok {ρ : List Int} {κ : sCx} {k0 : Nat} {sg : List sV} (hs : sCok ρ κ) (h : sSgO κ k0 sg = true) : ∀ (bs as : List sV), sFm κ.2.1 k0 sg bs = some as → sA2 (sPk2 ρ (sRz ρ k0 sg)) as bs
  | [], as, hm => by
    cases hm
    trivial
  | b :: t, as, hm => by
    simp only [sFm] at hm
    split at hm
    · rename_i a' r h1 h2
      cases hm
      obtain ⟨q1, -, q3, -⟩ := sSb_ok hs h h1
      exact ⟨fun m hmm => q1 m (sN_back hs.1 q3 hmm), sFm_ok hs h t r h2⟩
    · cases hm
def sEnF (κ : sCx) (k0 : Nat) (sg : List sV) (f : sFc) : Bool := match sFm κ.2.1 k0 sg f.2.1 with
  | some as => sEn0 κ.1 κ.2.1 κ.2.2 (f.1, as, f.2.2)
  | none => false
theorem sEnF_ok {ρ : List Int} {κ : sCx} {k0 : Nat} {sg : List sV} (hs : sCok ρ κ) (h : sSgO κ k0 sg = true) {f : sFc} (hf : sEnF κ k0 sg f = true) : sPf (sRz ρ k0 sg) f := by
  unfold sEnF at hf
  split at hf
  · rename_i as ha
    exact sPf_rn (sFm_ok hs h _ _ ha) (sEn0_ok hs.1 hs.2 hf)
  · cases hf
def sVeL : List sV → List sV → Bool
  | [], [] => true
  | x :: xs, y :: ys => sVe x y && sVeL xs ys
  | _, _ => false
theorem sVeL_eq : ∀ {xs ys : List sV}, sVeL xs ys = true → xs = ys
  | [], [], _ => rfl
  | x :: xs, y :: ys, h => by
    simp only [sVeL, Bool.and_eq_true] at h
    rw [sVe_eq h.1, sVeL_eq h.2]
  | [], _ :: _, h => by cases h
  | _ :: _, [], h => by cases h
def sJ7 (env : sE) (f : sFc) : Bool := match f with
  | (19, [j], _) => sVe (sN env j) (0, 700)
  | _ => false
def sU7 (env : sE) (n : sV) (f : sFc) : Bool := match f with
  | (16, [_, n'], _) => sVe (sN env n') n
  | _ => false
/-- facts that hold of themselves, or out of others -/
def sEnZ (κ : sCx) (G : List sFc) (t : Nat) (as : List sV) : Bool := match t, as with
  | 16, [d, n] => sVe d (0, 0) && sVe n (0, 0)
  | 17, [n] => sVe n (0, 0) || (sHiLt κ.2.1 n 701 && (G.any (sJ7 κ.2.1) && G.any (sU7 κ.2.1 n)))
  | 18, [i, e] => sVe i (0, 0) && sVe e (0, 0)
  | 19, [j] => sVe j (0, 0)
  | _, _ => false
theorem sEnZ_ok {A : Nat → Nat → Int32} {L : Nat} {sc : Nat → Int32} {ρ : List Int} {κ : sCx} {G : List sFc} (hs : sCok ρ κ) (hG : ∀ f ∈ G, sWf A L sc ρ f) {t : Nat} {as : List sV} {ps : List Nat} (h : sEnZ κ G t as = true) : sWf A L sc ρ (t, as, ps) := by
  unfold sEnZ at h
  split at h
  · simp only [Bool.and_eq_true] at h
    rw [sVe_eq h.1, sVe_eq h.2]
    exact ⟨0, 0, rfl, rfl, Int.le_refl _, Int.le_refl _, rfl⟩
  · rename_i n
    rw [Bool.or_eq_true] at h
    rcases h with h | h
    · rw [sVe_eq h]
      exact ⟨0, rfl, Int.le_refl _, by decide, by simp [sRp]⟩
    · simp only [Bool.and_eq_true] at h
      obtain ⟨h1, h2, h3⟩ := h
      obtain ⟨fj, hfj, h2⟩ := List.any_eq_true.mp h2
      obtain ⟨fu, hfu, h3⟩ := List.any_eq_true.mp h3
      have wj := hG fj hfj
      have wu := hG fu hfu
      unfold sJ7 at h2
      unfold sU7 at h3
      split at h2
      · rename_i j psj
        split at h3
        · rename_i d n' psu
          obtain ⟨mj, e1, e2, e3, e4⟩ := wj
          obtain ⟨md, k, g1, g2, g3, g4, g5⟩ := wu
          have q1 := sN_ev hs.1 e1
          rw [sVe_eq h2] at q1
          have q1' : (700 : Int) = mj := Option.some.inj q1
          have q2 := sN_ev hs.1 g2
          rw [sVe_eq h3] at q2
          have hlt := sHiLt_ok hs.1 q2 h1
          refine ⟨k, q2, g4, by omega, ?_⟩
          have e5 : sRp (A sSg) 0 k.toNat = sRp (A sSg) 700 k.toNat := sRp_eq _ (fun i hi => by
            rw [Nat.zero_add]
            exact e4 i (by omega))
          rw [e5, g5]
          intro q
          cases q
        · cases h3
      · cases h2
  · simp only [Bool.and_eq_true] at h
    rw [sVe_eq h.1, sVe_eq h.2]
    exact ⟨0, 0, rfl, rfl, Int.le_refl _, Int.le_refl _, rfl⟩
  · rw [sVe_eq h]
    exact ⟨0, rfl, Int.le_refl _, by decide, fun i hi => absurd hi (Nat.not_lt_zero i)⟩
  · cases h
def sNl (xs ys : List Nat) : Bool := List.rec (motive := fun _ => List Nat → Bool) (fun ys => List.rec (motive := fun _ => Bool) true (fun _ _ _ => false) ys) (fun x _ ih ys => List.rec (motive := fun _ => Bool) false (fun y t _ => Bool.rec (motive := fun _ => Bool) false (ih t) (Nat.beq x y)) ys) xs ys
theorem sNl_eq : ∀ {xs ys : List Nat}, sNl xs ys = true → xs = ys
  | [], [], _ => rfl
  | [], _ :: _, h => by cases h
  | _ :: _, [], h => by cases h
  | x :: xs, y :: ys, h => by
    have h' : Bool.rec (motive := fun _ => Bool) false (sNl xs ys) (Nat.beq x y) = true := h
    cases e : Nat.beq x y with
    | false => rw [e] at h'; cases h'
    | true =>
      rw [e] at h'
      rw [Nat.eq_of_beq_eq_true e, sNl_eq h']
def sGq (env : sE) (t : Nat) (as : List sV) (ps : List Nat) (g : sFc) : Bool := Bool.rec (motive := fun _ => Bool) false (Bool.rec (motive := fun _ => Bool) false (sVeL (g.2.1.map (sN env)) as) (sNl g.2.2 ps)) (Nat.beq g.1 t)
theorem sGq_and {env : sE} {t : Nat} {as : List sV} {ps : List Nat} {g : sFc} (h : sGq env t as ps g = true) : Nat.beq g.1 t = true ∧ g.2.2 = ps ∧ sVeL (g.2.1.map (sN env)) as = true := by
  unfold sGq at h
  cases e1 : Nat.beq g.1 t with
  | false => rw [e1] at h; cases h
  | true =>
    rw [e1] at h
    have h' : Bool.rec (motive := fun _ => Bool) false (sVeL (g.2.1.map (sN env)) as) (sNl g.2.2 ps) = true := h
    cases e2 : sNl g.2.2 ps with
    | false => rw [e2] at h'; cases h'
    | true => rw [e2] at h'; exact ⟨rfl, sNl_eq e2, h'⟩
/-- the rows that are as they were at the entry: more are -/
def sE71 (m : Nat) (g : sFc) : Bool := match g with
  | (70, [], [m']) => Nat.beq (Nat.land m' m) m
  | _ => false
def sE70 (G : List sFc) (f : sFc) : Bool := match f with
  | (70, [], [m]) => G.any (sE71 m)
  | _ => false
theorem sE70_ok {A : Nat → Nat → Int32} {L : Nat} {sc : Nat → Int32} {ρ ρ' : List Int} {G : List sFc} (hG : ∀ f ∈ G, sWf A L sc ρ f) {f : sFc} (h : sE70 G f = true) : sWf A L sc ρ' f := by
  unfold sE70 at h
  split at h
  · rename_i m
    obtain ⟨g, hg, h1⟩ := List.any_eq_true.mp h
    have hw := hG g hg
    unfold sE71 at h1
    split at h1
    · rename_i m'
      have e : m' &&& m = m := Nat.eq_of_beq_eq_true h1
      intro k hk hb j
      refine hw k hk ?_ j
      rw [← e, Nat.testBit_and, Bool.and_eq_true] at hb
      exact hb.1
    · cases h1
  · cases h
def sEnG (κ : sCx) (G : List sFc) (k0 : Nat) (sg : List sV) (f : sFc) : Bool := if Nat.beq f.1 70 = true then sE70 G f else match sFm κ.2.1 k0 sg f.2.1 with
  | some as => G.any (sGq κ.2.1 f.1 as f.2.2) || sEnZ κ G f.1 as
  | none => false
theorem sNl_ok {ρ : List Int} {κ : sCx} (hs : sCok ρ κ) : ∀ as : List sV, sA2 (sPk2 ρ ρ) as (as.map (sN κ.2.1))
  | [] => trivial
  | _ :: t => ⟨fun _ h => sN_ev hs.1 h, sNl_ok hs t⟩
theorem sEnG_ok {A : Nat → Nat → Int32} {L : Nat} {sc : Nat → Int32} {ρ : List Int} {κ : sCx} {G : List sFc} {k0 : Nat} {sg : List sV} (hs : sCok ρ κ) (h : sSgO κ k0 sg = true) (hG : ∀ f ∈ G, sWf A L sc ρ f) {f : sFc} (hf : sEnG κ G k0 sg f = true) : sWf A L sc (sRz ρ k0 sg) f := by
  unfold sEnG at hf
  split at hf
  · exact sE70_ok hG hf
  split at hf
  · rename_i as ha
    refine sWf_rn (sFm_ok hs h _ _ ha) ?_
    rw [Bool.or_eq_true] at hf
    rcases hf with hf | hf
    · obtain ⟨g, hg, h1⟩ := List.any_eq_true.mp hf
      replace h1 := sGq_and h1
      obtain ⟨e1, e2, e3⟩ := h1
      have hw := sWf_rn (as := g.2.1) (sNl_ok hs g.2.1) (hG g hg)
      rw [sVeL_eq e3, Nat.eq_of_beq_eq_true e1, e2] at hw
      exact hw
    · exact sEnZ_ok hs hG hf
  · cases hf
def sLe0 (c : Option Int) (b : Int) : Bool := match c with
  | some z => decide (z ≤ b)
  | none => false
def sAtN (k0 : Nat) (sg : List sV) (i : Nat) : Option sV := if i < k0 then some (16 + 2 * i, 0) else fAt sg (i - k0)
theorem sAtN_ok {ρ : List Int} {κ : sCx} {k0 : Nat} {sg : List sV} (hs : sCok ρ κ) (h : sSgO κ k0 sg = true) {i : Nat} {y : sV} (hy : sAtN k0 sg i = some y) : ∃ n, sEv ρ y = some n ∧ sI n = true ∧ (sRz ρ k0 sg)[i]? = some n := by
  unfold sAtN at hy
  split at hy
  · rename_i hi
    cases hy
    have hk0 : k0 ≤ ρ.length := by
      have h1 := h
      simp only [sSgO, Bool.and_eq_true] at h1
      rw [hs.1.1]
      exact Nat.le_of_ble_eq_true h1.1
    have hl : i < ρ.length := by omega
    refine ⟨ρ[i], ?_, hs.1.2.1 _ (List.getElem_mem hl), ?_⟩
    · rw [sEv_gen ⟨by omega, by omega⟩, if_pos (by omega), show (16 + 2 * i - 16) / 2 = i by omega, List.getElem?_eq_getElem hl]
      show some (_ + 0) = _
      rw [Int.add_zero]
    · rw [sRz_lo hs h hi, List.getElem?_eq_getElem hl]
  · rename_i hi
    rw [fAt_eq] at hy
    obtain ⟨-, n, hn, hI, h0⟩ := sSgO_at hs h hy
    rw [show k0 + (i - k0) = i by omega] at h0
    exact ⟨n, hn, hI, h0⟩
def sMk (q : Nat × Int × Int) : Bool := Nat.beq q.1 1000000 && decide (q.2.2 < q.2.1)
theorem sMk_iff {q : Nat × Int × Int} : sMk q = true ↔ q.1 = 1000000 ∧ q.2.2 < q.2.1 := by
  simp only [sMk, Bool.and_eq_true, decide_eq_true_eq]
  exact ⟨fun h => ⟨Nat.eq_of_beq_eq_true h.1, h.2⟩, fun h => ⟨by rw [h.1]; rfl, h.2⟩⟩
def sIn1 (κ : sCx) (y : sV) (b : Int × Int) : Bool := match sRg κ.2.1 y with
  | some (lo, hi) => decide (b.1 ≤ lo) && (decide (hi ≤ b.2) || sLe0 (sUb κ.2.1 κ.2.2 2 y) b.2)
  | none => false
def sBL (hm : Bool) (κ : sCx) : Nat → List (Int × Int) → List sV → Bool
  | _, [], _ => true
  | i, b :: bs, y :: ys => ((hm && sVe y (16 + 2 * i, 0)) || sIn1 κ y b) && sBL hm κ (i + 1) bs ys
  | _, _ :: _, [] => false
theorem sBL_ok {hm : Bool} {κ : sCx} : ∀ (bs : List (Int × Int)) (sg : List sV) (i : Nat), sBL hm κ i bs sg = true → ∀ (j : Nat) (b : Int × Int), bs[j]? = some b → ∃ y, sg[j]? = some y ∧ ((hm = true ∧ y = (16 + 2 * (i + j), 0)) ∨ sIn1 κ y b = true)
  | [], _, _, _, j, b, h => by simp at h
  | _ :: _, [], _, h, _, _, _ => by cases h
  | b0 :: bs, y :: ys, i, h, j, b, hb => by
    simp only [sBL, Bool.and_eq_true, Bool.or_eq_true] at h
    cases j with
    | zero =>
      simp at hb
      subst hb
      rcases h.1 with h1 | h1
      · exact ⟨y, rfl, Or.inl ⟨h1.1, sVe_eq h1.2⟩⟩
      · exact ⟨y, rfl, Or.inr h1⟩
    | succ j =>
      obtain ⟨y', e1, e2⟩ := sBL_ok bs ys (i + 1) h.2 j b (by simpa using hb)
      rw [show i + 1 + j = i + (j + 1) by omega] at e2
      exact ⟨y', by simpa using e1, e2⟩
def sEnM (κ : sCx) (k0 : Nat) (sg : List sV) : Bool := (κ.2.1.any sMk && Nat.ble 78 k0) || (Nat.beq k0 0 && sBL (κ.2.1.any sMk) κ 0 sLocB sg)
def sEnB (κ : sCx) (k0 : Nat) (sg : List sV) (q : Nat × Int × Int) : Bool := if sMk q = true then sEnM κ k0 sg else (match sAtN k0 sg q.1 with
  | some y => (match sRg κ.2.1 y with
    | some (a, b) => (decide (q.2.1 ≤ a) || sEn0 κ.1 κ.2.1 κ.2.2 (0, [y, (0, q.2.1)], [])) && (decide (b ≤ q.2.2) || sLe0 (sUb κ.2.1 κ.2.2 2 y) q.2.2)
    | none => false)
  | none => false)
theorem sBase_of {ρ : List Int} {κ : sCx} (hs : sCok ρ κ) (h : κ.2.1.any sMk = true) : ∀ (i : Nat) (b : Int × Int), sLocB[i]? = some b → ∃ y, ρ[i]? = some y ∧ b.1 ≤ y ∧ y ≤ b.2 := by
  obtain ⟨q, hq, h1⟩ := List.any_eq_true.mp h
  have h2 := hs.1.2.2 q hq
  unfold sQe at h2
  rw [if_pos (sMk_iff.mp h1)] at h2
  exact h2
theorem sEnB_ok {ρ : List Int} {κ : sCx} {k0 : Nat} {sg : List sV} (hs : sCok ρ κ) (h : sSgO κ k0 sg = true) {q : Nat × Int × Int} (h7 : sEnB κ k0 sg q = true) : sQe (sRz ρ k0 sg) q := by
  unfold sEnB at h7
  split at h7
  · rename_i hmk
    unfold sQe
    rw [if_pos (sMk_iff.mp hmk)]
    intro i b hb
    unfold sEnM at h7
    simp only [Bool.or_eq_true, Bool.and_eq_true] at h7
    rcases h7 with ⟨h1, h2⟩ | ⟨h1, h2⟩
    · have h2 := Nat.le_of_ble_eq_true h2
      have hi : i < 78 := (List.getElem?_eq_some_iff.mp hb).1
      rw [sRz_lo hs h (by omega)]
      exact sBase_of hs h1 i b hb
    · have h1 := Nat.eq_of_beq_eq_true h1
      subst h1
      obtain ⟨y, hy, h3⟩ := sBL_ok _ _ _ h2 i b hb
      obtain ⟨-, n, hn, hI, h0⟩ := sSgO_at hs h hy
      rw [Nat.zero_add] at h0
      refine ⟨n, h0, ?_⟩
      rcases h3 with ⟨h3, rfl⟩ | h3
      · obtain ⟨z, hz, h4⟩ := sBase_of hs h3 i b hb
        rw [sEv_gen ⟨by omega, by omega⟩, if_pos (by omega), show (16 + 2 * (0 + i) - 16) / 2 = i by omega, hz] at hn
        have e : z + 0 = n := Option.some.inj hn
        rw [Int.add_zero] at e
        subst e
        exact h4
      · unfold sIn1 at h3
        split at h3
        · rename_i lo hi hr
          obtain ⟨p1, p2, -⟩ := sRg_ev hs.1 hn hr
          simp only [Bool.and_eq_true, Bool.or_eq_true, decide_eq_true_eq] at h3
          refine ⟨by omega, ?_⟩
          rcases h3.2 with h8 | h8
          · omega
          · unfold sLe0 at h8
            split at h8
            · rename_i z hz
              have := sUb_ok hs.1 hs.2 2 hn hz
              simp only [decide_eq_true_eq] at h8
              omega
            · cases h8
        · cases h3
  · rename_i hmk
    unfold sQe
    rw [if_neg (fun q0 => hmk (sMk_iff.mpr q0))]
    split at h7
    · rename_i y hy
      obtain ⟨n, hn, hI, h0⟩ := sAtN_ok hs h hy
      split at h7
      · rename_i a b hr
        obtain ⟨p1, p2, -⟩ := sRg_ev hs.1 hn hr
        simp only [Bool.and_eq_true, Bool.or_eq_true, decide_eq_true_eq] at h7
        have hlo : q.2.1 ≤ n := by
          rcases h7.1 with h8 | h8
          · omega
          · obtain ⟨u, w, e1, e2, e3⟩ := sEn0_ok hs.1 hs.2 h8
            have e1 : u = n := Option.some.inj (e1.symm.trans hn)
            have e2 : w = q.2.1 := (Option.some.inj e2).symm
            omega
        refine ⟨n, h0, hlo, ?_⟩
        rcases h7.2 with h8 | h8
        · omega
        · unfold sLe0 at h8
          split at h8
          · rename_i z hz
            have := sUb_ok hs.1 hs.2 2 hn hz
            simp only [decide_eq_true_eq] at h8
            omega
          · cases h8
      · cases h7
    · cases h7
/-- the whole state -/
def sCov (κ : sCx) (G : List sFc) (wd : List sC) (κc : sCx) (Gc : List sFc) (wdc : List sC) (k0 : Nat) (sg : List sV) : Bool := Nat.beq (k0 + sg.length) κc.1 && (fCcL κ.2.1 k0 (16 + 2 * k0) sg wd wdc && (sSgO κ k0 sg && (Gc.all (sEnG κ G k0 sg) && (κc.2.1.all (sEnB κ k0 sg) && κc.2.2.all (sEnF κ k0 sg)))))
theorem sCov_ok {L : Nat} {sc : Nat → Int32} {ρ : List Int} {ex : Nat → Nat} {g : sG} {ws : va_W} {κ κc : sCx} {G Gc : List sFc} {wd wdc : List sC} {k0 : Nat} {sg : List sV} (hs : sCok ρ κ) (hG : ∀ f ∈ G, sWf (sAc ws) L sc ρ f) (hrw : sRW ρ ex g wd ws) (h : sCov κ G wd κc Gc wdc k0 sg = true) : sSgO κ k0 sg = true ∧ sCok (sRz ρ k0 sg) κc ∧ (∀ f ∈ Gc, sWf (sAc ws) L sc (sRz ρ k0 sg) f) ∧ sRW (sRz ρ k0 sg) ex g wdc ws := by
  simp only [sCov, Bool.and_eq_true] at h
  obtain ⟨h1, h6, h2, h5, h3, h4⟩ := h
  have hk0 : k0 ≤ ρ.length := by
    have h9 := h2
    simp only [sSgO, Bool.and_eq_true] at h9
    rw [hs.1.1]
    exact Nat.le_of_ble_eq_true h9.1
  have hlen : (sRz ρ k0 sg).length = κc.1 := by
    rw [sRz, List.length_append, List.length_take, List.length_map, ← Nat.eq_of_beq_eq_true h1]
    omega
  refine ⟨h2, ⟨⟨hlen, fun y hy => ?_, fun q hq => sEnB_ok hs h2 (List.all_eq_true.mp h3 q hq)⟩, fun f hf => sEnF_ok hs h2 (List.all_eq_true.mp h4 f hf)⟩, fun f hf => sEnG_ok hs h2 hG (List.all_eq_true.mp h5 f hf), sCcL_ok hs h2 _ _ _ (fCcL_ok rfl _ _ h6) hrw⟩
  unfold sRz at hy
  rcases List.mem_append.mp hy with hy | hy
  · exact hs.1.2.1 y (List.mem_of_mem_take hy)
  · obtain ⟨z, hz, rfl⟩ := List.mem_map.mp hy
    obtain ⟨i, hi⟩ := List.mem_iff_getElem?.mp hz
    obtain ⟨-, n, hn, hI, -⟩ := sSgO_at hs h2 hi
    rw [hn]
    exact hI
theorem sRz_pre {ρ0 ρ : List Int} {κ : sCx} {sg : List sV} (hp : ρ0 <+: ρ) : ρ0 <+: sRz ρ ρ0.length sg := by
  obtain ⟨δ, rfl⟩ := hp
  unfold sRz
  rw [List.take_left]
  exact List.prefix_append _ _
end
