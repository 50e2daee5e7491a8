noncomputable section
/-! ===== covers: the numbers of one state told in those of another ===== -/
/-- a value in the other's numbers: the first k0 are the same -/
def sSb (k0 : Nat) (sg : List sV) (x : sV) : Option sV := if x.1 < 16 + 2 * k0 then some x else (match fAt sg ((x.1 - 16) / 2 - k0) with
  | some y => some (if x.1 % 2 = 0 then (y.1, y.2 + x.2) else (y.1 + 1, y.2 + x.2))
  | none => none)
/-- a number as it stands -/
def sQk (nx : Nat) (y : sV) : Bool := Nat.ble 16 y.1 && (sZ0 y.2 && (Nat.beq (y.1 % 2) 0 && Nat.blt ((y.1 - 16) / 2) nx))
def sSgO (κ : sCx) (k0 : Nat) (sg : List sV) : Bool := Nat.ble k0 κ.1 && sg.all fun y => sQk κ.1 y || (decide (sK y = 0) && (sDef κ.1 y && (sRg κ.2.1 y).isSome))
def sRz (ρ : List Int) (k0 : Nat) (sg : List sV) : List Int := ρ.take k0 ++ sg.map fun y => (sEv ρ y).getD 0
theorem sRz_hi {ρ : List Int} {κ : sCx} {k0 : Nat} {sg : List sV} (hs : sCok ρ κ) (h : sSgO κ k0 sg = true) (i : Nat) : (sRz ρ k0 sg)[k0 + i]? = (sg.map fun y => (sEv ρ y).getD 0)[i]? := by
  simp only [sSgO, Bool.and_eq_true] at h
  have h1 := Nat.le_of_ble_eq_true h.1
  have hl := hs.1.1
  unfold sRz
  rw [List.getElem?_append_right (by rw [List.length_take]; omega), List.length_take]
  congr 1
  omega
theorem sRz_lo {ρ : List Int} {κ : sCx} {k0 : Nat} {sg : List sV} (hs : sCok ρ κ) (h : sSgO κ k0 sg = true) {i : Nat} (hi : i < k0) : (sRz ρ k0 sg)[i]? = ρ[i]? := by
  simp only [sSgO, Bool.and_eq_true] at h
  have h1 := Nat.le_of_ble_eq_true h.1
  have hl := hs.1.1
  unfold sRz
  rw [List.getElem?_append_left (by rw [List.length_take]; omega), List.getElem?_take_of_lt hi]
theorem sSgO_at {ρ : List Int} {κ : sCx} {k0 : Nat} {sg : List sV} (hs : sCok ρ κ) (h : sSgO κ k0 sg = true) {i : Nat} {y : sV} (hy : sg[i]? = some y) : sK y = 0 ∧ ∃ n, sEv ρ y = some n ∧ sI n = true ∧ (sRz ρ k0 sg)[k0 + i]? = some n := by
  have h0 := h
  simp only [sSgO, Bool.and_eq_true] at h
  have h1 := List.all_eq_true.mp h.2 y (List.mem_of_getElem? hy)
  rw [Bool.or_eq_true] at h1
  have key : sK y = 0 ∧ ∃ n, sEv ρ y = some n ∧ sI n = true := by
    rcases h1 with h1 | h1
    · simp only [sQk, Bool.and_eq_true] at h1
      obtain ⟨q1, q2, q3, q4⟩ := h1
      have p1 := Nat.le_of_ble_eq_true q1
      have p2 := sZ0_eq q2
      have p3 := Nat.eq_of_beq_eq_true q3
      have p4 : (y.1 - 16) / 2 < κ.1 := Nat.le_of_ble_eq_true q4
      clear q1 q2 q3 q4
      obtain ⟨t, c⟩ := y
      simp only at p1 p2 p3 p4
      subst p2
      have hl : (t - 16) / 2 < ρ.length := by rw [hs.1.1]; exact p4
      refine ⟨by rw [sK_gen ⟨by omega, by omega, by omega, by omega, by omega⟩, if_pos p1]; exact p3, ρ[(t - 16) / 2], ?_, hs.1.2.1 _ (List.getElem_mem hl)⟩
      rw [sEv_gen ⟨by omega, by omega⟩, if_pos p1, List.getElem?_eq_getElem hl]
      show some (_ + 0) = _
      rw [Int.add_zero]
    · simp only [Bool.and_eq_true, decide_eq_true_eq] at h1
      obtain ⟨hk, hd, hr⟩ := h1
      obtain ⟨n, hn⟩ := sDef_ev hs.1 hd
      obtain ⟨q, hq⟩ := Option.isSome_iff_exists.mp hr
      obtain ⟨-, -, hI⟩ := sRg_ev (lo := q.1) (hi := q.2) hs.1 hn hq
      exact ⟨hk, n, hn, hI⟩
  obtain ⟨hk, n, hn, hI⟩ := key
  refine ⟨hk, n, hn, hI, ?_⟩
  rw [sRz_hi hs h0, List.getElem?_map, hy]
  show some ((sEv ρ y).getD 0) = some n
  rw [hn]
  rfl
theorem sEv_long {ρ : List Int} {y : sV} {n : Int} (hk : sK y = 0) (h : sEv ρ y = some n) (c : Int) : sEv ρ (y.1 + 1, y.2 + c) = some (n + c) ∧ sK (y.1 + 1, y.2 + c) = 1 := by
  obtain ⟨t, z⟩ := y
  simp only
  rcases sTag t with rfl | rfl | rfl | rfl | rfl | ht
  · simp only [sEv, Option.some.injEq] at h ⊢
    exact ⟨by omega, rfl⟩
  · simp [sK] at hk
  · simp [sK] at hk
  · simp [sK] at hk
  · simp [sK] at hk
  · rw [sK_gen ht] at hk
    split at hk
    · rename_i h16
      rw [sEv_gen ⟨ht.1, ht.2.1⟩, if_pos h16] at h
      obtain ⟨u, hu, rfl⟩ := Option.map_eq_some_iff.mp h
      refine ⟨?_, ?_⟩
      · rw [sEv_gen ⟨by omega, by omega⟩, if_pos (by omega), show (t + 1 - 16) / 2 = (t - 16) / 2 by omega, hu]
        show some (u + (z + c)) = some (u + z + c)
        congr 1
        omega
      · rw [sK_gen ⟨by omega, by omega, by omega, by omega, by omega⟩, if_pos (by omega)]
        omega
    · omega
/-- the same number, of the same kind -/
theorem sSb_ok {ρ : List Int} {κ : sCx} {k0 : Nat} {sg : List sV} (hs : sCok ρ κ) (h : sSgO κ k0 sg = true) {x x' : sV} (hx : sSb k0 sg x = some x') : (∀ m, sEv ρ x' = some m → sEv (sRz ρ k0 sg) x = some m) ∧ sK x = sK x' ∧ (sK x' = 0 → ∃ n, sEv ρ x' = some n) ∧ (x.1 < 16 + 2 * k0 → x' = x) := by
  have hk0 : k0 ≤ ρ.length := by
    have h1 := h
    simp only [sSgO, Bool.and_eq_true] at h1
    rw [hs.1.1]
    exact Nat.le_of_ble_eq_true h1.1
  obtain ⟨t, c⟩ := x
  unfold sSb at hx
  simp only at hx
  split at hx
  · rename_i hlt
    cases hx
    refine ⟨fun m hm => ?_, rfl, fun hk => ?_, fun _ => rfl⟩
    · by_cases h16 : 16 ≤ t
      · rw [sEv_gen ⟨by omega, by omega⟩, if_pos h16] at hm ⊢
        rw [sRz_lo hs h (by omega)]
        exact hm
      · by_cases h0 : t = 0
        · subst h0; exact hm
        · by_cases h1 : t = 1
          · subst h1; exact hm
          · rw [sEv_gen ⟨h0, h1⟩, if_neg h16] at hm
            cases hm
    · by_cases h16 : 16 ≤ t
      · rw [sEv_gen ⟨by omega, by omega⟩, if_pos h16]
        have hl : (t - 16) / 2 < ρ.length := by omega
        exact ⟨_, by rw [List.getElem?_eq_getElem hl]; rfl⟩
      · rcases sTag t with rfl | rfl | rfl | rfl | rfl | ht
        · exact ⟨c, rfl⟩
        · simp [sK] at hk
        · simp [sK] at hk
        · simp [sK] at hk
        · simp [sK] at hk
        · rw [sK_gen ht, if_neg h16] at hk
          omega
  · rename_i hlt
    rw [fAt_eq] at hx
    split at hx
    · rename_i y hy
      cases hx
      obtain ⟨hk, n, hn, hI, h0⟩ := sSgO_at hs h hy
      have h16 : 16 ≤ t := by omega
      have e0 : sEv (sRz ρ k0 sg) (t, c) = some (n + c) := by
        rw [sEv_gen ⟨by omega, by omega⟩, if_pos h16, show (t - 16) / 2 = k0 + ((t - 16) / 2 - k0) by omega, h0]
        rfl
      have k1 : sK (t, c) = t % 2 := by rw [sK_gen ⟨by omega, by omega, by omega, by omega, by omega⟩, if_pos h16]
      split
      · rename_i he
        have e1 := sEv_add hn c
        have k2 : sK (y.1, y.2 + c) = 0 := by
          obtain ⟨ty, zy⟩ := y
          by_cases hy16 : 16 ≤ ty
          · exact (sOff hk hy16 hn c).2
          · rcases sTag ty with rfl | rfl | rfl | rfl | rfl | ht
            · rfl
            · simp [sK] at hk
            · simp [sK] at hk
            · simp [sK] at hk
            · simp [sK] at hk
            · rw [sK_gen ht, if_neg hy16] at hk
              omega
        exact ⟨fun m hm => by rw [e0, ← e1]; exact hm, by rw [k1, k2, he], fun _ => ⟨_, e1⟩, fun q => absurd q hlt⟩
      · rename_i he
        obtain ⟨e1, k2⟩ := sEv_long hk hn c
        exact ⟨fun m hm => by rw [e0, ← e1]; exact hm, by rw [k1, k2]; omega, fun _ => ⟨_, e1⟩, fun q => absurd q hlt⟩
    · cases hx
theorem sRep_low {ρ ρ' : List Int} {ads : List Nat} {ex : Nat → Nat} {x : sV} {v : Value} (h16 : x.1 < 16) (h : sRep ρ ads ex x v) : sRep ρ' ads ex x v := by
  obtain ⟨t, c⟩ := x
  rcases sTag t with rfl | rfl | rfl | rfl | rfl | ht
  · exact h
  · exact h
  · exact h
  · exact h
  · exact h
  · rw [sRep_gen ht, if_neg (Nat.not_le.mpr h16)] at h ⊢
    exact h
/-- a value by its number and kind -/
theorem sRep_to {ρ ρ' : List Int} {ads : List Nat} {ex : Nat → Nat} {x y : sV} {v : Value} (h : sRep ρ ads ex x v) (hk : sK y = sK x) (he : ∀ n, sEv ρ x = some n → sEv ρ' y = some n) (hl : 16 ≤ y.1 ∨ (y = x ∧ x.1 < 16)) : sRep ρ' ads ex y v := by
  rcases hl with hl | ⟨rfl, hl⟩
  · have hky : sK y = 0 ∨ sK y = 1 := by
      obtain ⟨t, c⟩ := y
      rw [sK_gen ⟨by simp only at hl; omega, by simp only at hl; omega, by simp only at hl; omega, by simp only at hl; omega, by simp only at hl; omega⟩, if_pos hl]
      omega
    rcases hky with h0 | h1
    · obtain ⟨n, rfl, hn⟩ := sRep_int h (hk ▸ h0)
      exact sRep_of_int h0 (he n hn)
    · obtain ⟨n, rfl, hn⟩ := sRep_long h (hk ▸ h1)
      exact sRep_of_long h1 (he n hn)
  · exact sRep_low hl h
theorem sSb_rep {ρ : List Int} {κ : sCx} {k0 : Nat} {sg : List sV} (hs : sCok ρ κ) (h : sSgO κ k0 sg = true) {ads : List Nat} {ex : Nat → Nat} {x x' : sV} (hx : sSb k0 sg x = some x') {v : Value} (hr : sRep ρ ads ex x' v) : sRep (sRz ρ k0 sg) ads ex x v := by
  obtain ⟨h1, h2, -, h4⟩ := sSb_ok hs h hx
  refine sRep_to hr h2 h1 ?_
  by_cases h16 : 16 ≤ x.1
  · exact Or.inl h16
  · have e := h4 (by omega)
    subst e
    exact Or.inr ⟨rfl, by omega⟩
theorem sN_back {ρ : List Int} {nx : Nat} {env : sE} (h : sOk ρ nx env) {x : sV} (hd : sK x = 0 → ∃ n, sEv ρ x = some n) {m : Int} (hm : sEv ρ (sN env x) = some m) : sEv ρ x = some m := by
  by_cases hk : sK x = 0
  · obtain ⟨n, hn⟩ := hd hk
    have := sN_ev h hn
    rw [hm] at this
    cases this
    exact hn
  · unfold sN at hm
    rw [if_neg hk] at hm
    exact hm
/-- place by place the same -/
def sSm (env : sE) (k0 : Nat) (sg : List sV) (x y : sV) : Bool := match sSb k0 sg y with
  | some y' => sVe x y' || sVe (sN env x) (sN env y')
  | none => false
theorem sSm_ok {ρ : List Int} {κ : sCx} {k0 : Nat} {sg : List sV} (hs : sCok ρ κ) (h : sSgO κ k0 sg = true) {ads : List Nat} {ex : Nat → Nat} {x y : sV} {v : Value} (hm : sSm κ.2.1 k0 sg x y = true) (hr : sRep ρ ads ex x v) : sRep (sRz ρ k0 sg) ads ex y v := by
  unfold sSm at hm
  split at hm
  · rename_i y' hy
    refine sSb_rep hs h hy ?_
    rw [Bool.or_eq_true] at hm
    rcases hm with hm | hm
    · rw [← sVe_eq hm]
      exact hr
    · have hn := sN_ok hs.1 hr
      rw [sVe_eq hm] at hn
      obtain ⟨-, -, h3, -⟩ := sSb_ok hs h hy
      by_cases hk : sK y' = 0
      · obtain ⟨n, rfl, hn'⟩ := sRep_int hn ((sN_k _ _).trans hk)
        exact sRep_of_int hk (sN_back hs.1 h3 hn')
      · unfold sN at hn
        rw [if_neg hk] at hn
        exact hn
  · cases hm
def sSmL (env : sE) (k0 : Nat) (sg : List sV) : List sV → List sV → Bool
  | [], [] => true
  | x :: xs, y :: ys => sSm env k0 sg x y && sSmL env k0 sg xs ys
  | _, _ => false
theorem sSmL_ok {ρ : List Int} {κ : sCx} {k0 : Nat} {sg : List sV} (hs : sCok ρ κ) (h : sSgO κ k0 sg = true) {ads : List Nat} {ex : Nat → Nat} : ∀ (xs ys : List sV) (vs : List Value), sSmL κ.2.1 k0 sg xs ys = true → sA2 (sRep ρ ads ex) xs vs → sA2 (sRep (sRz ρ k0 sg) ads ex) ys vs
  | [], [], _, _, hr => by rw [sA2_nil hr]; trivial
  | x :: xs, y :: ys, vs, hm, hr => by
    simp only [sSmL, Bool.and_eq_true] at hm
    obtain ⟨v, vs', rfl, h1, h2⟩ := sA2_cons hr
    exact ⟨sSm_ok hs h hm.1 h1, sSmL_ok hs h xs ys vs' hm.2 h2⟩
  | [], _ :: _, _, hm, _ => by cases hm
  | _ :: _, [], _, hm, _ => by cases hm
def sAllN : Nat → (Nat → Bool) → Bool
  | 0, _ => true
  | n + 1, f => f n && sAllN n f
theorem sAllN_ok {f : Nat → Bool} : ∀ {n : Nat}, sAllN n f = true → ∀ j, j < n → f j = true
  | 0, _, j, hj => by omega
  | n + 1, h, j, hj => by
    simp only [sAllN, Bool.and_eq_true] at h
    by_cases e : j = n
    · subst e; exact h.1
    · exact sAllN_ok h.2 j (by omega)
/-- a cell within a cell -/
def sCc (env : sE) (k0 : Nat) (sg : List sV) (c c' : sC) : Bool := match c, c' with
  | .inl (ci, fs), .inl (cj, fs') => Nat.beq ci cj && sSmL env k0 sg fs fs'
  | .inr (4, n, [(i, _)]), .inr (4, n', [(i', _)]) => Nat.beq n n' && Nat.beq i i'
  | .inr (0, n, []), .inr (4, n', [(i', _)]) => Nat.beq n n' && (match sSpec[i']? with
    | some S => decide (S ≠ []) && S.all fun q => decide (q.1 ≤ 0) && decide (0 ≤ q.2)
    | none => false)
  | .inr (5, n, _), .inr (5, n', _) => Nat.beq n n'
  | .inr (1, n, []), .inr (5, n', _) => Nat.beq n n'
  | .inr (6, n, _), .inr (6, n', _) => Nat.beq n n'
  | .inr (2, n, _), .inr (6, n', _) => Nat.beq n n'
  | .inr (0, n, ov), .inr (0, n', ov') => Nat.beq n n' && sAllN n fun j => sSm env k0 sg (sLook (0, 0) ov j) (sLook (0, 0) ov' j)
  | .inr (3, n, ov), .inr (3, n', ov') => Nat.beq n n' && sAllN n fun j => sSm env k0 sg (sLook (2, 0) ov j) (sLook (2, 0) ov' j)
  | .inr (2, n, ov), .inr (2, n', ov') => Nat.beq n n' && sAllN n fun j => sSm env k0 sg (sLook (1, 0) ov j) (sLook (1, 0) ov' j)
  | _, _ => false
theorem sCc_ok {ρ : List Int} {κ : sCx} {k0 : Nat} {sg : List sV} (hs : sCok ρ κ) (h : sSgO κ k0 sg = true) {ads : List Nat} {ex : Nat → Nat} {g : sG} {c c' : sC} {e : va_E} (hc : sCc κ.2.1 k0 sg c c' = true) (hr : sRepC ρ ads ex g c e) : sRepC (sRz ρ k0 sg) ads ex g c' e := by
  unfold sCc at hc
  split at hc
  · rename_i ci fs cj fs'
    simp only [Bool.and_eq_true] at hc
    cases e with
    | inl _ => exact hr.elim
    | inr o =>
      obtain ⟨ck, vs⟩ := o
      obtain ⟨rfl, hr⟩ := hr
      have e1 := Nat.eq_of_beq_eq_true hc.1
      subst e1
      exact ⟨rfl, sSmL_ok hs h _ _ _ hc.2 hr⟩
  · simp only [Bool.and_eq_true] at hc
    have e1 := Nat.eq_of_beq_eq_true hc.1
    have e2 := Nat.eq_of_beq_eq_true hc.2
    subst e1; subst e2
    obtain ⟨f, S, rfl, h1, h2⟩ := sInv4 hr
    exact ⟨rfl, rfl, S, h1, h2⟩
  · simp only [Bool.and_eq_true] at hc
    have e1 := Nat.eq_of_beq_eq_true hc.1
    subst e1
    have hc2 := hc.2
    split at hc2
    · rename_i S hS
      simp only [Bool.and_eq_true, decide_eq_true_eq] at hc2
      obtain ⟨f, rfl, h1⟩ := sInv0 hr
      refine ⟨rfl, rfl, S, hS, fun j hj => ?_⟩
      have hf := h1 j hj
      simp only [sLook, sRep] at hf
      have hf0 : (f j).toInt = 0 := by
        rw [Value.int.inj hf]
        rfl
      have hl : 0 < S.length := List.length_pos_iff.mpr hc2.1
      have hm := Nat.mod_lt j hl
      obtain ⟨q, hq0⟩ : ∃ q, S[j % S.length]? = some q := ⟨_, List.getElem?_eq_getElem hm⟩
      have hq := List.all_eq_true.mp hc2.2 q (List.mem_of_getElem? hq0)
      simp only [Bool.and_eq_true, decide_eq_true_eq] at hq
      exact ⟨q.1, q.2, hq0, by omega, by omega⟩
    · cases hc2
  · have e1 := Nat.eq_of_beq_eq_true hc
    subst e1
    obtain ⟨f, rfl, h1⟩ := sInv5 hr
    exact ⟨rfl, rfl, h1⟩
  · have e1 := Nat.eq_of_beq_eq_true hc
    subst e1
    cases e with
    | inr o => simp [sRepC] at hr
    | inl x =>
      obtain ⟨cA, n', f⟩ := x
      cases f with
      | inl f =>
        obtain ⟨rfl, rfl, h1⟩ := hr
        refine ⟨rfl, rfl, fun j hj => ?_⟩
        have hf := h1 j hj
        simp only [sLook, sRep] at hf
        have hf0 : (f j).toInt = 0 := by
          rw [Value.int.inj hf]
          rfl
        omega
      | inr f => simp [sRepC] at hr
  · have e1 := Nat.eq_of_beq_eq_true hc
    subst e1
    obtain ⟨f, rfl⟩ := sInv6 hr
    exact ⟨rfl, rfl⟩
  · have e1 := Nat.eq_of_beq_eq_true hc
    subst e1
    cases e with
    | inr o => simp [sRepC] at hr
    | inl x =>
      obtain ⟨cA, n', f⟩ := x
      match f, hr with
      | .inl f, hr => simp [sRepC] at hr
      | .inr (.inl f), hr => obtain ⟨rfl, rfl, -⟩ := hr; exact ⟨rfl, rfl⟩
      | .inr (.inr f), hr => simp [sRepC] at hr
  · simp only [Bool.and_eq_true] at hc
    have e1 := Nat.eq_of_beq_eq_true hc.1
    subst e1
    obtain ⟨f, rfl, h1⟩ := sInv0 hr
    exact ⟨rfl, rfl, fun j hj => sSm_ok hs h (sAllN_ok hc.2 j hj) (h1 j hj)⟩
  · simp only [Bool.and_eq_true] at hc
    have e1 := Nat.eq_of_beq_eq_true hc.1
    subst e1
    obtain ⟨f, rfl, h1⟩ := sInv3 hr
    exact ⟨rfl, rfl, fun j hj => sSm_ok hs h (sAllN_ok hc.2 j hj) (h1 j hj)⟩
  · simp only [Bool.and_eq_true] at hc
    have e1 := Nat.eq_of_beq_eq_true hc.1
    subst e1
    obtain ⟨f, rfl, h1⟩ := sInv2 hr
    exact ⟨rfl, rfl, fun j hj => sSm_ok hs h (sAllN_ok hc.2 j hj) (h1 j hj)⟩
  · cases hc
def sCcL (env : sE) (k0 : Nat) (sg : List sV) : List sC → List sC → Bool
  | [], [] => true
  | x :: xs, y :: ys => sCc env k0 sg x y && sCcL env k0 sg xs ys
  | _, _ => false
theorem sCcL_ok {ρ : List Int} {κ : sCx} {k0 : Nat} {sg : List sV} (hs : sCok ρ κ) (h : sSgO κ k0 sg = true) {ads : List Nat} {ex : Nat → Nat} {g : sG} : ∀ (xs ys : List sC) (ws : va_W), sCcL κ.2.1 k0 sg xs ys = true → sA2 (fun (c : sC) (q : Nat × va_E) => sRepC ρ ads ex g c q.2) xs ws → sA2 (fun (c : sC) (q : Nat × va_E) => sRepC (sRz ρ k0 sg) ads ex g c q.2) ys ws
  | [], [], _, _, hr => by rw [sA2_nil hr]; trivial
  | x :: xs, y :: ys, ws, hm, hr => by
    simp only [sCcL, Bool.and_eq_true] at hm
    obtain ⟨v, vs', rfl, h1, h2⟩ := sA2_cons hr
    exact ⟨sCc_ok hs h hm.1 h1, sCcL_ok hs h xs ys vs' hm.2 h2⟩
  | [], _ :: _, _, hm, _ => by cases hm
  | _ :: _, [], _, hm, _ => by cases hm
/-! ### the same, cheap for the kernel -/
def fSm (env : sE) (k0 kt : Nat) (sg : List sV) (x y : sV) : Bool := Bool.rec (motive := fun _ => Bool) (sSm env k0 sg x y) (Bool.rec (motive := fun _ => Bool) (sSm env k0 sg x y) true (sVe x y)) (Nat.blt y.1 kt)
theorem fSm_ok {env : sE} {k0 kt : Nat} {sg : List sV} {x y : sV} (hkt : kt = 16 + 2 * k0) (h : fSm env k0 kt sg x y = true) : sSm env k0 sg x y = true := by
  unfold fSm at h
  cases e1 : Nat.blt y.1 kt with
  | false => rw [e1] at h; exact h
  | true =>
    rw [e1] at h
    have h' : Bool.rec (motive := fun _ => Bool) (sSm env k0 sg x y) true (sVe x y) = true := h
    cases e2 : sVe x y with
    | false => rw [e2] at h'; exact h'
    | true =>
      have hlt : y.1 < 16 + 2 * k0 := by rw [← hkt]; exact Nat.le_of_ble_eq_true e1
      unfold sSm sSb
      rw [if_pos hlt]
      simp only [e2, Bool.true_or]
def fSmL (env : sE) (k0 kt : Nat) (sg : List sV) (xs ys : List sV) : Bool := List.rec (motive := fun _ => List sV → Bool) (fun ys => List.rec (motive := fun _ => Bool) true (fun _ _ _ => false) ys) (fun x _ ih ys => List.rec (motive := fun _ => Bool) false (fun y t _ => Bool.rec (motive := fun _ => Bool) false (ih t) (fSm env k0 kt sg x y)) ys) xs ys
theorem fSmL_ok {env : sE} {k0 kt : Nat} {sg : List sV} (hkt : kt = 16 + 2 * k0) : ∀ (xs ys : List sV), fSmL env k0 kt sg xs ys = true → sSmL env k0 sg xs ys = true
  | [], [], _ => rfl
  | [], _ :: _, h => by cases h
  | _ :: _, [], h => by cases h
  | x :: xs, y :: ys, h => by
    have h' : Bool.rec (motive := fun _ => Bool) false (fSmL env k0 kt sg xs ys) (fSm env k0 kt sg x y) = true := h
    cases e : fSm env k0 kt sg x y with
    | false => rw [e] at h'; cases h'
    | true =>
      rw [e] at h'
      simp only [sSmL, Bool.and_eq_true]
      exact ⟨fSm_ok hkt e, fSmL_ok hkt xs ys h'⟩
/-- the same row within bounds -/
def fR4 (ov ov' : List (Nat × sV)) : Bool := List.rec (motive := fun _ => Bool) false (fun q t _ => List.rec (motive := fun _ => Bool) (List.rec (motive := fun _ => Bool) false (fun q' t' _ => List.rec (motive := fun _ => Bool) (Nat.beq q.1 q'.1) (fun _ _ _ => false) t') ov') (fun _ _ _ => false) t) ov
theorem fR4_ok {ov ov' : List (Nat × sV)} (h : fR4 ov ov' = true) : ∃ i z z', ov = [(i, z)] ∧ ov' = [(i, z')] := by
  rcases ov with _ | ⟨⟨i, z⟩, _ | ⟨a, b⟩⟩
  · cases h
  · rcases ov' with _ | ⟨⟨i', z'⟩, _ | ⟨a, b⟩⟩
    · cases h
    · have e := Nat.eq_of_beq_eq_true (show Nat.beq i i' = true from h)
      subst e
      exact ⟨i, z, z', rfl, rfl⟩
    · cases h
  · cases h
def fRow (env : sE) (k0 : Nat) (sg : List sV) (r r' : Nat × Nat × List (Nat × sV)) : Bool := Bool.rec (motive := fun _ => Bool) (sCc env k0 sg (.inr r) (.inr r')) (Bool.rec (motive := fun _ => Bool) (sCc env k0 sg (.inr r) (.inr r')) (Bool.rec (motive := fun _ => Bool) false (fR4 r.2.2 r'.2.2) (Nat.beq r.2.1 r'.2.1)) (Nat.beq r'.1 4)) (Nat.beq r.1 4)
theorem fRow_ok {env : sE} {k0 : Nat} {sg : List sV} {r r' : Nat × Nat × List (Nat × sV)} (h : fRow env k0 sg r r' = true) : sCc env k0 sg (.inr r) (.inr r') = true := by
  unfold fRow at h
  cases e1 : Nat.beq r.1 4 with
  | false => rw [e1] at h; exact h
  | true =>
    rw [e1] at h
    have h1 : Bool.rec (motive := fun _ => Bool) (sCc env k0 sg (.inr r) (.inr r')) (Bool.rec (motive := fun _ => Bool) false (fR4 r.2.2 r'.2.2) (Nat.beq r.2.1 r'.2.1)) (Nat.beq r'.1 4) = true := h
    cases e2 : Nat.beq r'.1 4 with
    | false => rw [e2] at h1; exact h1
    | true =>
      rw [e2] at h1
      have h2 : Bool.rec (motive := fun _ => Bool) false (fR4 r.2.2 r'.2.2) (Nat.beq r.2.1 r'.2.1) = true := h1
      cases e3 : Nat.beq r.2.1 r'.2.1 with
      | false => rw [e3] at h2; cases h2
      | true =>
        rw [e3] at h2
        obtain ⟨i, z, z', q1, q2⟩ := fR4_ok h2
        obtain ⟨t, n, ov⟩ := r
        obtain ⟨t', n', ov'⟩ := r'
        simp only at q1 q2 e1 e2 e3
        have e1' := Nat.eq_of_beq_eq_true e1
        have e2' := Nat.eq_of_beq_eq_true e2
        subst e1' e2' q1 q2
        show (Nat.beq n n' && Nat.beq i i) = true
        rw [e3, Nat.beq_refl]
        rfl
def fCc (env : sE) (k0 kt : Nat) (sg : List sV) (c c' : sC) : Bool := Sum.rec (motive := fun _ => Bool) (fun o => Sum.rec (motive := fun _ => Bool) (fun o' => Bool.rec (motive := fun _ => Bool) false (fSmL env k0 kt sg o.2 o'.2) (Nat.beq o.1 o'.1)) (fun _ => false) c') (fun r => Sum.rec (motive := fun _ => Bool) (fun _ => false) (fun r' => fRow env k0 sg r r') c') c
theorem fCc_ok {env : sE} {k0 kt : Nat} {sg : List sV} (hkt : kt = 16 + 2 * k0) {c c' : sC} (h : fCc env k0 kt sg c c' = true) : sCc env k0 sg c c' = true := by
  rcases c with ⟨ci, fs⟩ | r
  · rcases c' with ⟨cj, fs'⟩ | r'
    · have h1 : Bool.rec (motive := fun _ => Bool) false (fSmL env k0 kt sg fs fs') (Nat.beq ci cj) = true := h
      cases e : Nat.beq ci cj with
      | false => rw [e] at h1; cases h1
      | true =>
        rw [e] at h1
        show (Nat.beq ci cj && sSmL env k0 sg fs fs') = true
        rw [e, fSmL_ok hkt _ _ h1]
        rfl
    · cases h
  · rcases c' with ⟨cj, fs'⟩ | r'
    · cases h
    · exact fRow_ok h
def fCcL (env : sE) (k0 kt : Nat) (sg : List sV) (xs ys : List sC) : Bool := List.rec (motive := fun _ => List sC → Bool) (fun ys => List.rec (motive := fun _ => Bool) true (fun _ _ _ => false) ys) (fun x _ ih ys => List.rec (motive := fun _ => Bool) false (fun y t _ => Bool.rec (motive := fun _ => Bool) false (ih t) (fCc env k0 kt sg x y)) ys) xs ys
theorem fCcL_ok {env : sE} {k0 kt : Nat} {sg : List sV} (hkt : kt = 16 + 2 * k0) : ∀ (xs ys : List sC), fCcL env k0 kt sg xs ys = true → sCcL env k0 sg xs ys = true
  | [], [], _ => rfl
  | [], _ :: _, h => by cases h
  | _ :: _, [], h => by cases h
  | x :: xs, y :: ys, h => by
    have h' : Bool.rec (motive := fun _ => Bool) false (fCcL env k0 kt sg xs ys) (fCc env k0 kt sg x y) = true := h
    cases e : fCc env k0 kt sg x y with
    | false => rw [e] at h'; cases h'
    | true =>
      rw [e] at h'
      simp only [sCcL, Bool.and_eq_true]
      exact ⟨fCc_ok hkt e, fCcL_ok hkt xs ys h'⟩
/-- locals: those asked for are there -/
def sSmV (env : sE) (k0 : Nat) (sg : List sV) (lv : sM) (lv' : sM) : Bool := lv'.all fun q => match sGet lv q.1 with
  | some x => sSm env k0 sg x q.2
  | none => false
theorem sSmV_ok {ρ : List Int} {κ : sCx} {k0 : Nat} {sg : List sV} (hs : sCok ρ κ) (h : sSgO κ k0 sg = true) {ads : List Nat} {ex : Nat → Nat} {ls : Array Slot} {nL : Nat} {lv : sM} {lc : List (Nat × Value)} (hl : lv_has ls nL lc) (hL : sA2 (sRL ρ ads ex) lv lc) : ∀ lv' : sM, sSmV κ.2.1 k0 sg lv lv' = true → ∃ lc', lv_has ls nL lc' ∧ sA2 (sRL (sRz ρ k0 sg) ads ex) lv' lc'
  | [], _ => ⟨[], ⟨hl.1, hl.2.1, fun q h => by cases h⟩, trivial⟩
  | (i, y) :: t, hm => by
    unfold sSmV at hm
    simp only [List.all_cons, Bool.and_eq_true] at hm
    obtain ⟨lc', h1, h2⟩ := sSmV_ok hs h hl hL t hm.2
    have hm1 := hm.1
    split at hm1
    · rename_i x hx
      obtain ⟨k, v, hk, hv⟩ := sGet_ok _ _ hL hx
      refine ⟨(i, v) :: lc', ⟨hl.1, hl.2.1, fun q hq => ?_⟩, ⟨rfl, sSm_ok hs h hm1 hv⟩, h2⟩
      rcases List.mem_cons.mp hq with rfl | hq
      · exact hl.2.2 _ (List.mem_of_getElem? hk)
      · exact h1.2.2 q hq
    · cases hm1
end
