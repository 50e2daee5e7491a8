noncomputable section
/-! ===== covers: facts, states ===== -/
def sPk2 (ρ ρ' : List Int) (a b : sV) : Prop := ∀ m, sEv ρ a = some m → sEv ρ' b = some m
theorem sA2_r0 {α β : Type} {R : α → β → Prop} {as : List α} (h : sA2 R as []) : as = [] := by
  cases as with
  | nil => rfl
  | cons _ _ => exact h.elim
theorem sA2_rc {α β : Type} {R : α → β → Prop} {as : List α} {b : β} {bs : List β} (h : sA2 R as (b :: bs)) : ∃ a as', as = a :: as' ∧ R a b ∧ sA2 R as' bs := by
  cases as with
  | nil => exact h.elim
  | cons a as' => exact ⟨a, as', rfl, h.1, h.2⟩
theorem sPf_rn {ρ ρ' : List Int} {t : Nat} {as bs : List sV} {ps : List Nat} (ha : sA2 (sPk2 ρ ρ') as bs) (h : sPf ρ (t, as, ps)) : sPf ρ' (t, bs, ps) := by
  unfold sPf
  split
  · rename_i a b ps' e
    cases e
    obtain ⟨x, _, rfl, p1, ha⟩ := sA2_rc ha
    obtain ⟨y, _, rfl, p2, ha⟩ := sA2_rc ha
    cases sA2_r0 ha
    obtain ⟨m, n, h1, h2, h3⟩ := h
    exact ⟨m, n, p1 m h1, p2 n h2, h3⟩
  · rename_i a b z ps' e
    cases e
    obtain ⟨x, _, rfl, p1, ha⟩ := sA2_rc ha
    obtain ⟨y, _, rfl, p2, ha⟩ := sA2_rc ha
    obtain ⟨w, _, rfl, p3, ha⟩ := sA2_rc ha
    cases sA2_r0 ha
    obtain ⟨m, n, k, h1, h2, h3, h4⟩ := h
    exact ⟨m, n, k, p1 m h1, p2 n h2, p3 k h3, h4⟩
  · rename_i a b z ps' e
    cases e
    obtain ⟨x, _, rfl, p1, ha⟩ := sA2_rc ha
    obtain ⟨y, _, rfl, p2, ha⟩ := sA2_rc ha
    obtain ⟨w, _, rfl, p3, ha⟩ := sA2_rc ha
    cases sA2_r0 ha
    obtain ⟨m, n, k, h1, h2, h3, h4⟩ := h
    exact ⟨m, n, k, p1 m h1, p2 n h2, p3 k h3, h4⟩
  · rename_i a md r e
    cases e
    obtain ⟨x, _, rfl, p1, ha⟩ := sA2_rc ha
    cases sA2_r0 ha
    obtain ⟨m, q, h1, h2⟩ := h
    exact ⟨m, q, p1 m h1, h2⟩
  · rename_i a b j e
    cases e
    obtain ⟨x, _, rfl, p1, ha⟩ := sA2_rc ha
    obtain ⟨y, _, rfl, p2, ha⟩ := sA2_rc ha
    cases sA2_r0 ha
    obtain ⟨m, n, S, lo, hi, h1, h2, h3⟩ := h
    exact ⟨m, n, S, lo, hi, p1 m h1, p2 n h2, h3⟩
  · trivial
theorem sWf_rn {A : Nat → Nat → Int32} {L : Nat} {sc : Nat → Int32} {ρ ρ' : List Int} {t : Nat} {as bs : List sV} {ps : List Nat} (ha : sA2 (sPk2 ρ ρ') as bs) (h : sWf A L sc ρ (t, as, ps)) : sWf A L sc ρ' (t, bs, ps) := by
  unfold sWf
  split
  · rename_i p e
    cases e
    cases sA2_r0 ha
    exact h
  · rename_i a b p e
    cases e
    obtain ⟨x, _, rfl, p1, ha⟩ := sA2_rc ha
    obtain ⟨y, _, rfl, p2, ha⟩ := sA2_rc ha
    cases sA2_r0 ha
    obtain ⟨m, n, h1, h2, h3⟩ := h
    exact ⟨m, n, p1 m h1, p2 n h2, h3⟩
  · rename_i p e
    cases e
    cases sA2_r0 ha
    exact h
  · rename_i p q e
    cases e
    cases sA2_r0 ha
    exact h
  · rename_i a p e
    cases e
    obtain ⟨x, _, rfl, p1, ha⟩ := sA2_rc ha
    cases sA2_r0 ha
    obtain ⟨m, h1, h2⟩ := h
    exact ⟨m, p1 m h1, h2⟩
  · rename_i a b k e
    cases e
    obtain ⟨x, _, rfl, p1, ha⟩ := sA2_rc ha
    obtain ⟨y, _, rfl, p2, ha⟩ := sA2_rc ha
    cases sA2_r0 ha
    obtain ⟨m, n, h1, h2, h3⟩ := h
    exact ⟨m, n, p1 m h1, p2 n h2, h3⟩
  · rename_i a b ps' e
    cases e
    obtain ⟨x, _, rfl, p1, ha⟩ := sA2_rc ha
    obtain ⟨y, _, rfl, p2, ha⟩ := sA2_rc ha
    cases sA2_r0 ha
    obtain ⟨m, n, h1, h2, h3⟩ := h
    exact ⟨m, n, p1 m h1, p2 n h2, h3⟩
  · rename_i a ps' e
    cases e
    obtain ⟨x, _, rfl, p1, ha⟩ := sA2_rc ha
    cases sA2_r0 ha
    obtain ⟨m, h1, h2⟩ := h
    exact ⟨m, p1 m h1, h2⟩
  · rename_i a b ps' e
    cases e
    obtain ⟨x, _, rfl, p1, ha⟩ := sA2_rc ha
    obtain ⟨y, _, rfl, p2, ha⟩ := sA2_rc ha
    cases sA2_r0 ha
    obtain ⟨m, n, h1, h2, h3⟩ := h
    exact ⟨m, n, p1 m h1, p2 n h2, h3⟩
  · rename_i a ps' e
    cases e
    obtain ⟨x, _, rfl, p1, ha⟩ := sA2_rc ha
    cases sA2_r0 ha
    obtain ⟨m, h1, h2⟩ := h
    exact ⟨m, p1 m h1, h2⟩
  · rename_i a b ps' e
    cases e
    obtain ⟨x, _, rfl, p1, ha⟩ := sA2_rc ha
    obtain ⟨y, _, rfl, p2, ha⟩ := sA2_rc ha
    cases sA2_r0 ha
    obtain ⟨m, n, h1, h2, h3⟩ := h
    exact ⟨m, n, p1 m h1, p2 n h2, h3⟩
  · rename_i a b ps' e
    cases e
    obtain ⟨x, _, rfl, p1, ha⟩ := sA2_rc ha
    obtain ⟨y, _, rfl, p2, ha⟩ := sA2_rc ha
    cases sA2_r0 ha
    obtain ⟨m, n, h1, h2, h3⟩ := h
    exact ⟨m, n, p1 m h1, p2 n h2, h3⟩
  · trivial
def sFm (env : sE) (sg : List sV) : List sV → Option (List sV)
  | [] => some []
  | a :: t => match sSb sg a, sFm env sg t with
    | some a', some r => some (sN env a' :: r)
    | _, _ => none
theorem sFm_ok {ρ : List Int} {κ : sCx} {sg : List sV} (hs : sCok ρ κ) (h : sSgO κ sg = true) : ∀ (bs as : List sV), sFm κ.2.1 sg bs = some as → sA2 (sPk2 ρ (sRz ρ sg)) as bs
  | [], as, hm => by
    cases hm
    trivial
  | b :: t, as, hm => by
    simp only [sFm] at hm
    split at hm
    · rename_i a' r h1 h2
      cases hm
      obtain ⟨q1, -, q3, -⟩ := sSb_ok hs h h1
      exact ⟨fun m hmm => q1.trans (sN_back hs.1 q3 hmm), sFm_ok hs h t r h2⟩
    · cases hm
def sEnF (κ : sCx) (sg : List sV) (f : sFc) : Bool := match sFm κ.2.1 sg f.2.1 with
  | some as => sEn0 κ.1 κ.2.1 κ.2.2 (f.1, as, f.2.2)
  | none => false
theorem sEnF_ok {ρ : List Int} {κ : sCx} {sg : List sV} (hs : sCok ρ κ) (h : sSgO κ sg = true) {f : sFc} (hf : sEnF κ sg f = true) : sPf (sRz ρ sg) f := by
  unfold sEnF at hf
  split at hf
  · rename_i as ha
    exact sPf_rn (sFm_ok hs h _ _ ha) (sEn0_ok hs.1 hs.2 hf)
  · cases hf
def sVeL : List sV → List sV → Bool
  | [], [] => true
  | x :: xs, y :: ys => sVe x y && sVeL xs ys
  | _, _ => false
theorem sVeL_eq : ∀ {xs ys : List sV}, sVeL xs ys = true → xs = ys
  | [], [], _ => rfl
  | x :: xs, y :: ys, h => by
    simp only [sVeL, Bool.and_eq_true] at h
    rw [sVe_eq h.1, sVeL_eq h.2]
  | [], _ :: _, h => by cases h
  | _ :: _, [], h => by cases h
def sJ7 (env : sE) (f : sFc) : Bool := match f with
  | (19, [j], _) => sVe (sN env j) (0, 700)
  | _ => false
def sU7 (env : sE) (n : sV) (f : sFc) : Bool := match f with
  | (16, [_, n'], _) => sVe (sN env n') n
  | _ => false
/-- facts that hold of themselves, or out of others -/
def sEnZ (κ : sCx) (G : List sFc) (t : Nat) (as : List sV) : Bool := match t, as with
  | 16, [d, n] => sVe d (0, 0) && sVe n (0, 0)
  | 17, [n] => sVe n (0, 0) || (sHiLt κ.2.1 n 701 && (G.any (sJ7 κ.2.1) && G.any (sU7 κ.2.1 n)))
  | 18, [i, e] => sVe i (0, 0) && sVe e (0, 0)
  | 19, [j] => sVe j (0, 0)
  | _, _ => false
theorem sEnZ_ok {A : Nat → Nat → Int32} {L : Nat} {sc : Nat → Int32} {ρ : List Int} {κ : sCx} {G : List sFc} (hs : sCok ρ κ) (hG : ∀ f ∈ G, sWf A L sc ρ f) {t : Nat} {as : List sV} {ps : List Nat} (h : sEnZ κ G t as = true) : sWf A L sc ρ (t, as, ps) := by
  unfold sEnZ at h
  split at h
  · simp only [Bool.and_eq_true] at h
    rw [sVe_eq h.1, sVe_eq h.2]
    exact ⟨0, 0, rfl, rfl, Int.le_refl _, Int.le_refl _, rfl⟩
  · rename_i n
    rw [Bool.or_eq_true] at h
    rcases h with h | h
    · rw [sVe_eq h]
      exact ⟨0, rfl, Int.le_refl _, by decide, by simp [sRp]⟩
    · simp only [Bool.and_eq_true] at h
      obtain ⟨h1, h2, h3⟩ := h
      obtain ⟨fj, hfj, h2⟩ := List.any_eq_true.mp h2
      obtain ⟨fu, hfu, h3⟩ := List.any_eq_true.mp h3
      have wj := hG fj hfj
      have wu := hG fu hfu
      unfold sJ7 at h2
      unfold sU7 at h3
      split at h2
      · rename_i j psj
        split at h3
        · rename_i d n' psu
          obtain ⟨mj, e1, e2, e3, e4⟩ := wj
          obtain ⟨md, k, g1, g2, g3, g4, g5⟩ := wu
          have q1 := sN_ev hs.1 e1
          rw [sVe_eq h2] at q1
          have q1' : (700 : Int) = mj := Option.some.inj q1
          have q2 := sN_ev hs.1 g2
          rw [sVe_eq h3] at q2
          have hlt := sHiLt_ok hs.1 q2 h1
          refine ⟨k, q2, g4, by omega, ?_⟩
          have e5 : sRp (A sSg) 0 k.toNat = sRp (A sSg) 700 k.toNat := sRp_eq _ (fun i hi => by
            rw [Nat.zero_add]
            exact e4 i (by omega))
          rw [e5, g5]
          intro q
          cases q
        · cases h3
      · cases h2
  · simp only [Bool.and_eq_true] at h
    rw [sVe_eq h.1, sVe_eq h.2]
    exact ⟨0, 0, rfl, rfl, Int.le_refl _, Int.le_refl _, rfl⟩
  · rw [sVe_eq h]
    exact ⟨0, rfl, Int.le_refl _, by decide, fun i hi => absurd hi (Nat.not_lt_zero i)⟩
  · cases h
def sGq (env : sE) (t : Nat) (as : List sV) (ps : List Nat) (g : sFc) : Bool := Nat.beq g.1 t && (decide (g.2.2 = ps) && sVeL (g.2.1.map (sN env)) as)
def sEnG (κ : sCx) (G : List sFc) (sg : List sV) (f : sFc) : Bool := match sFm κ.2.1 sg f.2.1 with
  | some as => G.any (sGq κ.2.1 f.1 as f.2.2) || sEnZ κ G f.1 as
  | none => false
theorem sNl_ok {ρ : List Int} {κ : sCx} (hs : sCok ρ κ) : ∀ as : List sV, sA2 (sPk2 ρ ρ) as (as.map (sN κ.2.1))
  | [] => trivial
  | _ :: t => ⟨fun _ h => sN_ev hs.1 h, sNl_ok hs t⟩
theorem sEnG_ok {A : Nat → Nat → Int32} {L : Nat} {sc : Nat → Int32} {ρ : List Int} {κ : sCx} {G : List sFc} {sg : List sV} (hs : sCok ρ κ) (h : sSgO κ sg = true) (hG : ∀ f ∈ G, sWf A L sc ρ f) {f : sFc} (hf : sEnG κ G sg f = true) : sWf A L sc (sRz ρ sg) f := by
  unfold sEnG at hf
  split at hf
  · rename_i as ha
    refine sWf_rn (sFm_ok hs h _ _ ha) ?_
    rw [Bool.or_eq_true] at hf
    rcases hf with hf | hf
    · obtain ⟨g, hg, h1⟩ := List.any_eq_true.mp hf
      simp only [sGq, Bool.and_eq_true, decide_eq_true_eq] at h1
      obtain ⟨e1, e2, e3⟩ := h1
      have hw := sWf_rn (as := g.2.1) (sNl_ok hs g.2.1) (hG g hg)
      rw [sVeL_eq e3, Nat.eq_of_beq_eq_true e1, e2] at hw
      exact hw
    · exact sEnZ_ok hs hG hf
  · cases hf
def sLe0 (c : Option Int) (b : Int) : Bool := match c with
  | some z => decide (z ≤ b)
  | none => false
def sEnB (κ : sCx) (sg : List sV) (q : Nat × Int × Int) : Bool := match fAt sg q.1 with
  | some y => (match sRg κ.2.1 y with
    | some (a, b) => decide (q.2.1 ≤ a) && (decide (b ≤ q.2.2) || sLe0 (sUb κ.2.1 κ.2.2 2 y) q.2.2)
    | none => false)
  | none => false
/-- the whole state -/
def sCov (κ : sCx) (G : List sFc) (wd : List sC) (κc : sCx) (Gc : List sFc) (wdc : List sC) (sg : List sV) : Bool := Nat.beq sg.length κc.1 && (sCcL κ.2.1 sg wd wdc && (sSgO κ sg && (Gc.all (sEnG κ G sg) && (κc.2.1.all (sEnB κ sg) && κc.2.2.all (sEnF κ sg)))))
theorem sCov_ok {L : Nat} {sc : Nat → Int32} {ρ : List Int} {ex : Nat → Nat} {g : sG} {ws : va_W} {κ κc : sCx} {G Gc : List sFc} {wd wdc : List sC} {sg : List sV} (hs : sCok ρ κ) (hG : ∀ f ∈ G, sWf (sAc ws) L sc ρ f) (hrw : sRW ρ ex g wd ws) (h : sCov κ G wd κc Gc wdc sg = true) : sSgO κ sg = true ∧ sCok (sRz ρ sg) κc ∧ (∀ f ∈ Gc, sWf (sAc ws) L sc (sRz ρ sg) f) ∧ sRW (sRz ρ sg) ex g wdc ws := by
  simp only [sCov, Bool.and_eq_true] at h
  obtain ⟨h1, h6, h2, h5, h3, h4⟩ := h
  refine ⟨h2, ⟨⟨by rw [sRz, List.length_map]; exact Nat.eq_of_beq_eq_true h1, fun y hy => ?_, fun q hq => ?_⟩, fun f hf => sEnF_ok hs h2 (List.all_eq_true.mp h4 f hf)⟩, fun f hf => sEnG_ok hs h2 hG (List.all_eq_true.mp h5 f hf), sCcL_ok hs h2 _ _ _ h6 hrw⟩
  · obtain ⟨i, hi⟩ := List.mem_iff_getElem?.mp hy
    have hl : i < sg.length := by
      have := (List.getElem?_eq_some_iff.mp hi).1
      rw [sRz, List.length_map] at this
      exact this
    obtain ⟨-, n, -, hI, h0⟩ := sSgO_at hs h2 (List.getElem?_eq_getElem hl)
    rw [hi] at h0
    cases h0
    exact hI
  · have h7 := List.all_eq_true.mp h3 q hq
    unfold sEnB at h7
    rw [fAt_eq] at h7
    split at h7
    · rename_i y hy
      obtain ⟨-, n, hn, hI, h0⟩ := sSgO_at hs h2 hy
      split at h7
      · rename_i a b hr
        obtain ⟨p1, p2, -⟩ := sRg_ev hs.1 hn hr
        simp only [Bool.and_eq_true, Bool.or_eq_true, decide_eq_true_eq] at h7
        refine ⟨n, h0, by omega, ?_⟩
        rcases h7.2 with h8 | h8
        · omega
        · unfold sLe0 at h8
          split at h8
          · rename_i z hz
            have := sUb_ok hs.1 hs.2 2 hn hz
            simp only [decide_eq_true_eq] at h8
            omega
          · cases h8
      · cases h7
    · cases h7
/-- the first numbers stay as they are -/
def sIdn : Nat → Nat → List sV → Bool
  | _, 0, _ => true
  | i, n + 1, y :: t => sVe y (16 + 2 * i, 0) && sIdn (i + 1) n t
  | _, _ + 1, [] => false
theorem sIdn_at : ∀ (n i : Nat) (sg : List sV), sIdn i n sg = true → ∀ k, k < n → sg[k]? = some (16 + 2 * (i + k), 0)
  | 0, _, _, _, k, hk => by omega
  | n + 1, i, [], h, _, _ => by cases h
  | n + 1, i, y :: t, h, k, hk => by
    simp only [sIdn, Bool.and_eq_true] at h
    cases k with
    | zero => rw [sVe_eq h.1]; rfl
    | succ k =>
      have := sIdn_at n (i + 1) t h.2 k (by omega)
      rw [List.getElem?_cons_succ, this, show i + 1 + k = i + (k + 1) by omega]
theorem sIdn_pre {ρ0 ρ : List Int} {sg : List sV} (hp : ρ0 <+: ρ) (h : sIdn 0 ρ0.length sg = true) : ρ0 <+: sRz ρ sg := by
  rw [List.prefix_iff_eq_take]
  apply List.ext_getElem?
  intro k
  by_cases hk : k < ρ0.length
  · rw [List.getElem?_take_of_lt hk]
    have h1 := sIdn_at _ _ _ h k hk
    rw [sRz, List.getElem?_map, h1]
    have h2 := sGetP hp (List.getElem?_eq_getElem hk)
    rw [List.getElem?_eq_getElem hk]
    show some _ = some ((sEv ρ (16 + 2 * (0 + k), 0)).getD 0)
    rw [sEv_gen ⟨by omega, by omega⟩, if_pos (by omega), show (16 + 2 * (0 + k) - 16) / 2 = k by omega, h2]
    show some _ = some (_ + 0)
    rw [Int.add_zero]
  · rw [List.getElem?_eq_none (by omega), List.getElem?_eq_none (by rw [List.length_take]; omega)]
end
