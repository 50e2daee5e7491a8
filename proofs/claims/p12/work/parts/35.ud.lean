noncomputable section
/-! ===== a callee's ends in the caller's numbers ===== -/
def sRn (k0 nx : Nat) (sg : List sV) (x : sV) : sV := if x.1 < 16 then x else if (x.1 - 16) / 2 < k0 then (match fAt sg ((x.1 - 16) / 2) with
  | some y => if x.1 % 2 = 0 then (y.1, y.2 + x.2) else (y.1 + 1, y.2 + x.2)
  | none => x) else (x.1 - 2 * k0 + 2 * nx, x.2)
theorem sRn_low {k0 nx : Nat} {sg : List sV} {x : sV} (h : x.1 < 16) : sRn k0 nx sg x = x := by
  unfold sRn
  rw [if_pos h]
theorem sRz_len (ρ : List Int) (sg : List sV) : (sRz ρ 0 sg).length = sg.length := by
  unfold sRz
  rw [List.take_zero, List.nil_append, List.length_map]
theorem sRn_ok {ρ δ : List Int} {κ : sCx} {sg : List sV} (hs : sCok ρ κ) (h : sSgO κ 0 sg = true) (x : sV) (h16 : 16 ≤ x.1) {m : Int} (hm : sEv (sRz ρ 0 sg ++ δ) x = some m) : sEv (ρ ++ δ) (sRn sg.length κ.1 sg x) = some m ∧ sK (sRn sg.length κ.1 sg x) = sK x := by
  obtain ⟨t, c⟩ := x
  simp only at h16
  rw [sEv_gen ⟨by omega, by omega⟩, if_pos h16] at hm
  obtain ⟨u, hu, rfl⟩ := Option.map_eq_some_iff.mp hm
  have k0 : sK (t, c) = t % 2 := by rw [sK_gen ⟨by omega, by omega, by omega, by omega, by omega⟩, if_pos h16]
  unfold sRn
  rw [if_neg (by show ¬ t < 16; omega)]
  simp only
  by_cases hj : (t - 16) / 2 < sg.length
  · rw [if_pos hj]
    have hy := List.getElem?_eq_getElem hj
    obtain ⟨hk, n, hn, hI, h0⟩ := sSgO_at hs h hy
    rw [Nat.zero_add] at h0
    rw [fAt_eq, hy]
    simp only
    rw [List.getElem?_append_left (by rw [sRz_len]; exact hj), h0] at hu
    cases hu
    generalize sg[(t - 16) / 2] = y at *
    split
    · rename_i he
      refine ⟨sEv_mono (List.prefix_append _ _) (sEv_add hn c), ?_⟩
      rw [k0, he]
      obtain ⟨ty, zy⟩ := y
      by_cases hy16 : 16 ≤ ty
      · exact (sOff hk hy16 hn c).2
      · rcases sTag ty with rfl | rfl | rfl | rfl | rfl | ht
        · rfl
        · simp [sK] at hk
        · simp [sK] at hk
        · simp [sK] at hk
        · simp [sK] at hk
        · rw [sK_gen ht, if_neg hy16] at hk
          omega
    · rename_i he
      obtain ⟨e1, e2⟩ := sEv_long hk hn c
      refine ⟨sEv_mono (List.prefix_append _ _) e1, ?_⟩
      rw [k0, e2]
      omega
  · rw [if_neg hj]
    have hl := hs.1.1
    have hj' : sg.length ≤ (t - 16) / 2 := by omega
    rw [List.getElem?_append_right (by rw [sRz_len]; omega), sRz_len] at hu
    refine ⟨?_, ?_⟩
    · rw [sEv_gen ⟨by omega, by omega⟩, if_pos (by omega), List.getElem?_append_right (by omega)]
      have e : (t - 2 * sg.length + 2 * κ.1 - 16) / 2 - ρ.length = (t - 16) / 2 - sg.length := by omega
      rw [e, hu]
      rfl
    · rw [k0, sK_gen ⟨by omega, by omega, by omega, by omega, by omega⟩, if_pos (by omega)]
      omega
theorem sRn_rep {ρ δ : List Int} {κ : sCx} {sg : List sV} (hs : sCok ρ κ) (h : sSgO κ 0 sg = true) {ads : List Nat} {ex : Nat → Nat} {x : sV} {v : Value} (hr : sRep (sRz ρ 0 sg ++ δ) ads ex x v) : sRep (ρ ++ δ) ads ex (sRn sg.length κ.1 sg x) v := by
  by_cases h16 : 16 ≤ x.1
  · have hkx : sK x = 0 ∨ sK x = 1 := by
      obtain ⟨t, c⟩ := x
      rw [sK_gen ⟨by simp only at h16; omega, by simp only at h16; omega, by simp only at h16; omega, by simp only at h16; omega, by simp only at h16; omega⟩, if_pos h16]
      omega
    rcases hkx with hk | hk
    · obtain ⟨n, rfl, hn⟩ := sRep_int hr hk
      obtain ⟨e1, e2⟩ := sRn_ok hs h x h16 hn
      exact sRep_of_int (e2.trans hk) e1
    · obtain ⟨n, rfl, hn⟩ := sRep_long hr hk
      obtain ⟨e1, e2⟩ := sRn_ok hs h x h16 hn
      exact sRep_of_long (e2.trans hk) e1
  · rw [sRn_low (by omega)]
    exact sRep_low (by omega) hr
theorem sRn_pk {ρ δ : List Int} {κ : sCx} {sg : List sV} (hs : sCok ρ κ) (h : sSgO κ 0 sg = true) (x : sV) : sPk2 (sRz ρ 0 sg ++ δ) (ρ ++ δ) x (sRn sg.length κ.1 sg x) := by
  intro m hm
  by_cases h16 : 16 ≤ x.1
  · exact (sRn_ok hs h x h16 hm).1
  · rw [sRn_low (by omega)]
    obtain ⟨t, c⟩ := x
    simp only at h16
    by_cases h0 : t = 0
    · subst h0; exact hm
    · by_cases h1 : t = 1
      · subst h1; exact hm
      · rw [sEv_gen ⟨h0, h1⟩, if_neg h16] at hm
        cases hm
def sRnF (k0 nx : Nat) (sg : List sV) (f : sFc) : sFc := (f.1, f.2.1.map (sRn k0 nx sg), f.2.2)
theorem sRn_pkL {ρ δ : List Int} {κ : sCx} {sg : List sV} (hs : sCok ρ κ) (h : sSgO κ 0 sg = true) : ∀ as : List sV, sA2 (sPk2 (sRz ρ 0 sg ++ δ) (ρ ++ δ)) as (as.map (sRn sg.length κ.1 sg))
  | [] => trivial
  | a :: t => ⟨sRn_pk hs h a, sRn_pkL hs h t⟩
theorem sRn_repL {ρ δ : List Int} {κ : sCx} {sg : List sV} (hs : sCok ρ κ) (h : sSgO κ 0 sg = true) {ads : List Nat} {ex : Nat → Nat} : ∀ (xs : List sV) (vs : List Value), sA2 (sRep (sRz ρ 0 sg ++ δ) ads ex) xs vs → sA2 (sRep (ρ ++ δ) ads ex) (xs.map (sRn sg.length κ.1 sg)) vs
  | [], [], _ => trivial
  | x :: xs, v :: vs, ⟨h1, h2⟩ => ⟨sRn_rep hs h h1, sRn_repL hs h xs vs h2⟩
  | [], _ :: _, q => q.elim
  | _ :: _, [], q => q.elim
def sRnC (k0 nx : Nat) (sg : List sV) (c : sC) : sC := match c with
  | .inl (ci, fs) => .inl (ci, fs.map (sRn k0 nx sg))
  | .inr (0, n, ov) => .inr (0, n, ov.map fun q => (q.1, sRn k0 nx sg q.2))
  | .inr (1, n, ov) => .inr (1, n, ov.map fun q => (q.1, sRn k0 nx sg q.2))
  | .inr (2, n, ov) => .inr (2, n, ov.map fun q => (q.1, sRn k0 nx sg q.2))
  | .inr (3, n, ov) => .inr (3, n, ov.map fun q => (q.1, sRn k0 nx sg q.2))
  | c => c
theorem sLook_map {k0 nx : Nat} {sg : List sV} {d : sV} (hd : d.1 < 16) (j : Nat) : ∀ ov : List (Nat × sV), sLook d (ov.map fun q => (q.1, sRn k0 nx sg q.2)) j = sRn k0 nx sg (sLook d ov j)
  | [] => by
    simp only [List.map_nil, sLook]
    rw [sRn_low hd]
  | (i, x) :: t => by
    simp only [List.map_cons, sLook]
    split
    · rfl
    · exact sLook_map hd j t
theorem sRnC_ok {ρ δ : List Int} {κ : sCx} {sg : List sV} (hs : sCok ρ κ) (h : sSgO κ 0 sg = true) {ads : List Nat} {ex : Nat → Nat} {g : sG} {c : sC} {e : va_E} (hr : sRepC (sRz ρ 0 sg ++ δ) ads ex g c e) : sRepC (ρ ++ δ) ads ex g (sRnC sg.length κ.1 sg c) e := by
  unfold sRepC at hr
  split at hr
  · exact ⟨hr.1, sRn_repL hs h _ _ hr.2⟩
  · exact ⟨hr.1, hr.2.1, fun j hj => by rw [sLook_map (by decide)]; exact sRn_rep hs h (hr.2.2 j hj)⟩
  · exact ⟨hr.1, hr.2.1, fun j hj => by rw [sLook_map (by decide)]; exact sRn_rep hs h (hr.2.2 j hj)⟩
  · exact ⟨hr.1, hr.2.1, fun j hj => by rw [sLook_map (by decide)]; exact sRn_rep hs h (hr.2.2 j hj)⟩
  · exact ⟨hr.1, hr.2.1, fun j hj => by rw [sLook_map (by decide)]; exact sRn_rep hs h (hr.2.2 j hj)⟩
  · exact hr
  · exact hr
  · exact hr
  · exact hr.elim
theorem sRnCL_ok {ρ δ : List Int} {κ : sCx} {sg : List sV} (hs : sCok ρ κ) (h : sSgO κ 0 sg = true) {ads : List Nat} {ex : Nat → Nat} {g : sG} : ∀ (xs : List sC) (ws : va_W), sA2 (fun (c : sC) (q : Nat × va_E) => sRepC (sRz ρ 0 sg ++ δ) ads ex g c q.2) xs ws → sA2 (fun (c : sC) (q : Nat × va_E) => sRepC (ρ ++ δ) ads ex g c q.2) (xs.map (sRnC sg.length κ.1 sg)) ws
  | [], [], _ => trivial
  | x :: xs, v :: vs, ⟨h1, h2⟩ => ⟨sRnC_ok hs h h1, sRnCL_ok hs h xs vs h2⟩
  | [], _ :: _, q => q.elim
  | _ :: _, [], q => q.elim
def sRnE (k0 nx : Nat) (sg : List sV) : sE → sE → Option sE
  | [], acc => some acc
  | (j, lo, hi) :: t, acc => if sMk (j, lo, hi) = true then sRnE k0 nx sg t acc else if j < k0 then (match fAt sg j with
      | some y => if 16 ≤ y.1 then (match sBnd acc ((y.1 - 16) / 2) with
          | (a, b) => if lo - y.2 ≤ a ∧ b ≤ hi - y.2 then sRnE k0 nx sg t acc else if sMx2 (lo - y.2) a ≤ sMn2 (hi - y.2) b then sRnE k0 nx sg t (((y.1 - 16) / 2, sMx2 (lo - y.2) a, sMn2 (hi - y.2) b) :: acc) else none)
        else if lo ≤ y.2 ∧ y.2 ≤ hi then sRnE k0 nx sg t acc else none
      | none => sRnE k0 nx sg t acc)
    else sRnE k0 nx sg t ((j - k0 + nx, lo, hi) :: acc)
theorem sRnE_ok {ρ δ : List Int} {κ : sCx} {sg : List sV} (hs : sCok ρ κ) (h : sSgO κ 0 sg = true) {N : Nat} : ∀ (es acc : sE), (∀ q ∈ es, sQe (sRz ρ 0 sg ++ δ) q) → sOk (ρ ++ δ) N acc → ∃ acc', sRnE sg.length κ.1 sg es acc = some acc' ∧ sOk (ρ ++ δ) N acc'
  | [], acc, _, ha => ⟨acc, rfl, ha⟩
  | (j, lo, hi) :: t, acc, he, ha => by
    have hq0 := he _ List.mem_cons_self
    have ht : ∀ q ∈ t, sQe (sRz ρ 0 sg ++ δ) q := fun q hq => he q (List.mem_cons_of_mem _ hq)
    unfold sRnE
    by_cases hmk : sMk (j, lo, hi) = true
    · rw [if_pos hmk]
      exact sRnE_ok hs h t acc ht ha
    rw [if_neg hmk]
    unfold sQe at hq0
    rw [if_neg (fun q0 => hmk (sMk_iff.mpr q0))] at hq0
    obtain ⟨u, hu, u1, u2⟩ := hq0
    simp only at hu u1 u2
    by_cases hj : j < sg.length
    · rw [if_pos hj]
      have hy := List.getElem?_eq_getElem hj
      obtain ⟨hk, n, hn, hI, h0⟩ := sSgO_at hs h hy
      rw [Nat.zero_add] at h0
      rw [fAt_eq, hy]
      simp only
      rw [List.getElem?_append_left (by rw [sRz_len]; exact hj), h0] at hu
      cases hu
      generalize sg[j] = y at *
      obtain ⟨ty, zy⟩ := y
      simp only
      by_cases h16 : 16 ≤ ty
      · rw [if_pos h16]
        rw [sEv_gen ⟨by omega, by omega⟩, if_pos h16] at hn
        obtain ⟨w, hw, rfl⟩ := Option.map_eq_some_iff.mp hn
        have hw' := sGetP (List.prefix_append ρ δ) hw
        obtain ⟨b1, b2⟩ := sBnd_ok (ha.2.1 w (List.mem_of_getElem? hw')) hw' acc ha.2.2
        split
        · exact sRnE_ok hs h t acc ht ha
        · split
          · refine sRnE_ok hs h t _ ht (sOk_cons ha hw' ?_ ?_)
            · rw [sMx2_eq]; split <;> omega
            · rw [sMn2_eq]; split <;> omega
          · rename_i hc
            exfalso
            apply hc
            rw [sMx2_eq, sMn2_eq]
            split <;> split <;> omega
      · rw [if_neg h16]
        have e0 : ty = 0 := by
          rcases sTag ty with rfl | rfl | rfl | rfl | rfl | ht
          · rfl
          · simp [sK] at hk
          · simp [sK] at hk
          · simp [sK] at hk
          · simp [sK] at hk
          · rw [sK_gen ht, if_neg h16] at hk
            omega
        subst e0
        simp only [sEv, Option.some.injEq] at hn
        subst hn
        rw [if_pos ⟨u1, u2⟩]
        exact sRnE_ok hs h t acc ht ha
    · rw [if_neg hj]
      have hl := hs.1.1
      rw [List.getElem?_append_right (by rw [sRz_len]; omega), sRz_len] at hu
      refine sRnE_ok hs h t _ ht (sOk_cons ha ?_ u1 u2)
      rw [List.getElem?_append_right (by omega), show j - sg.length + κ.1 - ρ.length = j - sg.length by omega]
      exact hu
/-- a fact that can't be: the end isn't one -/
def sDd (env : sE) (F : List sFc) (f : sFc) : Bool := match f with
  | (0, [a, b], _) => sNn ((sDm env F 2 b a).map fun c => c - 1)
  | _ => false
def sNo70 (G : List sFc) : List sFc := G.filter fun f => !(Nat.beq f.1 70)
/-- the rows that are as they were -/
def sMof : List sFc → Nat
  | [] => 0
  | (70, [], [m]) :: _ => m
  | _ :: t => sMof t
def sB1 (m k : Nat) : Bool := Nat.blt k 128 && Nat.beq (Nat.land (Nat.shiftRight m k) 1) 1
theorem sB1_ok {m k : Nat} (h : sB1 m k = true) : k < 128 ∧ m.testBit k = true := by
  unfold sB1 at h
  rw [Bool.and_eq_true] at h
  refine ⟨Nat.le_of_ble_eq_true h.1, ?_⟩
  have e : (m >>> k) &&& 1 = 1 := Nat.eq_of_beq_eq_true h.2
  unfold Nat.testBit
  rw [Nat.and_comm] at e
  rw [e]
  rfl
/-- what speaks of such rows alone stays -/
def sFrm (m : Nat) (f : sFc) : Bool := (Nat.beq f.1 80 || (Nat.beq f.1 62 || (Nat.beq f.1 65 || (Nat.beq f.1 66 || (Nat.beq f.1 67 || (Nat.beq f.1 68 || (Nat.beq f.1 15 && !(f.2.2.any fun r => Nat.beq r 1 || (Nat.beq r 99 || (Nat.beq r 105 || Nat.beq r 109)))))))))) && (sCl f).all (sB1 m)
def sRn1 (m : Nat) (f : sFc) : List sFc := if (Nat.beq f.1 21 || Nat.beq f.1 60) = true then [f] else if Nat.beq f.1 70 = true then [(70, f.2.1, f.2.2.map fun x => Nat.land x m)] else if sFrm m f = true then [f] else []
def sRnG (m : Nat) (G : List sFc) : List sFc := G.flatMap (sRn1 m)
theorem sX_to {b L : Nat} {xs xs' : Nat → Int32} {U : State} {H : Heap} (h : va_X b L xs U H) (hq : ∀ j, j < L → xs' j = xs j) : va_X b L xs' U H := by
  obtain ⟨scr, h1, h2, h3, h4, h5⟩ := h
  exact ⟨scr, h1, h2, h3, h4, fun j hj => by rw [hq j hj]; exact h5 j hj⟩
theorem sCtx_sc {sc sc' : Nat → Int32} {L : Nat} {ex : Nat → Nat} {g : sG} {n0 : Nat} {U : State} (h : sCtx sc L ex g n0 U) (hq : ∀ j, j < L → sc' j = sc j) : sCtx sc' L ex g n0 U := by
  obtain ⟨h1, h2, h3, h4, h5, h6, h7, h8, h9⟩ := h
  exact ⟨h1, h2, h3, h4, h5, h6, h7, sX_to h8 hq, h9⟩
theorem gT_sc {L : Nat} {sc sc' : Nat → Int32} (h : ∀ i, i ≤ L + 700 → sc' i = sc i) : gT L sc' = gT L sc := by
  funext j
  unfold gT
  split
  · rw [h (L + j) (by omega)]
  · rfl
theorem gN_sc {L : Nat} {sc sc' : Nat → Int32} (h : ∀ i, i ≤ L + 700 → sc' i = sc i) : gN L sc' = gN L sc := by
  unfold gN
  rw [h (L + 700) (Nat.le_refl _)]
theorem gQ1_sc {L : Nat} {sc sc' : Nat → Int32} (h : ∀ i, i ≤ L + 700 → sc' i = sc i) {ps : List Nat} {zs : List Int} (hq : gQ1 L sc ps zs) : gQ1 L sc' ps zs := by
  unfold gQ1 at hq ⊢
  rw [gT_sc h, gN_sc h]
  exact hq
/-- what lies behind the ghost text is no fact's business but of those on what stood at the entry -/
theorem sWf_sc {A : Nat → Nat → Int32} {L : Nat} {sc sc' : Nat → Int32} {ρ : List Int} {f : sFc} (h0 : ∀ i, i ≤ L + 700 → sc' i = sc i) (hf : Nat.beq f.1 70 = false) (h : sWf A L sc ρ f) : sWf A L sc' ρ f := by
  unfold sWf at h ⊢
  split at h
  · exact h
  · exact h
  · exact h
  · exact h
  · exact h
  · exact h
  · exact h
  · exact h
  · exact h
  · exact h
  · exact h
  · obtain ⟨m, n, h1, h2, h3, h4, h5⟩ := h
    exact ⟨m, n, h1, h2, h3, h4, by rw [h0 _ (by omega)]; exact h5⟩
  · obtain ⟨zs, h1, h2⟩ := h
    exact ⟨zs, h1, gQ1_sc h0 h2⟩
  · obtain ⟨z, h1, h2⟩ := h
    exact ⟨z, h1, by rw [gT_sc h0]; exact h2⟩
  · obtain ⟨z, h1, h2, h3⟩ := h
    exact ⟨z, h1, h2, by rw [gT_sc h0, gN_sc h0]; exact h3⟩
  · obtain ⟨x, y, h1, h2, h3⟩ := h
    exact ⟨x, y, h1, h2, by rw [gT_sc h0]; exact h3⟩
  · exact h
  · exact h
  · exact h
  · exact h
  · obtain ⟨zs, h1, h2⟩ := h
    refine ⟨zs, h1, ?_⟩
    unfold gA9 at h2 ⊢
    rw [gT_sc h0, gN_sc h0]
    exact h2
  · cases hf
  · trivial
/-- the callee's ghost: what stands in the rows as it begins -/
def gFs (L : Nat) (sc : Nat → Int32) (A : Nat → Nat → Int32) (i : Nat) : Int32 := if i < L + 701 then sc i else A ((i - (L + 701)) % 128) ((i - (L + 701)) / 128)
theorem gFs_lo {L : Nat} {sc : Nat → Int32} {A : Nat → Nat → Int32} {i : Nat} (h : i ≤ L + 700) : gFs L sc A i = sc i := by
  unfold gFs
  rw [if_pos (by omega)]
theorem gFs_hi {L : Nat} {sc : Nat → Int32} {A : Nat → Nat → Int32} {k j : Nat} (h : k < 128) : gFs L sc A (L + 701 + (128 * j + k)) = A k j := by
  unfold gFs
  rw [if_neg (by omega), show (L + 701 + (128 * j + k) - (L + 701)) % 128 = k by omega, show (L + 701 + (128 * j + k) - (L + 701)) / 128 = j by omega]
theorem sNo70_mem {G : List sFc} {f : sFc} (h : f ∈ sNo70 G) : f ∈ G ∧ Nat.beq f.1 70 = false := by
  obtain ⟨h1, h2⟩ := List.mem_filter.mp h
  refine ⟨h1, ?_⟩
  cases e : Nat.beq f.1 70 with
  | false => rfl
  | true => rw [e] at h2; cases h2
/-- at a callee's entry its rows are as they are -/
theorem sEnt70 {A : Nat → Nat → Int32} {L : Nat} {sc : Nat → Int32} {ρ : List Int} {Gc : List sFc} (h : ∀ f ∈ sNo70 Gc, sWf A L sc ρ f) : ∀ f ∈ Gc, sWf A L (gFs L sc A) ρ f := by
  intro f hf
  cases e : Nat.beq f.1 70 with
  | false => exact sWf_sc (fun i hi => gFs_lo hi) e (h f (List.mem_filter.mpr ⟨hf, by rw [e]; rfl⟩))
  | true =>
    obtain ⟨t, as, ps⟩ := f
    have e1 : t = 70 := Nat.eq_of_beq_eq_true e
    subst e1
    cases as with
    | cons a as => trivial
    | nil =>
      cases ps with
      | nil => trivial
      | cons m ps =>
        cases ps with
        | cons m' ps => trivial
        | nil =>
          intro k hk hb j
          rw [gFs_hi hk]
/-- the rows that a callee left as they were -/
theorem sMof_ok {A A0 : Nat → Nat → Int32} {L : Nat} {sc : Nat → Int32} {ρ : List Int} : ∀ Go : List sFc, (∀ f ∈ Go, sWf A L (gFs L sc A0) ρ f) → ∀ k, k < 128 → (sMof Go).testBit k = true → A k = A0 k
  | [], _, k, _, hb => by
    unfold sMof at hb
    rw [Nat.zero_testBit] at hb
    cases hb
  | f :: t, hG, k, hk, hb => by
    unfold sMof at hb
    split at hb
    · rename_i e
      cases e
    · rename_i m t' e
      cases e
      have hw := hG _ List.mem_cons_self
      funext j
      have h1 : A k j = gFs L sc A0 (L + 701 + (128 * j + k)) := hw k hk hb j
      rw [h1, gFs_hi hk]
    · rename_i e
      cases e
      exact sMof_ok t (fun f hf => hG f (List.mem_cons_of_mem _ hf)) k hk hb
def sRnO (κ : sCx) (G : List sFc) (sg : List sV) (o : sOc) : Option sOc := match sRnE sg.length κ.1 sg o.2.1.2.1 κ.2.1 with
  | none => none
  | some env => if (o.2.1.2.2.map (sRnF sg.length κ.1 sg) ++ κ.2.2).any (sDd env (o.2.1.2.2.map (sRnF sg.length κ.1 sg) ++ κ.2.2)) = true then none else some (o.1, (κ.1 + (o.2.1.1 - sg.length), env, o.2.1.2.2.map (sRnF sg.length κ.1 sg) ++ κ.2.2), sRnG (sMof o.2.2.1) G ++ (sNo70 o.2.2.1).map (sRnF sg.length κ.1 sg), o.2.2.2.1.map (sRnC sg.length κ.1 sg), o.2.2.2.2.1.map (sRn sg.length κ.1 sg), o.2.2.2.2.2)
theorem sWf21 {A A' : Nat → Nat → Int32} {L : Nat} {sc : Nat → Int32} {ρ : List Int} {f : sFc} (h21 : f.1 = 21 ∨ f.1 = 60) (h : sWf A L sc ρ f) : sWf A' L sc ρ f := by
  refine sWf_cells (fun k hk => ?_) h
  obtain ⟨t, as, ps⟩ := f
  simp only at h21
  rcases h21 with h21 | h21
  · subst h21
    cases hk
  · subst h21
    cases hk
theorem sRnO_ok {L : Nat} {sc : Nat → Int32} {ρ ρ' : List Int} {ex : Nat → Nat} {g : sG} {A0 : Nat → Nat → Int32} {ws : va_W} {κ : sCx} {G : List sFc} {sg : List sV} {o : sOc} (hs : sCok ρ κ) (h : sSgO κ 0 sg = true) (hG : ∀ f ∈ G, sWf A0 L sc ρ f) (hp : sRz ρ 0 sg <+: ρ') (hso : sCok ρ' o.2.1) (hGo : ∀ f ∈ o.2.2.1, sWf (sAc ws) L (gFs L sc A0) ρ' f) (hrw : sRW ρ' ex g o.2.2.2.1 ws) :
    ∃ (o' : sOc) (ρ2 : List Int), sRnO κ G sg o = some o' ∧ o'.1 = o.1 ∧ o'.2.2.2.2.2 = o.2.2.2.2.2 ∧ ρ <+: ρ2 ∧ sCok ρ2 o'.2.1 ∧ (∀ f ∈ o'.2.2.1, sWf (sAc ws) L sc ρ2 f) ∧ sRW ρ2 ex g o'.2.2.2.1 ws ∧ ∀ vr : List Value, sA2 (sRep ρ' (ws.map Prod.fst) ex) o.2.2.2.2.1 vr → sA2 (sRep ρ2 (ws.map Prod.fst) ex) o'.2.2.2.2.1 vr := by
  obtain ⟨δ, rfl⟩ := hp
  have hlen : (ρ ++ δ).length = κ.1 + (o.2.1.1 - sg.length) := by
    have h1 := hso.1.1
    have h2 := hs.1.1
    rw [List.length_append, sRz_len] at h1
    rw [List.length_append]
    omega
  have hI : ∀ y ∈ ρ ++ δ, sI y = true := fun y hy => by
    rcases List.mem_append.mp hy with hy | hy
    · exact hs.1.2.1 y hy
    · exact hso.1.2.1 y (List.mem_append_right _ hy)
  have hacc : sOk (ρ ++ δ) (κ.1 + (o.2.1.1 - sg.length)) κ.2.1 := ⟨hlen, hI, fun q hq => by
    exact sQe_mono (List.prefix_append _ _) (hs.1.2.2 q hq)⟩
  obtain ⟨env, henv, hok⟩ := sRnE_ok hs h o.2.1.2.1 κ.2.1 hso.1.2.2 hacc
  have hF : ∀ f ∈ o.2.1.2.2.map (sRnF sg.length κ.1 sg) ++ κ.2.2, sPf (ρ ++ δ) f := fun f hf => by
    rcases List.mem_append.mp hf with hf | hf
    · obtain ⟨f0, hf0, rfl⟩ := List.mem_map.mp hf
      exact sPf_rn (sRn_pkL hs h f0.2.1) (hso.2 f0 hf0)
    · exact sPf_mono (List.prefix_append _ _) (hs.2 f hf)
  unfold sRnO
  rw [henv]
  simp only
  split
  · rename_i hd
    exfalso
    obtain ⟨f, hf, h1⟩ := List.any_eq_true.mp hd
    have hp := hF f hf
    unfold sDd at h1
    split at h1
    · obtain ⟨m, n, e1, e2, e3⟩ := hp
      obtain ⟨z, hz, hz0⟩ := sNn_some h1
      obtain ⟨w, hw, rfl⟩ := Option.map_eq_some_iff.mp hz
      have := sDm_ok hok hF 2 e2 e1 hw
      omega
    · cases h1
  · refine ⟨_, ρ ++ δ, rfl, rfl, rfl, List.prefix_append _ _, ⟨hok, hF⟩, fun f hf => ?_, sRnCL_ok hs h _ _ hrw, fun vr hr => sRn_repL hs h _ _ hr⟩
    simp only at hf
    rcases List.mem_append.mp hf with hf | hf
    · obtain ⟨f0, h1, h2⟩ := List.mem_flatMap.mp hf
      have hw := sWf_mono (List.prefix_append ρ δ) (hG f0 h1)
      unfold sRn1 at h2
      split at h2
      · rename_i h21
        rw [List.mem_singleton] at h2
        subst h2
        exact sWf21 (by rw [Bool.or_eq_true] at h21; exact h21.imp Nat.eq_of_beq_eq_true Nat.eq_of_beq_eq_true) hw
      · split at h2
        · rename_i h70
          rw [List.mem_singleton] at h2
          subst h2
          obtain ⟨t, as, ps⟩ := f0
          have e1 : t = 70 := Nat.eq_of_beq_eq_true h70
          subst e1
          show sWf (sAc ws) L sc (ρ ++ δ) (70, as, ps.map fun x => Nat.land x (sMof o.2.2.1))
          cases as with
          | cons a as => trivial
          | nil =>
            cases ps with
            | nil => trivial
            | cons m ps =>
              cases ps with
              | cons m' ps => trivial
              | nil =>
                intro k hk hb j
                have hb' : (m &&& sMof o.2.2.1).testBit k = true := hb
                rw [Nat.testBit_and, Bool.and_eq_true] at hb'
                rw [sMof_ok _ hGo k hk hb'.2]
                exact hw k hk hb'.1 j
        · split at h2
          · rename_i hfr
            rw [List.mem_singleton] at h2
            subst h2
            unfold sFrm at hfr
            rw [Bool.and_eq_true] at hfr
            refine sWf_cells (fun k hk => ?_) hw
            obtain ⟨b1, b2⟩ := sB1_ok (List.all_eq_true.mp hfr.2 k hk)
            exact sMof_ok _ hGo k b1 b2
          · cases h2
    · obtain ⟨f0, hf0, rfl⟩ := List.mem_map.mp hf
      obtain ⟨g1, g2⟩ := sNo70_mem hf0
      exact sWf_rn (sRn_pkL hs h f0.2.1) (sWf_sc (fun i hi => (gFs_lo hi).symm) g2 (hGo f0 g1))
theorem vx_Met_mono {l : Launch} {y : MethodName} {wl : List Cond} {rm : Room} {Pc : Array Value → State → Prop} {Q1 Q2 : Array Value → State → Outcome → State → Prop} {X1 X2 : String → State → State → Prop} {mc ms : Nat} {free : Addr → Prop} {Pd : Array Value → State → Prop} (hpre : ∀ a s, Pd a s → Pc a s) (h : vx_Met l y wl rm Pc Q1 X1 mc ms free) (hq : ∀ a s o t, Q1 a s o t → Q2 a s o t) (hx : ∀ E s t, X1 E s t → X2 E s t) : vx_Met l y wl rm Pd Q2 X2 mc ms free := by
  intro p e ha hc hk s m args below hf happ hP hK
  obtain ⟨n, o, a1, a2, a3, hQ⟩ := h p e ha hc hk s m args below hf happ (hpre _ _ hP) hK
  refine ⟨n, o, a1, a2, a3, ?_⟩
  rcases hQ with ⟨q1, q2⟩ | ⟨q, q1, E, ce, Lx, q2, q3⟩
  · exact Or.inl ⟨hq _ _ _ _ q1, q2⟩
  · exact Or.inr ⟨q, q1, E, ce, Lx, hx _ _ _ q2, q3⟩
/-- a contract used by a caller whose state it covers -/
theorem sMetP_rn {l : Launch} {M : sMd} {d mc ms : Nat} {κ κc : sCx} {G Gc : List sFc} {wd wdc : List sC} {As Ac : List sV} {outs : List sOc} {sg : List sV} (hmp : sMetP l M d mc ms κc Gc wdc Ac outs) (hcov : sCov κ G wd κc (sNo70 Gc) wdc 0 sg = true) (hAs : sSmL κ.2.1 0 sg As Ac = true) : sMetP l M d mc ms κ G wd As (outs.filterMap (sRnO κ G sg)) := by
  intro ρ ex g n0 L sc ws Av hs hG hA hrw
  obtain ⟨hsg, hsE, hGE, hrwE⟩ := sCov_ok hs hG hrw hcov
  have hm := hmp (sRz ρ 0 sg) ex g n0 L (gFs L sc (sAc ws)) ws Av hsE (sEnt70 hGE) (sSmL_ok hs hsg _ _ _ hAs hA) hrwE
  refine vx_Met_mono (fun a s hq => ⟨hq.1, sCtx_sc hq.2.1 (fun j hj => gFs_lo (by omega)), hq.2.2⟩) hm (fun a s o t hq => ?_) (fun E s t hx => ?_)
  · obtain ⟨oc, ρ', ws', v, ho, h0, hp, hso, hGo, hw, hrw', hP, hD, hF, hov, hr⟩ := hq
    obtain ⟨o', ρ2, e1, e2, e3, e4, e5, e6, e7, e8⟩ := sRnO_ok (A0 := sAc ws) hs hsg hG hp hso hGo hrw'
    exact ⟨o', ρ2, ws', v, List.mem_filterMap.mpr ⟨oc, ho, e1⟩, e2.trans h0, e4, e5, e6, hw, e7, hP, hD, hF, hov, e8 _ hr⟩
  · obtain ⟨oc, ρ', ws', ho, h0, hE, hp, hso, hGo, hw, hrw', hP, hD, hF⟩ := hx
    obtain ⟨o', ρ2, e1, e2, e3, e4, e5, e6, e7, e8⟩ := sRnO_ok (A0 := sAc ws) hs hsg hG hp hso hGo hrw'
    exact ⟨o', ρ2, ws', List.mem_filterMap.mpr ⟨oc, ho, e1⟩, by rw [e2]; exact h0, by rw [e3]; exact hE, e4, e5, e6, hw, e7, hP, hD, hF⟩
end
