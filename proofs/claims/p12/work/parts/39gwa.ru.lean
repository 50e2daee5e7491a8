noncomputable section
/-! ===== steps on functions of rows ===== -/
abbrev gRy : Type := List sFc × List (sV × sV) × List (sV × sV) × List (sV × sV × sV × Nat) × List (sV × Int × sV) × List sFc
/-- asked facts, not less, not the same, reckoned, products, told facts -/
def gSy (f : List sV → List Nat → Option gRy) : Prop := ∀ (vs : List sV) (cs : List Nat) (u : gRy), f vs cs = some u → ∀ (A : Nat → Nat → Int32) (L : Nat) (sc : Nat → Int32) (E : sV → Int), (∀ x c, E (gA x c) = E x + c) → (∀ z, E (0, z) = z) → (∀ q ∈ u.1, gM A L sc E q) → (∀ q ∈ u.2.1, E q.2 ≤ E q.1) → (∀ q ∈ u.2.2.1, E q.1 ≠ E q.2) → (∀ q ∈ u.2.2.2.1, sOp5 q.2.2.2 (E q.1) (E q.2.1) (E q.2.2.1)) → (∀ q ∈ u.2.2.2.2.1, E q.1 = q.2.1 * E q.2.2) → ∀ o ∈ u.2.2.2.2.2, gM A L sc E o
def gOq (κ : sCx) (r a b : sV) (o : Nat) : Bool := gHF κ r a b o || gOpk κ r a b o
section RU
variable {A : Nat → Nat → Int32} {L : Nat} {sc : Nat → Int32} {ρ : List Int} {κ : sCx} {G : List sFc}
theorem gOq_ok (hs : sCok ρ κ) {r a b : sV} {o : Nat} (h : gOq κ r a b o = true) : sOp5 o (gE ρ r) (gE ρ a) (gE ρ b) := by
  unfold gOq at h
  rw [Bool.or_eq_true] at h
  rcases h with h | h
  · exact gHF_ok hs h
  · have h3 := gOpk_ok hs h
    unfold gOpk at h
    rw [Bool.and_eq_true, Bool.and_eq_true] at h
    have h1 := Nat.le_of_ble_eq_true h.1.1
    have h2 := Nat.le_of_ble_eq_true h.1.2
    have : o = 7 ∨ o = 8 ∨ o = 9 ∨ o = 10 ∨ o = 11 ∨ o = 12 := by omega
    rcases this with rfl | rfl | rfl | rfl | rfl | rfl <;> exact h3
def gSe (f : List sV → List Nat → Option gRy) : gSf0 := fun κ G vs cs => if vs.all (sDef κ.1) = true then (match f vs cs with
  | some u => if (u.1.all (fun q => gMk q && gHk κ G q.1 q.2.1 q.2.2) && (u.2.1.all (fun q => gGe κ q.1 q.2) && (u.2.2.1.all (fun q => sEn0 κ.1 κ.2.1 κ.2.2 (6, [q.1, q.2], [])) && (u.2.2.2.1.all (fun q => gOq κ q.1 q.2.1 q.2.2.1 q.2.2.2) && (u.2.2.2.2.1.all (fun q => (sDef κ.1 q.1 && sDef κ.1 q.2.2) && sPrd κ q.1 q.2.1 q.2.2 false) && u.2.2.2.2.2.all (fun o => o.2.1.all (sDef κ.1))))))) = true then u.2.2.2.2.2 else []
  | none => []) else []
theorem gSe_ok {f : List sV → List Nat → Option gRy} (hf : gSy f) : ∀ (A : Nat → Nat → Int32) (L : Nat) (sc : Nat → Int32) (ρ : List Int) (κ : sCx) (G : List sFc), sCok ρ κ → (∀ f ∈ G, sWf A L sc ρ f) → ∀ (vs : List sV) (cs : List Nat), ∀ g ∈ gSe f κ G vs cs, gSo A L sc ρ g := by
  intro A L sc ρ κ G hs hG vs cs g hg
  unfold gSe at hg
  split at hg
  · split at hg
    · rename_i u hu
      split at hg
      · rename_i hc
        simp only [Bool.and_eq_true] at hc
        obtain ⟨b1, b2, b3, b4, b5, b6⟩ := hc
        refine gM_so hs (List.all_eq_true.mp b6 g hg) (hf vs cs u hu A L sc (gE ρ) (gE_add ρ) (gE_k ρ) (fun q hq => ?_) (fun q hq => ?_) (fun q hq => ?_) (fun q hq => gOq_ok hs (List.all_eq_true.mp b4 q hq)) (fun q hq => ?_) g hg)
        · have h : (gMk q && gHk κ G q.1 q.2.1 q.2.2) = true := List.all_eq_true.mp b1 q hq
          rw [Bool.and_eq_true] at h
          exact gM_hk hs hG h.1 h.2
        · obtain ⟨x, y, h1, h2, h3⟩ := sEn0_ok hs.1 hs.2 (List.all_eq_true.mp b2 q hq)
          rw [gE_ev h1, gE_ev h2]
          exact h3
        · obtain ⟨x, y, h1, h2, h3⟩ := sEn0_ok hs.1 hs.2 (List.all_eq_true.mp b3 q hq)
          rw [gE_ev h1, gE_ev h2]
          exact h3
        · have h : ((sDef κ.1 q.1 && sDef κ.1 q.2.2) && sPrd κ q.1 q.2.1 q.2.2 false) = true := List.all_eq_true.mp b5 q hq
          simp only [Bool.and_eq_true] at h
          exact (sPrd_ok hs (gE_def hs.1 h.1.1) (gE_def hs.1 h.1.2) h.2).2 rfl
      · cases hg
    · cases hg
  · cases hg
end RU
/-- the same numbers, the same fact -/
def gX_CG (vs : List sV) (cs : List Nat) : Option gRy := match cs with
  | k :: ps => if Nat.beq (vs.take k).length (vs.drop k).length = true then some ([(80, vs.drop k, ps)], (vs.take k).zip (vs.drop k) ++ (vs.drop k).zip (vs.take k), [], [], [], [(80, vs.take k, ps)]) else none
  | [] => none
theorem gZip {E : sV → Int} : ∀ a b : List sV, a.length = b.length → (∀ q ∈ a.zip b, E q.2 ≤ E q.1) → (∀ q ∈ b.zip a, E q.2 ≤ E q.1) → a.map E = b.map E
  | [], [], _, _, _ => rfl
  | [], _ :: _, h, _, _ => by cases h
  | _ :: _, [], h, _, _ => by cases h
  | x :: a, y :: b, h, h1, h2 => by
    have e1 : E y ≤ E x := h1 (x, y) List.mem_cons_self
    have e2 : E x ≤ E y := h2 (y, x) List.mem_cons_self
    rw [List.map_cons, List.map_cons, gZip a b (Nat.succ.inj h) (fun q hq => h1 q (List.mem_cons_of_mem _ hq)) (fun q hq => h2 q (List.mem_cons_of_mem _ hq)), show E x = E y by omega]
theorem gX_CG_ok : gSy gX_CG := by
  intro vs cs u h A L sc E hA hZ hF hC hD hO hP
  unfold gX_CG at h
  split at h
  · rename_i k ps
    split at h
    · rename_i hl
      cases h
      obtain ⟨f0, -⟩ := gMa hF
      obtain ⟨h1, h2⟩ := gMp hC
      have e := gZip _ _ (Nat.eq_of_beq_eq_true hl) h1 h2
      refine gMc ?_ gMn
      show gA9 A L sc ps ((vs.take k).map E)
      rw [e]
      exact f0
    · cases h
  · cases h
section RW
variable {A : Nat → Nat → Int32} {L : Nat} {sc : Nat → Int32}
theorem fcA_b {k f s h : Nat → Int32} {fs j : Int} : 0 ≤ fcA k f s h fs j ∧ fcA k f s h fs j ≤ 1 := by
  unfold fcA
  split <;> decide
theorem fSA_b {k f s h : Nat → Int32} {fs : Int} : ∀ n : Nat, 0 ≤ fSA k f s h fs n ∧ fSA k f s h fs n ≤ (n : Int)
  | 0 => ⟨Int.le_refl _, Int.le_refl _⟩
  | n + 1 => by
    have h1 := fSA_b (k := k) (f := f) (s := s) (h := h) (fs := fs) n
    have h2 := fcA_b (k := k) (f := f) (s := s) (h := h) (fs := fs) (j := (n : Int))
    show 0 ≤ fSA k f s h fs n + fcA k f s h fs (n : Int) ∧ fSA k f s h fs n + fcA k f s h fs (n : Int) ≤ _
    omega
theorem fSG_b {k f s a b : Nat → Int32} {fs : Int} : ∀ n : Nat, 0 ≤ fSG k f s a b fs n ∧ fSG k f s a b fs n ≤ (n : Int)
  | 0 => ⟨Int.le_refl _, Int.le_refl _⟩
  | n + 1 => by
    have h1 := fSG_b (k := k) (f := f) (s := s) (a := a) (b := b) (fs := fs) n
    have h2 : 0 ≤ fdG k f s a b fs (n : Int) ∧ fdG k f s a b fs (n : Int) ≤ 1 := by
      unfold fdG
      split <;> decide
    show 0 ≤ fSG k f s a b fs n + fdG k f s a b fs (n : Int) ∧ fSG k f s a b fs n + fdG k f s a b fs (n : Int) ≤ _
    omega
theorem gA6_at {r : Nat} {v m : Int} (h : gA6 A [r, 0] [v, m, 0]) : ∀ j : Nat, (j : Int) < m → (A r j).toInt = gBit v (j : Int) := fun j hj => by
  have g := h j hj
  rw [if_neg (by rintro ⟨q, -⟩; cases q)] at g
  exact g
theorem gA6_fI {r : Nat} {v m a : Int} (h : gA6 A [r, 0] [v, m, 0]) (h0 : 0 ≤ a) (hm : a < m) : fI (A r) a = gBit v a := by
  have g := gA6_at h a.toNat (by omega)
  unfold fI
  rw [g, show ((a.toNat : Nat) : Int) = a by omega]

theorem gX_tr_l {zm zx zv : Int} {rr1 rr2 : Nat} (f0 : gA5 A [rr1, rr2] [zm, (0 : Int), (0 : Int)]) (f1 : 0 ≤ zx ∧ (A rr2 (zx).toNat).toInt = zv) (c0 : zx + 1 ≤ zm) : (0 ≤ zx ∧ (A rr1 (zx).toNat).toInt = zv) := by
  obtain ⟨-, -, h⟩ := f0
  have g := h zx.toNat (by have := f1.1; omega)
  rw [z0] at g
  exact ⟨f1.1, by rw [g]; exact f1.2⟩
def gX_tr (vs : List sV) (cs : List Nat) : Option gRy := match vs, cs with
  | [zm, zx, zv], [rr1, rr2] => some ([(65, [zm, (0, 0), (0, 0)], [rr1, rr2]), (15, [zx, zv], [rr2])], [(zm, gA zx 1)], [], [], [], [(15, [zx, zv], [rr1])])
  | _, _ => none
theorem gX_tr_ok : gSy gX_tr := by
  intro vs cs u h A L sc E hA hZ hF hC hD hO hP
  unfold gX_tr at h
  split at h
  · rename_i zm zx zv rr1 rr2
    cases h
    obtain ⟨f0, hF⟩ := gMa hF
    have f0 : gA5 A [rr1, rr2] [E zm, E (0, 0), E (0, 0)] := f0
    obtain ⟨f1, hF⟩ := gMa hF
    have f1 : 0 ≤ E zx ∧ (A rr2 (E zx).toNat).toInt = E zv := f1
    obtain ⟨c0, hC⟩ := gMa hC
    have c0 : E (gA zx 1) ≤ E zm := c0
    try simp only [hA, hZ] at f0 f1 c0
    have R := gX_tr_l (zm := E zm) (zx := E zx) (zv := E zv) (rr1 := rr1) (rr2 := rr2) f0 f1 c0
    have t0 : 0 ≤ E zx ∧ (A rr1 (E zx).toNat).toInt = E zv := by
      try simp only [hA, hZ]
      exact R
    exact (gMc (t0) gMn)
  · cases h
theorem gX_rb_l {zm zn zi zx : Int} {rr : Nat} (f0 : gF (gT L sc) (gN L sc) 5 [A rr] [] [zm, zn]) (f1 : 0 ≤ zi ∧ (A rr (zi).toNat).toInt = zx) (c0 : zi + 1 ≤ zm) : ((0 : Int) ≤ zx) ∧ (zx + 1 ≤ zn) := by
  have f0 : ∀ j : Nat, (j : Int) < zm → 0 ≤ fI (A rr) (j : Int) ∧ fI (A rr) (j : Int) < zn := f0
  have g := f0 zi.toNat (by have := f1.1; omega)
  unfold fI at g
  rw [Int.toNat_natCast, f1.2] at g
  exact ⟨g.1, by have := g.2; omega⟩
def gX_rb (vs : List sV) (cs : List Nat) : Option gRy := match vs, cs with
  | [zm, zn, zi, zx], [rr] => some ([(80, [zm, zn], [0, 5, 1, rr]), (15, [zi, zx], [rr])], [(zm, gA zi 1)], [], [], [], [(0, [zx, (0, 0)], []), (0, [zn, gA zx 1], [])])
  | _, _ => none
theorem gX_rb_ok : gSy gX_rb := by
  intro vs cs u h A L sc E hA hZ hF hC hD hO hP
  unfold gX_rb at h
  split at h
  · rename_i zm zn zi zx rr
    cases h
    obtain ⟨f0, hF⟩ := gMa hF
    have f0 : gF (gT L sc) (gN L sc) 5 [A rr] [] [E zm, E zn] := gA9_0.mp f0
    obtain ⟨f1, hF⟩ := gMa hF
    have f1 : 0 ≤ E zi ∧ (A rr (E zi).toNat).toInt = E zx := f1
    obtain ⟨c0, hC⟩ := gMa hC
    have c0 : E (gA zi 1) ≤ E zm := c0
    try simp only [hA, hZ] at f0 f1 c0
    have R := gX_rb_l (zm := E zm) (zn := E zn) (zi := E zi) (zx := E zx) (rr := rr) f0 f1 c0
    have t0 : E (0, 0) ≤ E zx := by
      try simp only [hA, hZ]
      exact R.1
    have t1 : E (gA zx 1) ≤ E zn := by
      try simp only [hA, hZ]
      exact R.2
    exact (gMc (t0) (gMc (t1) gMn))
  · cases h
theorem gX_SA0_l {zfs : Int} {rk rf rs rh : Nat}  : (gF (gT L sc) (gN L sc) 1 [A rk, A rf, A rs, A rh] [] [(0 : Int), zfs, (0 : Int)]) := by
  exact ⟨Int.le_refl _, rfl⟩
def gX_SA0 (vs : List sV) (cs : List Nat) : Option gRy := match vs, cs with
  | [zfs], [rk, rf, rs, rh] => some ([], [], [], [], [], [(80, [(0, 0), zfs, (0, 0)], [0, 1, 4, rk, rf, rs, rh])])
  | _, _ => none
theorem gX_SA0_ok : gSy gX_SA0 := by
  intro vs cs u h A L sc E hA hZ hF hC hD hO hP
  unfold gX_SA0 at h
  split at h
  · rename_i zfs rk rf rs rh
    cases h
    have R := gX_SA0_l (A := A) (L := L) (sc := sc) (zfs := E zfs) (rk := rk) (rf := rf) (rs := rs) (rh := rh) 
    have t0 : gF (gT L sc) (gN L sc) 1 [A rk, A rf, A rs, A rh] [] [E (0, 0), E zfs, E (0, 0)] := by
      try simp only [hA, hZ]
      exact R
    exact (gMc (gA9_0.mpr (t0)) gMn)
  · cases h
theorem gX_SA4_l {za zfs zv zx : Int} {rk rf rs rh : Nat} (f0 : gF (gT L sc) (gN L sc) 1 [A rk, A rf, A rs, A rh] [] [za, zfs, zv]) (f1 : 0 ≤ za ∧ (A rk (za).toNat).toInt = zx) (c0 : (4 : Int) ≤ zx) (c1 : zx ≤ (4 : Int)) : (gF (gT L sc) (gN L sc) 1 [A rk, A rf, A rs, A rh] [] [za + 1, zfs, zv + 1]) := by
  obtain ⟨ha, hv⟩ : 0 ≤ za ∧ zv = fSA (A rk) (A rf) (A rs) (A rh) zfs za.toNat := f0
  refine ⟨by omega, ?_⟩
  rw [fSA_succ ha, ← hv]
  have e : fI (A rk) za = zx := f1.2
  have e1 : fcA (A rk) (A rf) (A rs) (A rh) zfs za = 1 := if_pos (Or.inl (by omega))
  rw [e1]
def gX_SA4 (vs : List sV) (cs : List Nat) : Option gRy := match vs, cs with
  | [za, zfs, zv, zx], [rk, rf, rs, rh] => some ([(80, [za, zfs, zv], [0, 1, 4, rk, rf, rs, rh]), (15, [za, zx], [rk])], [(zx, (0, 4)), ((0, 4), zx)], [], [], [], [(80, [gA za 1, zfs, gA zv 1], [0, 1, 4, rk, rf, rs, rh])])
  | _, _ => none
theorem gX_SA4_ok : gSy gX_SA4 := by
  intro vs cs u h A L sc E hA hZ hF hC hD hO hP
  unfold gX_SA4 at h
  split at h
  · rename_i za zfs zv zx rk rf rs rh
    cases h
    obtain ⟨f0, hF⟩ := gMa hF
    have f0 : gF (gT L sc) (gN L sc) 1 [A rk, A rf, A rs, A rh] [] [E za, E zfs, E zv] := gA9_0.mp f0
    obtain ⟨f1, hF⟩ := gMa hF
    have f1 : 0 ≤ E za ∧ (A rk (E za).toNat).toInt = E zx := f1
    obtain ⟨c0, hC⟩ := gMa hC
    have c0 : E (0, 4) ≤ E zx := c0
    obtain ⟨c1, hC⟩ := gMa hC
    have c1 : E zx ≤ E (0, 4) := c1
    try simp only [hA, hZ] at f0 f1 c0 c1
    have R := gX_SA4_l (za := E za) (zfs := E zfs) (zv := E zv) (zx := E zx) (rk := rk) (rf := rf) (rs := rs) (rh := rh) f0 f1 c0 c1
    have t0 : gF (gT L sc) (gN L sc) 1 [A rk, A rf, A rs, A rh] [] [E (gA za 1), E zfs, E (gA zv 1)] := by
      try simp only [hA, hZ]
      exact R
    exact (gMc (gA9_0.mpr (t0)) gMn)
  · cases h
theorem gX_SAe_l {za zfs zv zg zb zc zu zy zx : Int} {rk rf rs rh : Nat} (f0 : gF (gT L sc) (gN L sc) 1 [A rk, A rf, A rs, A rh] [] [za, zfs, zv]) (f1 : 0 ≤ za ∧ (A rf (za).toNat).toInt = zg) (f2 : 0 ≤ za ∧ (A rs (za).toNat).toInt = zb) (f3 : 0 ≤ za ∧ (A rh (za).toNat).toInt = zc) (c0 : zc ≤ zx) (c1 : zx ≤ zc) (o0 : zu = gBo 11 (zfs) (zg)) (o1 : zy = gBo 7 (zu) ((1 : Int))) (o2 : zx = gBo 9 (zb) (zy)) : (gF (gT L sc) (gN L sc) 1 [A rk, A rf, A rs, A rh] [] [za + 1, zfs, zv + 1]) := by
  obtain ⟨ha, hv⟩ : 0 ≤ za ∧ zv = fSA (A rk) (A rf) (A rs) (A rh) zfs za.toNat := f0
  refine ⟨by omega, ?_⟩
  rw [fSA_succ ha, ← hv]
  have e2 : fI (A rf) za = zg := f1.2
  have e3 : fI (A rs) za = zb := f2.2
  have e4 : fI (A rh) za = zc := f3.2
  have e5 : fAf (A rf) (A rs) zfs za = zx := by
    unfold fAf gBit
    rw [e2, e3, ← o0, ← o1, ← o2]
  have e1 : fcA (A rk) (A rf) (A rs) (A rh) zfs za = 1 := if_pos (Or.inr (by rw [e5, e4]; omega))
  rw [e1]
def gX_SAe (vs : List sV) (cs : List Nat) : Option gRy := match vs, cs with
  | [za, zfs, zv, zg, zb, zc, zu, zy, zx], [rk, rf, rs, rh] => some ([(80, [za, zfs, zv], [0, 1, 4, rk, rf, rs, rh]), (15, [za, zg], [rf]), (15, [za, zb], [rs]), (15, [za, zc], [rh])], [(zx, zc), (zc, zx)], [], [(zu, zfs, zg, 11), (zy, zu, (0, 1), 7), (zx, zb, zy, 9)], [], [(80, [gA za 1, zfs, gA zv 1], [0, 1, 4, rk, rf, rs, rh])])
  | _, _ => none
theorem gX_SAe_ok : gSy gX_SAe := by
  intro vs cs u h A L sc E hA hZ hF hC hD hO hP
  unfold gX_SAe at h
  split at h
  · rename_i za zfs zv zg zb zc zu zy zx rk rf rs rh
    cases h
    obtain ⟨f0, hF⟩ := gMa hF
    have f0 : gF (gT L sc) (gN L sc) 1 [A rk, A rf, A rs, A rh] [] [E za, E zfs, E zv] := gA9_0.mp f0
    obtain ⟨f1, hF⟩ := gMa hF
    have f1 : 0 ≤ E za ∧ (A rf (E za).toNat).toInt = E zg := f1
    obtain ⟨f2, hF⟩ := gMa hF
    have f2 : 0 ≤ E za ∧ (A rs (E za).toNat).toInt = E zb := f2
    obtain ⟨f3, hF⟩ := gMa hF
    have f3 : 0 ≤ E za ∧ (A rh (E za).toNat).toInt = E zc := f3
    obtain ⟨c0, hC⟩ := gMa hC
    have c0 : E zc ≤ E zx := c0
    obtain ⟨c1, hC⟩ := gMa hC
    have c1 : E zx ≤ E zc := c1
    obtain ⟨o0, hO⟩ := gMa hO
    have o0 : E zu = gBo 11 (E zfs) (E zg) := o0
    obtain ⟨o1, hO⟩ := gMa hO
    have o1 : E zy = gBo 7 (E zu) (E (0, 1)) := o1
    obtain ⟨o2, hO⟩ := gMa hO
    have o2 : E zx = gBo 9 (E zb) (E zy) := o2
    try simp only [hA, hZ] at f0 f1 f2 f3 c0 c1 o0 o1 o2
    have R := gX_SAe_l (za := E za) (zfs := E zfs) (zv := E zv) (zg := E zg) (zb := E zb) (zc := E zc) (zu := E zu) (zy := E zy) (zx := E zx) (rk := rk) (rf := rf) (rs := rs) (rh := rh) f0 f1 f2 f3 c0 c1 o0 o1 o2
    have t0 : gF (gT L sc) (gN L sc) 1 [A rk, A rf, A rs, A rh] [] [E (gA za 1), E zfs, E (gA zv 1)] := by
      try simp only [hA, hZ]
      exact R
    exact (gMc (gA9_0.mpr (t0)) gMn)
  · cases h
theorem gX_SAn_l {za zfs zv zz zg zb zc zu zy zx : Int} {rk rf rs rh : Nat} (f0 : gF (gT L sc) (gN L sc) 1 [A rk, A rf, A rs, A rh] [] [za, zfs, zv]) (f1 : 0 ≤ za ∧ (A rk (za).toNat).toInt = zz) (f2 : 0 ≤ za ∧ (A rf (za).toNat).toInt = zg) (f3 : 0 ≤ za ∧ (A rs (za).toNat).toInt = zb) (f4 : 0 ≤ za ∧ (A rh (za).toNat).toInt = zc) (d0 : zz ≠ (4 : Int)) (d1 : zx ≠ zc) (o0 : zu = gBo 11 (zfs) (zg)) (o1 : zy = gBo 7 (zu) ((1 : Int))) (o2 : zx = gBo 9 (zb) (zy)) : (gF (gT L sc) (gN L sc) 1 [A rk, A rf, A rs, A rh] [] [za + 1, zfs, zv]) := by
  obtain ⟨ha, hv⟩ : 0 ≤ za ∧ zv = fSA (A rk) (A rf) (A rs) (A rh) zfs za.toNat := f0
  refine ⟨by omega, ?_⟩
  rw [fSA_succ ha, ← hv]
  have e2 : fI (A rf) za = zg := f2.2
  have e3 : fI (A rs) za = zb := f3.2
  have e4 : fI (A rh) za = zc := f4.2
  have e5 : fAf (A rf) (A rs) zfs za = zx := by
    unfold fAf gBit
    rw [e2, e3, ← o0, ← o1, ← o2]
  have e : fI (A rk) za = zz := f1.2
  have e1 : fcA (A rk) (A rf) (A rs) (A rh) zfs za = 0 := if_neg (by
    rintro (q | q)
    · exact d0 (by omega)
    · rw [e5, e4] at q
      exact d1 q)
  rw [e1, Int.add_zero]
def gX_SAn (vs : List sV) (cs : List Nat) : Option gRy := match vs, cs with
  | [za, zfs, zv, zz, zg, zb, zc, zu, zy, zx], [rk, rf, rs, rh] => some ([(80, [za, zfs, zv], [0, 1, 4, rk, rf, rs, rh]), (15, [za, zz], [rk]), (15, [za, zg], [rf]), (15, [za, zb], [rs]), (15, [za, zc], [rh])], [], [(zz, (0, 4)), (zx, zc)], [(zu, zfs, zg, 11), (zy, zu, (0, 1), 7), (zx, zb, zy, 9)], [], [(80, [gA za 1, zfs, zv], [0, 1, 4, rk, rf, rs, rh])])
  | _, _ => none
theorem gX_SAn_ok : gSy gX_SAn := by
  intro vs cs u h A L sc E hA hZ hF hC hD hO hP
  unfold gX_SAn at h
  split at h
  · rename_i za zfs zv zz zg zb zc zu zy zx rk rf rs rh
    cases h
    obtain ⟨f0, hF⟩ := gMa hF
    have f0 : gF (gT L sc) (gN L sc) 1 [A rk, A rf, A rs, A rh] [] [E za, E zfs, E zv] := gA9_0.mp f0
    obtain ⟨f1, hF⟩ := gMa hF
    have f1 : 0 ≤ E za ∧ (A rk (E za).toNat).toInt = E zz := f1
    obtain ⟨f2, hF⟩ := gMa hF
    have f2 : 0 ≤ E za ∧ (A rf (E za).toNat).toInt = E zg := f2
    obtain ⟨f3, hF⟩ := gMa hF
    have f3 : 0 ≤ E za ∧ (A rs (E za).toNat).toInt = E zb := f3
    obtain ⟨f4, hF⟩ := gMa hF
    have f4 : 0 ≤ E za ∧ (A rh (E za).toNat).toInt = E zc := f4
    obtain ⟨d0, hD⟩ := gMa hD
    have d0 : E zz ≠ E (0, 4) := d0
    obtain ⟨d1, hD⟩ := gMa hD
    have d1 : E zx ≠ E zc := d1
    obtain ⟨o0, hO⟩ := gMa hO
    have o0 : E zu = gBo 11 (E zfs) (E zg) := o0
    obtain ⟨o1, hO⟩ := gMa hO
    have o1 : E zy = gBo 7 (E zu) (E (0, 1)) := o1
    obtain ⟨o2, hO⟩ := gMa hO
    have o2 : E zx = gBo 9 (E zb) (E zy) := o2
    try simp only [hA, hZ] at f0 f1 f2 f3 f4 d0 d1 o0 o1 o2
    have R := gX_SAn_l (za := E za) (zfs := E zfs) (zv := E zv) (zz := E zz) (zg := E zg) (zb := E zb) (zc := E zc) (zu := E zu) (zy := E zy) (zx := E zx) (rk := rk) (rf := rf) (rs := rs) (rh := rh) f0 f1 f2 f3 f4 d0 d1 o0 o1 o2
    have t0 : gF (gT L sc) (gN L sc) 1 [A rk, A rf, A rs, A rh] [] [E (gA za 1), E zfs, E zv] := by
      try simp only [hA, hZ]
      exact R
    exact (gMc (gA9_0.mpr (t0)) gMn)
  · cases h
theorem gX_SAr_l {za zfs zv zn zw zo zm zp zq zz zu zy zt ze : Int} {rk rf rs rh : Nat} (f0 : gF (gT L sc) (gN L sc) 1 [A rk, A rf, A rs, A rh] [] [za, zfs, zv]) (f1 : gF (gT L sc) (gN L sc) 3 [A rk, A rf] [] [zn, zfs, zw, zo]) (f2 : gA6 A [rs, 0] [zo, zm, (0 : Int)]) (f3 : gA6 A [rh, 0] [zp, zq, (0 : Int)]) (f4 : 0 ≤ za ∧ (A rk (za).toNat).toInt = zz) (c0 : za + 1 ≤ zn) (c1 : za + 1 ≤ zm) (c2 : za + 1 ≤ zq) (c3 : za + 1 ≤ (8 : Int)) (c4 : ze ≤ zy) (c5 : zy ≤ ze) (d0 : zz ≠ (4 : Int)) (o0 : zu = gBo 11 (zw) (za)) (o1 : zy = gBo 7 (zu) ((1 : Int))) (o2 : zt = gBo 11 (zp) (za)) (o3 : ze = gBo 7 (zt) ((1 : Int))) : (gF (gT L sc) (gN L sc) 1 [A rk, A rf, A rs, A rh] [] [za + 1, zfs, zv + 1]) := by
  obtain ⟨ha, hv⟩ : 0 ≤ za ∧ zv = fSA (A rk) (A rf) (A rs) (A rh) zfs za.toNat := f0
  refine ⟨by omega, ?_⟩
  rw [fSA_succ ha, ← hv]
  have e : fI (A rk) za = zz := f4.2
  have hk : fI (A rk) za ≠ 4 := by rw [e]; exact d0
  have f1 : 0 ≤ zn ∧ ∀ j : Nat, j < 8 → gBit zw (j : Int) = if (j : Int) < zn ∧ fI (A rk) (j : Int) ≠ 4 ∧ gBit zfs (fI (A rf) (j : Int)) = 1 then 1 - gBit zo (j : Int) else gBit zo (j : Int) := f1
  have s1 := gA6_at f2
  have s2 := gA6_at f3
  have e5 := fAf_ref f1.2 s1 ha (by omega) (by omega) (by omega) hk
  have e6 : fI (A rh) za = gBit zp za := gA6_fI f3 ha (by omega)
  have e7 : gBit zw za = zy := by
    unfold gBit
    rw [← o0, ← o1]
  have e8 : gBit zp za = ze := by
    unfold gBit
    rw [← o2, ← o3]
  have e1 : fcA (A rk) (A rf) (A rs) (A rh) zfs za = 1 := if_pos (Or.inr (by rw [e5, e6, e7, e8]; omega))
  rw [e1]
def gX_SAr (vs : List sV) (cs : List Nat) : Option gRy := match vs, cs with
  | [za, zfs, zv, zn, zw, zo, zm, zp, zq, zz, zu, zy, zt, ze], [rk, rf, rs, rh] => some ([(80, [za, zfs, zv], [0, 1, 4, rk, rf, rs, rh]), (80, [zn, zfs, zw, zo], [0, 3, 2, rk, rf]), (66, [zo, zm, (0, 0)], [rs, 0]), (66, [zp, zq, (0, 0)], [rh, 0]), (15, [za, zz], [rk])], [(zn, gA za 1), (zm, gA za 1), (zq, gA za 1), ((0, 8), gA za 1), (zy, ze), (ze, zy)], [(zz, (0, 4))], [(zu, zw, za, 11), (zy, zu, (0, 1), 7), (zt, zp, za, 11), (ze, zt, (0, 1), 7)], [], [(80, [gA za 1, zfs, gA zv 1], [0, 1, 4, rk, rf, rs, rh])])
  | _, _ => none
theorem gX_SAr_ok : gSy gX_SAr := by
  intro vs cs u h A L sc E hA hZ hF hC hD hO hP
  unfold gX_SAr at h
  split at h
  · rename_i za zfs zv zn zw zo zm zp zq zz zu zy zt ze rk rf rs rh
    cases h
    obtain ⟨f0, hF⟩ := gMa hF
    have f0 : gF (gT L sc) (gN L sc) 1 [A rk, A rf, A rs, A rh] [] [E za, E zfs, E zv] := gA9_0.mp f0
    obtain ⟨f1, hF⟩ := gMa hF
    have f1 : gF (gT L sc) (gN L sc) 3 [A rk, A rf] [] [E zn, E zfs, E zw, E zo] := gA9_0.mp f1
    obtain ⟨f2, hF⟩ := gMa hF
    have f2 : gA6 A [rs, 0] [E zo, E zm, E (0, 0)] := f2
    obtain ⟨f3, hF⟩ := gMa hF
    have f3 : gA6 A [rh, 0] [E zp, E zq, E (0, 0)] := f3
    obtain ⟨f4, hF⟩ := gMa hF
    have f4 : 0 ≤ E za ∧ (A rk (E za).toNat).toInt = E zz := f4
    obtain ⟨c0, hC⟩ := gMa hC
    have c0 : E (gA za 1) ≤ E zn := c0
    obtain ⟨c1, hC⟩ := gMa hC
    have c1 : E (gA za 1) ≤ E zm := c1
    obtain ⟨c2, hC⟩ := gMa hC
    have c2 : E (gA za 1) ≤ E zq := c2
    obtain ⟨c3, hC⟩ := gMa hC
    have c3 : E (gA za 1) ≤ E (0, 8) := c3
    obtain ⟨c4, hC⟩ := gMa hC
    have c4 : E ze ≤ E zy := c4
    obtain ⟨c5, hC⟩ := gMa hC
    have c5 : E zy ≤ E ze := c5
    obtain ⟨d0, hD⟩ := gMa hD
    have d0 : E zz ≠ E (0, 4) := d0
    obtain ⟨o0, hO⟩ := gMa hO
    have o0 : E zu = gBo 11 (E zw) (E za) := o0
    obtain ⟨o1, hO⟩ := gMa hO
    have o1 : E zy = gBo 7 (E zu) (E (0, 1)) := o1
    obtain ⟨o2, hO⟩ := gMa hO
    have o2 : E zt = gBo 11 (E zp) (E za) := o2
    obtain ⟨o3, hO⟩ := gMa hO
    have o3 : E ze = gBo 7 (E zt) (E (0, 1)) := o3
    try simp only [hA, hZ] at f0 f1 f2 f3 f4 c0 c1 c2 c3 c4 c5 d0 o0 o1 o2 o3
    have R := gX_SAr_l (za := E za) (zfs := E zfs) (zv := E zv) (zn := E zn) (zw := E zw) (zo := E zo) (zm := E zm) (zp := E zp) (zq := E zq) (zz := E zz) (zu := E zu) (zy := E zy) (zt := E zt) (ze := E ze) (rk := rk) (rf := rf) (rs := rs) (rh := rh) f0 f1 f2 f3 f4 c0 c1 c2 c3 c4 c5 d0 o0 o1 o2 o3
    have t0 : gF (gT L sc) (gN L sc) 1 [A rk, A rf, A rs, A rh] [] [E (gA za 1), E zfs, E (gA zv 1)] := by
      try simp only [hA, hZ]
      exact R
    exact (gMc (gA9_0.mpr (t0)) gMn)
  · cases h
theorem gX_SAq_l {za zfs zv zn zw zo zm zp zq zz zu zy zt ze : Int} {rk rf rs rh : Nat} (f0 : gF (gT L sc) (gN L sc) 1 [A rk, A rf, A rs, A rh] [] [za, zfs, zv]) (f1 : gF (gT L sc) (gN L sc) 3 [A rk, A rf] [] [zn, zfs, zw, zo]) (f2 : gA6 A [rs, 0] [zo, zm, (0 : Int)]) (f3 : gA6 A [rh, 0] [zp, zq, (0 : Int)]) (f4 : 0 ≤ za ∧ (A rk (za).toNat).toInt = zz) (c0 : za + 1 ≤ zn) (c1 : za + 1 ≤ zm) (c2 : za + 1 ≤ zq) (c3 : za + 1 ≤ (8 : Int)) (d0 : zz ≠ (4 : Int)) (d1 : zy ≠ ze) (o0 : zu = gBo 11 (zw) (za)) (o1 : zy = gBo 7 (zu) ((1 : Int))) (o2 : zt = gBo 11 (zp) (za)) (o3 : ze = gBo 7 (zt) ((1 : Int))) : (gF (gT L sc) (gN L sc) 1 [A rk, A rf, A rs, A rh] [] [za + 1, zfs, zv]) := by
  obtain ⟨ha, hv⟩ : 0 ≤ za ∧ zv = fSA (A rk) (A rf) (A rs) (A rh) zfs za.toNat := f0
  refine ⟨by omega, ?_⟩
  rw [fSA_succ ha, ← hv]
  have e : fI (A rk) za = zz := f4.2
  have hk : fI (A rk) za ≠ 4 := by rw [e]; exact d0
  have f1 : 0 ≤ zn ∧ ∀ j : Nat, j < 8 → gBit zw (j : Int) = if (j : Int) < zn ∧ fI (A rk) (j : Int) ≠ 4 ∧ gBit zfs (fI (A rf) (j : Int)) = 1 then 1 - gBit zo (j : Int) else gBit zo (j : Int) := f1
  have s1 := gA6_at f2
  have s2 := gA6_at f3
  have e5 := fAf_ref f1.2 s1 ha (by omega) (by omega) (by omega) hk
  have e6 : fI (A rh) za = gBit zp za := gA6_fI f3 ha (by omega)
  have e7 : gBit zw za = zy := by
    unfold gBit
    rw [← o0, ← o1]
  have e8 : gBit zp za = ze := by
    unfold gBit
    rw [← o2, ← o3]
  have e1 : fcA (A rk) (A rf) (A rs) (A rh) zfs za = 0 := if_neg (by
    rintro (q | q)
    · exact hk q
    · rw [e5, e6, e7, e8] at q
      exact d1 q)
  rw [e1, Int.add_zero]
def gX_SAq (vs : List sV) (cs : List Nat) : Option gRy := match vs, cs with
  | [za, zfs, zv, zn, zw, zo, zm, zp, zq, zz, zu, zy, zt, ze], [rk, rf, rs, rh] => some ([(80, [za, zfs, zv], [0, 1, 4, rk, rf, rs, rh]), (80, [zn, zfs, zw, zo], [0, 3, 2, rk, rf]), (66, [zo, zm, (0, 0)], [rs, 0]), (66, [zp, zq, (0, 0)], [rh, 0]), (15, [za, zz], [rk])], [(zn, gA za 1), (zm, gA za 1), (zq, gA za 1), ((0, 8), gA za 1)], [(zz, (0, 4)), (zy, ze)], [(zu, zw, za, 11), (zy, zu, (0, 1), 7), (zt, zp, za, 11), (ze, zt, (0, 1), 7)], [], [(80, [gA za 1, zfs, zv], [0, 1, 4, rk, rf, rs, rh])])
  | _, _ => none
theorem gX_SAq_ok : gSy gX_SAq := by
  intro vs cs u h A L sc E hA hZ hF hC hD hO hP
  unfold gX_SAq at h
  split at h
  · rename_i za zfs zv zn zw zo zm zp zq zz zu zy zt ze rk rf rs rh
    cases h
    obtain ⟨f0, hF⟩ := gMa hF
    have f0 : gF (gT L sc) (gN L sc) 1 [A rk, A rf, A rs, A rh] [] [E za, E zfs, E zv] := gA9_0.mp f0
    obtain ⟨f1, hF⟩ := gMa hF
    have f1 : gF (gT L sc) (gN L sc) 3 [A rk, A rf] [] [E zn, E zfs, E zw, E zo] := gA9_0.mp f1
    obtain ⟨f2, hF⟩ := gMa hF
    have f2 : gA6 A [rs, 0] [E zo, E zm, E (0, 0)] := f2
    obtain ⟨f3, hF⟩ := gMa hF
    have f3 : gA6 A [rh, 0] [E zp, E zq, E (0, 0)] := f3
    obtain ⟨f4, hF⟩ := gMa hF
    have f4 : 0 ≤ E za ∧ (A rk (E za).toNat).toInt = E zz := f4
    obtain ⟨c0, hC⟩ := gMa hC
    have c0 : E (gA za 1) ≤ E zn := c0
    obtain ⟨c1, hC⟩ := gMa hC
    have c1 : E (gA za 1) ≤ E zm := c1
    obtain ⟨c2, hC⟩ := gMa hC
    have c2 : E (gA za 1) ≤ E zq := c2
    obtain ⟨c3, hC⟩ := gMa hC
    have c3 : E (gA za 1) ≤ E (0, 8) := c3
    obtain ⟨d0, hD⟩ := gMa hD
    have d0 : E zz ≠ E (0, 4) := d0
    obtain ⟨d1, hD⟩ := gMa hD
    have d1 : E zy ≠ E ze := d1
    obtain ⟨o0, hO⟩ := gMa hO
    have o0 : E zu = gBo 11 (E zw) (E za) := o0
    obtain ⟨o1, hO⟩ := gMa hO
    have o1 : E zy = gBo 7 (E zu) (E (0, 1)) := o1
    obtain ⟨o2, hO⟩ := gMa hO
    have o2 : E zt = gBo 11 (E zp) (E za) := o2
    obtain ⟨o3, hO⟩ := gMa hO
    have o3 : E ze = gBo 7 (E zt) (E (0, 1)) := o3
    try simp only [hA, hZ] at f0 f1 f2 f3 f4 c0 c1 c2 c3 d0 d1 o0 o1 o2 o3
    have R := gX_SAq_l (za := E za) (zfs := E zfs) (zv := E zv) (zn := E zn) (zw := E zw) (zo := E zo) (zm := E zm) (zp := E zp) (zq := E zq) (zz := E zz) (zu := E zu) (zy := E zy) (zt := E zt) (ze := E ze) (rk := rk) (rf := rf) (rs := rs) (rh := rh) f0 f1 f2 f3 f4 c0 c1 c2 c3 d0 d1 o0 o1 o2 o3
    have t0 : gF (gT L sc) (gN L sc) 1 [A rk, A rf, A rs, A rh] [] [E (gA za 1), E zfs, E zv] := by
      try simp only [hA, hZ]
      exact R
    exact (gMc (gA9_0.mpr (t0)) gMn)
  · cases h
theorem gX_SG0_l {zn zfs zv : Int} {rk rf rs rh ra rb : Nat} (f0 : gF (gT L sc) (gN L sc) 1 [A rk, A rf, A rs, A rh] [] [zn, zfs, zv]) : (gF (gT L sc) (gN L sc) 2 [A rk, A rf, A rs, A rh, A ra, A rb] [] [zn, (0 : Int), zfs, zv]) := by
  obtain ⟨ha, hv⟩ : 0 ≤ zn ∧ zv = fSA (A rk) (A rf) (A rs) (A rh) zfs zn.toNat := f0
  refine ⟨Int.le_refl _, ?_⟩
  show zv = fSA (A rk) (A rf) (A rs) (A rh) zfs zn.toNat - 0
  omega
def gX_SG0 (vs : List sV) (cs : List Nat) : Option gRy := match vs, cs with
  | [zn, zfs, zv], [rk, rf, rs, rh, ra, rb] => some ([(80, [zn, zfs, zv], [0, 1, 4, rk, rf, rs, rh])], [], [], [], [], [(80, [zn, (0, 0), zfs, zv], [0, 2, 6, rk, rf, rs, rh, ra, rb])])
  | _, _ => none
theorem gX_SG0_ok : gSy gX_SG0 := by
  intro vs cs u h A L sc E hA hZ hF hC hD hO hP
  unfold gX_SG0 at h
  split at h
  · rename_i zn zfs zv rk rf rs rh ra rb
    cases h
    obtain ⟨f0, hF⟩ := gMa hF
    have f0 : gF (gT L sc) (gN L sc) 1 [A rk, A rf, A rs, A rh] [] [E zn, E zfs, E zv] := gA9_0.mp f0
    try simp only [hA, hZ] at f0
    have R := gX_SG0_l (zn := E zn) (zfs := E zfs) (zv := E zv) (rk := rk) (rf := rf) (rs := rs) (rh := rh) (ra := ra) (rb := rb) f0
    have t0 : gF (gT L sc) (gN L sc) 2 [A rk, A rf, A rs, A rh, A ra, A rb] [] [E zn, E (0, 0), E zfs, E zv] := by
      try simp only [hA, hZ]
      exact R
    exact (gMc (gA9_0.mpr (t0)) gMn)
  · cases h
theorem gX_SGa_l {zn zi zfs zv zx zz : Int} {rk rf rs rh ra rb : Nat} (f0 : gF (gT L sc) (gN L sc) 2 [A rk, A rf, A rs, A rh, A ra, A rb] [] [zn, zi, zfs, zv]) (f1 : 0 ≤ zi ∧ (A ra (zi).toNat).toInt = zx) (f2 : 0 ≤ zx ∧ (A rk (zx).toNat).toInt = zz) (c0 : (4 : Int) ≤ zz) (c1 : zz ≤ (4 : Int)) : (gF (gT L sc) (gN L sc) 2 [A rk, A rf, A rs, A rh, A ra, A rb] [] [zn, zi + 1, zfs, zv + -1]) := by
  obtain ⟨hi, hv⟩ : 0 ≤ zi ∧ zv = fSW (A rk) (A rf) (A rs) (A rh) (A ra) (A rb) zn zi zfs := f0
  refine ⟨by omega, ?_⟩
  unfold fSW at hv ⊢
  rw [fSG_succ hi]
  have e2 : fI (A ra) zi = zx := f1.2
  have e3 : fI (A rk) zx = zz := f2.2
  have e1 : fdG (A rk) (A rf) (A rs) (A ra) (A rb) zfs zi = 1 := if_pos (Or.inl (by rw [e2, e3]; omega))
  rw [e1]
  omega
def gX_SGa (vs : List sV) (cs : List Nat) : Option gRy := match vs, cs with
  | [zn, zi, zfs, zv, zx, zz], [rk, rf, rs, rh, ra, rb] => some ([(80, [zn, zi, zfs, zv], [0, 2, 6, rk, rf, rs, rh, ra, rb]), (15, [zi, zx], [ra]), (15, [zx, zz], [rk])], [(zz, (0, 4)), ((0, 4), zz)], [], [], [], [(80, [zn, gA zi 1, zfs, gA zv (-1)], [0, 2, 6, rk, rf, rs, rh, ra, rb])])
  | _, _ => none
theorem gX_SGa_ok : gSy gX_SGa := by
  intro vs cs u h A L sc E hA hZ hF hC hD hO hP
  unfold gX_SGa at h
  split at h
  · rename_i zn zi zfs zv zx zz rk rf rs rh ra rb
    cases h
    obtain ⟨f0, hF⟩ := gMa hF
    have f0 : gF (gT L sc) (gN L sc) 2 [A rk, A rf, A rs, A rh, A ra, A rb] [] [E zn, E zi, E zfs, E zv] := gA9_0.mp f0
    obtain ⟨f1, hF⟩ := gMa hF
    have f1 : 0 ≤ E zi ∧ (A ra (E zi).toNat).toInt = E zx := f1
    obtain ⟨f2, hF⟩ := gMa hF
    have f2 : 0 ≤ E zx ∧ (A rk (E zx).toNat).toInt = E zz := f2
    obtain ⟨c0, hC⟩ := gMa hC
    have c0 : E (0, 4) ≤ E zz := c0
    obtain ⟨c1, hC⟩ := gMa hC
    have c1 : E zz ≤ E (0, 4) := c1
    try simp only [hA, hZ] at f0 f1 f2 c0 c1
    have R := gX_SGa_l (zn := E zn) (zi := E zi) (zfs := E zfs) (zv := E zv) (zx := E zx) (zz := E zz) (rk := rk) (rf := rf) (rs := rs) (rh := rh) (ra := ra) (rb := rb) f0 f1 f2 c0 c1
    have t0 : gF (gT L sc) (gN L sc) 2 [A rk, A rf, A rs, A rh, A ra, A rb] [] [E zn, E (gA zi 1), E zfs, E (gA zv (-1))] := by
      try simp only [hA, hZ]
      exact R
    exact (gMc (gA9_0.mpr (t0)) gMn)
  · cases h
theorem gX_SGb_l {zn zi zfs zv zx zz : Int} {rk rf rs rh ra rb : Nat} (f0 : gF (gT L sc) (gN L sc) 2 [A rk, A rf, A rs, A rh, A ra, A rb] [] [zn, zi, zfs, zv]) (f1 : 0 ≤ zi ∧ (A rb (zi).toNat).toInt = zx) (f2 : 0 ≤ zx ∧ (A rk (zx).toNat).toInt = zz) (c0 : (4 : Int) ≤ zz) (c1 : zz ≤ (4 : Int)) : (gF (gT L sc) (gN L sc) 2 [A rk, A rf, A rs, A rh, A ra, A rb] [] [zn, zi + 1, zfs, zv + -1]) := by
  obtain ⟨hi, hv⟩ : 0 ≤ zi ∧ zv = fSW (A rk) (A rf) (A rs) (A rh) (A ra) (A rb) zn zi zfs := f0
  refine ⟨by omega, ?_⟩
  unfold fSW at hv ⊢
  rw [fSG_succ hi]
  have e2 : fI (A rb) zi = zx := f1.2
  have e3 : fI (A rk) zx = zz := f2.2
  have e1 : fdG (A rk) (A rf) (A rs) (A ra) (A rb) zfs zi = 1 := if_pos (Or.inr (Or.inl (by rw [e2, e3]; omega)))
  rw [e1]
  omega
def gX_SGb (vs : List sV) (cs : List Nat) : Option gRy := match vs, cs with
  | [zn, zi, zfs, zv, zx, zz], [rk, rf, rs, rh, ra, rb] => some ([(80, [zn, zi, zfs, zv], [0, 2, 6, rk, rf, rs, rh, ra, rb]), (15, [zi, zx], [rb]), (15, [zx, zz], [rk])], [(zz, (0, 4)), ((0, 4), zz)], [], [], [], [(80, [zn, gA zi 1, zfs, gA zv (-1)], [0, 2, 6, rk, rf, rs, rh, ra, rb])])
  | _, _ => none
theorem gX_SGb_ok : gSy gX_SGb := by
  intro vs cs u h A L sc E hA hZ hF hC hD hO hP
  unfold gX_SGb at h
  split at h
  · rename_i zn zi zfs zv zx zz rk rf rs rh ra rb
    cases h
    obtain ⟨f0, hF⟩ := gMa hF
    have f0 : gF (gT L sc) (gN L sc) 2 [A rk, A rf, A rs, A rh, A ra, A rb] [] [E zn, E zi, E zfs, E zv] := gA9_0.mp f0
    obtain ⟨f1, hF⟩ := gMa hF
    have f1 : 0 ≤ E zi ∧ (A rb (E zi).toNat).toInt = E zx := f1
    obtain ⟨f2, hF⟩ := gMa hF
    have f2 : 0 ≤ E zx ∧ (A rk (E zx).toNat).toInt = E zz := f2
    obtain ⟨c0, hC⟩ := gMa hC
    have c0 : E (0, 4) ≤ E zz := c0
    obtain ⟨c1, hC⟩ := gMa hC
    have c1 : E zz ≤ E (0, 4) := c1
    try simp only [hA, hZ] at f0 f1 f2 c0 c1
    have R := gX_SGb_l (zn := E zn) (zi := E zi) (zfs := E zfs) (zv := E zv) (zx := E zx) (zz := E zz) (rk := rk) (rf := rf) (rs := rs) (rh := rh) (ra := ra) (rb := rb) f0 f1 f2 c0 c1
    have t0 : gF (gT L sc) (gN L sc) 2 [A rk, A rf, A rs, A rh, A ra, A rb] [] [E zn, E (gA zi 1), E zfs, E (gA zv (-1))] := by
      try simp only [hA, hZ]
      exact R
    exact (gMc (gA9_0.mpr (t0)) gMn)
  · cases h
theorem gX_SGe_l {zn zi zfs zv zx zy zg zc zu zt ze zj zd zp zq zo : Int} {rk rf rs rh ra rb : Nat} (f0 : gF (gT L sc) (gN L sc) 2 [A rk, A rf, A rs, A rh, A ra, A rb] [] [zn, zi, zfs, zv]) (f1 : 0 ≤ zi ∧ (A ra (zi).toNat).toInt = zx) (f2 : 0 ≤ zi ∧ (A rb (zi).toNat).toInt = zy) (f3 : 0 ≤ zx ∧ (A rf (zx).toNat).toInt = zg) (f4 : 0 ≤ zx ∧ (A rs (zx).toNat).toInt = zc) (f5 : 0 ≤ zy ∧ (A rf (zy).toNat).toInt = zj) (f6 : 0 ≤ zy ∧ (A rs (zy).toNat).toInt = zd) (c0 : zo ≤ ze) (c1 : ze ≤ zo) (o0 : zu = gBo 11 (zfs) (zg)) (o1 : zt = gBo 7 (zu) ((1 : Int))) (o2 : ze = gBo 9 (zc) (zt)) (o3 : zp = gBo 11 (zfs) (zj)) (o4 : zq = gBo 7 (zp) ((1 : Int))) (o5 : zo = gBo 9 (zd) (zq)) : (gF (gT L sc) (gN L sc) 2 [A rk, A rf, A rs, A rh, A ra, A rb] [] [zn, zi + 1, zfs, zv + -1]) := by
  obtain ⟨hi, hv⟩ : 0 ≤ zi ∧ zv = fSW (A rk) (A rf) (A rs) (A rh) (A ra) (A rb) zn zi zfs := f0
  refine ⟨by omega, ?_⟩
  unfold fSW at hv ⊢
  rw [fSG_succ hi]
  have e2 : fI (A ra) zi = zx := f1.2
  have e3 : fI (A rb) zi = zy := f2.2
  have e4 : fI (A rf) zx = zg := f3.2
  have e5 : fI (A rs) zx = zc := f4.2
  have e6 : fI (A rf) zy = zj := f5.2
  have e7 : fI (A rs) zy = zd := f6.2
  have e8 : fAf (A rf) (A rs) zfs zx = ze := by
    unfold fAf gBit
    rw [e4, e5, ← o0, ← o1, ← o2]
  have e9 : fAf (A rf) (A rs) zfs zy = zo := by
    unfold fAf gBit
    rw [e6, e7, ← o3, ← o4, ← o5]
  have e1 : fdG (A rk) (A rf) (A rs) (A ra) (A rb) zfs zi = 1 := if_pos (Or.inr (Or.inr (by rw [e2, e3, e8, e9]; omega)))
  rw [e1]
  omega
def gX_SGe (vs : List sV) (cs : List Nat) : Option gRy := match vs, cs with
  | [zn, zi, zfs, zv, zx, zy, zg, zc, zu, zt, ze, zj, zd, zp, zq, zo], [rk, rf, rs, rh, ra, rb] => some ([(80, [zn, zi, zfs, zv], [0, 2, 6, rk, rf, rs, rh, ra, rb]), (15, [zi, zx], [ra]), (15, [zi, zy], [rb]), (15, [zx, zg], [rf]), (15, [zx, zc], [rs]), (15, [zy, zj], [rf]), (15, [zy, zd], [rs])], [(ze, zo), (zo, ze)], [], [(zu, zfs, zg, 11), (zt, zu, (0, 1), 7), (ze, zc, zt, 9), (zp, zfs, zj, 11), (zq, zp, (0, 1), 7), (zo, zd, zq, 9)], [], [(80, [zn, gA zi 1, zfs, gA zv (-1)], [0, 2, 6, rk, rf, rs, rh, ra, rb])])
  | _, _ => none
theorem gX_SGe_ok : gSy gX_SGe := by
  intro vs cs u h A L sc E hA hZ hF hC hD hO hP
  unfold gX_SGe at h
  split at h
  · rename_i zn zi zfs zv zx zy zg zc zu zt ze zj zd zp zq zo rk rf rs rh ra rb
    cases h
    obtain ⟨f0, hF⟩ := gMa hF
    have f0 : gF (gT L sc) (gN L sc) 2 [A rk, A rf, A rs, A rh, A ra, A rb] [] [E zn, E zi, E zfs, E zv] := gA9_0.mp f0
    obtain ⟨f1, hF⟩ := gMa hF
    have f1 : 0 ≤ E zi ∧ (A ra (E zi).toNat).toInt = E zx := f1
    obtain ⟨f2, hF⟩ := gMa hF
    have f2 : 0 ≤ E zi ∧ (A rb (E zi).toNat).toInt = E zy := f2
    obtain ⟨f3, hF⟩ := gMa hF
    have f3 : 0 ≤ E zx ∧ (A rf (E zx).toNat).toInt = E zg := f3
    obtain ⟨f4, hF⟩ := gMa hF
    have f4 : 0 ≤ E zx ∧ (A rs (E zx).toNat).toInt = E zc := f4
    obtain ⟨f5, hF⟩ := gMa hF
    have f5 : 0 ≤ E zy ∧ (A rf (E zy).toNat).toInt = E zj := f5
    obtain ⟨f6, hF⟩ := gMa hF
    have f6 : 0 ≤ E zy ∧ (A rs (E zy).toNat).toInt = E zd := f6
    obtain ⟨c0, hC⟩ := gMa hC
    have c0 : E zo ≤ E ze := c0
    obtain ⟨c1, hC⟩ := gMa hC
    have c1 : E ze ≤ E zo := c1
    obtain ⟨o0, hO⟩ := gMa hO
    have o0 : E zu = gBo 11 (E zfs) (E zg) := o0
    obtain ⟨o1, hO⟩ := gMa hO
    have o1 : E zt = gBo 7 (E zu) (E (0, 1)) := o1
    obtain ⟨o2, hO⟩ := gMa hO
    have o2 : E ze = gBo 9 (E zc) (E zt) := o2
    obtain ⟨o3, hO⟩ := gMa hO
    have o3 : E zp = gBo 11 (E zfs) (E zj) := o3
    obtain ⟨o4, hO⟩ := gMa hO
    have o4 : E zq = gBo 7 (E zp) (E (0, 1)) := o4
    obtain ⟨o5, hO⟩ := gMa hO
    have o5 : E zo = gBo 9 (E zd) (E zq) := o5
    try simp only [hA, hZ] at f0 f1 f2 f3 f4 f5 f6 c0 c1 o0 o1 o2 o3 o4 o5
    have R := gX_SGe_l (zn := E zn) (zi := E zi) (zfs := E zfs) (zv := E zv) (zx := E zx) (zy := E zy) (zg := E zg) (zc := E zc) (zu := E zu) (zt := E zt) (ze := E ze) (zj := E zj) (zd := E zd) (zp := E zp) (zq := E zq) (zo := E zo) (rk := rk) (rf := rf) (rs := rs) (rh := rh) (ra := ra) (rb := rb) f0 f1 f2 f3 f4 f5 f6 c0 c1 o0 o1 o2 o3 o4 o5
    have t0 : gF (gT L sc) (gN L sc) 2 [A rk, A rf, A rs, A rh, A ra, A rb] [] [E zn, E (gA zi 1), E zfs, E (gA zv (-1))] := by
      try simp only [hA, hZ]
      exact R
    exact (gMc (gA9_0.mpr (t0)) gMn)
  · cases h
theorem gX_SGn_l {zn zi zfs zv zx zy zg zc zu zt ze zj zd zp zq zo zz zl : Int} {rk rf rs rh ra rb : Nat} (f0 : gF (gT L sc) (gN L sc) 2 [A rk, A rf, A rs, A rh, A ra, A rb] [] [zn, zi, zfs, zv]) (f1 : 0 ≤ zi ∧ (A ra (zi).toNat).toInt = zx) (f2 : 0 ≤ zi ∧ (A rb (zi).toNat).toInt = zy) (f3 : 0 ≤ zx ∧ (A rf (zx).toNat).toInt = zg) (f4 : 0 ≤ zx ∧ (A rs (zx).toNat).toInt = zc) (f5 : 0 ≤ zy ∧ (A rf (zy).toNat).toInt = zj) (f6 : 0 ≤ zy ∧ (A rs (zy).toNat).toInt = zd) (f7 : 0 ≤ zx ∧ (A rk (zx).toNat).toInt = zz) (f8 : 0 ≤ zy ∧ (A rk (zy).toNat).toInt = zl) (d0 : zz ≠ (4 : Int)) (d1 : zl ≠ (4 : Int)) (d2 : ze ≠ zo) (o0 : zu = gBo 11 (zfs) (zg)) (o1 : zt = gBo 7 (zu) ((1 : Int))) (o2 : ze = gBo 9 (zc) (zt)) (o3 : zp = gBo 11 (zfs) (zj)) (o4 : zq = gBo 7 (zp) ((1 : Int))) (o5 : zo = gBo 9 (zd) (zq)) : (gF (gT L sc) (gN L sc) 2 [A rk, A rf, A rs, A rh, A ra, A rb] [] [zn, zi + 1, zfs, zv]) := by
  obtain ⟨hi, hv⟩ : 0 ≤ zi ∧ zv = fSW (A rk) (A rf) (A rs) (A rh) (A ra) (A rb) zn zi zfs := f0
  refine ⟨by omega, ?_⟩
  unfold fSW at hv ⊢
  rw [fSG_succ hi]
  have e2 : fI (A ra) zi = zx := f1.2
  have e3 : fI (A rb) zi = zy := f2.2
  have e4 : fI (A rf) zx = zg := f3.2
  have e5 : fI (A rs) zx = zc := f4.2
  have e6 : fI (A rf) zy = zj := f5.2
  have e7 : fI (A rs) zy = zd := f6.2
  have e8 : fAf (A rf) (A rs) zfs zx = ze := by
    unfold fAf gBit
    rw [e4, e5, ← o0, ← o1, ← o2]
  have e9 : fAf (A rf) (A rs) zfs zy = zo := by
    unfold fAf gBit
    rw [e6, e7, ← o3, ← o4, ← o5]
  have k1 : fI (A rk) zx = zz := f7.2
  have k2 : fI (A rk) zy = zl := f8.2
  have e1 : fdG (A rk) (A rf) (A rs) (A ra) (A rb) zfs zi = 0 := if_neg (by
    rintro (q | q | q)
    · rw [e2, k1] at q; exact d0 q
    · rw [e3, k2] at q; exact d1 q
    · rw [e2, e3, e8, e9] at q; exact d2 q)
  rw [e1]
  omega
def gX_SGn (vs : List sV) (cs : List Nat) : Option gRy := match vs, cs with
  | [zn, zi, zfs, zv, zx, zy, zg, zc, zu, zt, ze, zj, zd, zp, zq, zo, zz, zl], [rk, rf, rs, rh, ra, rb] => some ([(80, [zn, zi, zfs, zv], [0, 2, 6, rk, rf, rs, rh, ra, rb]), (15, [zi, zx], [ra]), (15, [zi, zy], [rb]), (15, [zx, zg], [rf]), (15, [zx, zc], [rs]), (15, [zy, zj], [rf]), (15, [zy, zd], [rs]), (15, [zx, zz], [rk]), (15, [zy, zl], [rk])], [], [(zz, (0, 4)), (zl, (0, 4)), (ze, zo)], [(zu, zfs, zg, 11), (zt, zu, (0, 1), 7), (ze, zc, zt, 9), (zp, zfs, zj, 11), (zq, zp, (0, 1), 7), (zo, zd, zq, 9)], [], [(80, [zn, gA zi 1, zfs, zv], [0, 2, 6, rk, rf, rs, rh, ra, rb])])
  | _, _ => none
theorem gX_SGn_ok : gSy gX_SGn := by
  intro vs cs u h A L sc E hA hZ hF hC hD hO hP
  unfold gX_SGn at h
  split at h
  · rename_i zn zi zfs zv zx zy zg zc zu zt ze zj zd zp zq zo zz zl rk rf rs rh ra rb
    cases h
    obtain ⟨f0, hF⟩ := gMa hF
    have f0 : gF (gT L sc) (gN L sc) 2 [A rk, A rf, A rs, A rh, A ra, A rb] [] [E zn, E zi, E zfs, E zv] := gA9_0.mp f0
    obtain ⟨f1, hF⟩ := gMa hF
    have f1 : 0 ≤ E zi ∧ (A ra (E zi).toNat).toInt = E zx := f1
    obtain ⟨f2, hF⟩ := gMa hF
    have f2 : 0 ≤ E zi ∧ (A rb (E zi).toNat).toInt = E zy := f2
    obtain ⟨f3, hF⟩ := gMa hF
    have f3 : 0 ≤ E zx ∧ (A rf (E zx).toNat).toInt = E zg := f3
    obtain ⟨f4, hF⟩ := gMa hF
    have f4 : 0 ≤ E zx ∧ (A rs (E zx).toNat).toInt = E zc := f4
    obtain ⟨f5, hF⟩ := gMa hF
    have f5 : 0 ≤ E zy ∧ (A rf (E zy).toNat).toInt = E zj := f5
    obtain ⟨f6, hF⟩ := gMa hF
    have f6 : 0 ≤ E zy ∧ (A rs (E zy).toNat).toInt = E zd := f6
    obtain ⟨f7, hF⟩ := gMa hF
    have f7 : 0 ≤ E zx ∧ (A rk (E zx).toNat).toInt = E zz := f7
    obtain ⟨f8, hF⟩ := gMa hF
    have f8 : 0 ≤ E zy ∧ (A rk (E zy).toNat).toInt = E zl := f8
    obtain ⟨d0, hD⟩ := gMa hD
    have d0 : E zz ≠ E (0, 4) := d0
    obtain ⟨d1, hD⟩ := gMa hD
    have d1 : E zl ≠ E (0, 4) := d1
    obtain ⟨d2, hD⟩ := gMa hD
    have d2 : E ze ≠ E zo := d2
    obtain ⟨o0, hO⟩ := gMa hO
    have o0 : E zu = gBo 11 (E zfs) (E zg) := o0
    obtain ⟨o1, hO⟩ := gMa hO
    have o1 : E zt = gBo 7 (E zu) (E (0, 1)) := o1
    obtain ⟨o2, hO⟩ := gMa hO
    have o2 : E ze = gBo 9 (E zc) (E zt) := o2
    obtain ⟨o3, hO⟩ := gMa hO
    have o3 : E zp = gBo 11 (E zfs) (E zj) := o3
    obtain ⟨o4, hO⟩ := gMa hO
    have o4 : E zq = gBo 7 (E zp) (E (0, 1)) := o4
    obtain ⟨o5, hO⟩ := gMa hO
    have o5 : E zo = gBo 9 (E zd) (E zq) := o5
    try simp only [hA, hZ] at f0 f1 f2 f3 f4 f5 f6 f7 f8 d0 d1 d2 o0 o1 o2 o3 o4 o5
    have R := gX_SGn_l (zn := E zn) (zi := E zi) (zfs := E zfs) (zv := E zv) (zx := E zx) (zy := E zy) (zg := E zg) (zc := E zc) (zu := E zu) (zt := E zt) (ze := E ze) (zj := E zj) (zd := E zd) (zp := E zp) (zq := E zq) (zo := E zo) (zz := E zz) (zl := E zl) (rk := rk) (rf := rf) (rs := rs) (rh := rh) (ra := ra) (rb := rb) f0 f1 f2 f3 f4 f5 f6 f7 f8 d0 d1 d2 o0 o1 o2 o3 o4 o5
    have t0 : gF (gT L sc) (gN L sc) 2 [A rk, A rf, A rs, A rh, A ra, A rb] [] [E zn, E (gA zi 1), E zfs, E zv] := by
      try simp only [hA, hZ]
      exact R
    exact (gMc (gA9_0.mpr (t0)) gMn)
  · cases h
theorem gX_SGr_l {zn zi zfs zv zj zw zo zm zx zy zz zl zu zt zp zq : Int} {rk rf rs rh ra rb : Nat} (f0 : gF (gT L sc) (gN L sc) 2 [A rk, A rf, A rs, A rh, A ra, A rb] [] [zn, zi, zfs, zv]) (f1 : gF (gT L sc) (gN L sc) 3 [A rk, A rf] [] [zj, zfs, zw, zo]) (f2 : gA6 A [rs, 0] [zo, zm, (0 : Int)]) (f3 : 0 ≤ zi ∧ (A ra (zi).toNat).toInt = zx) (f4 : 0 ≤ zi ∧ (A rb (zi).toNat).toInt = zy) (f5 : 0 ≤ zx ∧ (A rk (zx).toNat).toInt = zz) (f6 : 0 ≤ zy ∧ (A rk (zy).toNat).toInt = zl) (c0 : zx + 1 ≤ zj) (c1 : zy + 1 ≤ zj) (c2 : zx + 1 ≤ zm) (c3 : zy + 1 ≤ zm) (c4 : zx + 1 ≤ (8 : Int)) (c5 : zy + 1 ≤ (8 : Int)) (c6 : zq ≤ zt) (c7 : zt ≤ zq) (d0 : zz ≠ (4 : Int)) (d1 : zl ≠ (4 : Int)) (o0 : zu = gBo 11 (zw) (zx)) (o1 : zt = gBo 7 (zu) ((1 : Int))) (o2 : zp = gBo 11 (zw) (zy)) (o3 : zq = gBo 7 (zp) ((1 : Int))) : (gF (gT L sc) (gN L sc) 2 [A rk, A rf, A rs, A rh, A ra, A rb] [] [zn, zi + 1, zfs, zv + -1]) := by
  obtain ⟨hi, hv⟩ : 0 ≤ zi ∧ zv = fSW (A rk) (A rf) (A rs) (A rh) (A ra) (A rb) zn zi zfs := f0
  refine ⟨by omega, ?_⟩
  unfold fSW at hv ⊢
  rw [fSG_succ hi]
  have e2 : fI (A ra) zi = zx := f3.2
  have e3 : fI (A rb) zi = zy := f4.2
  have k1 : fI (A rk) zx = zz := f5.2
  have k2 : fI (A rk) zy = zl := f6.2
  have f1 : 0 ≤ zj ∧ ∀ j : Nat, j < 8 → gBit zw (j : Int) = if (j : Int) < zj ∧ fI (A rk) (j : Int) ≠ 4 ∧ gBit zfs (fI (A rf) (j : Int)) = 1 then 1 - gBit zo (j : Int) else gBit zo (j : Int) := f1
  have s1 := gA6_at f2
  have e4 := fAf_ref (a := zx) f1.2 s1 f5.1 (by omega) (by omega) (by omega) (by rw [k1]; exact d0)
  have e5 := fAf_ref (a := zy) f1.2 s1 f6.1 (by omega) (by omega) (by omega) (by rw [k2]; exact d1)
  have e7 : gBit zw zx = zt := by
    unfold gBit
    rw [← o0, ← o1]
  have e8 : gBit zw zy = zq := by
    unfold gBit
    rw [← o2, ← o3]
  have e1 : fdG (A rk) (A rf) (A rs) (A ra) (A rb) zfs zi = 1 := if_pos (Or.inr (Or.inr (by rw [e2, e3, e4, e5, e7, e8]; omega)))
  rw [e1]
  omega
def gX_SGr (vs : List sV) (cs : List Nat) : Option gRy := match vs, cs with
  | [zn, zi, zfs, zv, zj, zw, zo, zm, zx, zy, zz, zl, zu, zt, zp, zq], [rk, rf, rs, rh, ra, rb] => some ([(80, [zn, zi, zfs, zv], [0, 2, 6, rk, rf, rs, rh, ra, rb]), (80, [zj, zfs, zw, zo], [0, 3, 2, rk, rf]), (66, [zo, zm, (0, 0)], [rs, 0]), (15, [zi, zx], [ra]), (15, [zi, zy], [rb]), (15, [zx, zz], [rk]), (15, [zy, zl], [rk])], [(zj, gA zx 1), (zj, gA zy 1), (zm, gA zx 1), (zm, gA zy 1), ((0, 8), gA zx 1), ((0, 8), gA zy 1), (zt, zq), (zq, zt)], [(zz, (0, 4)), (zl, (0, 4))], [(zu, zw, zx, 11), (zt, zu, (0, 1), 7), (zp, zw, zy, 11), (zq, zp, (0, 1), 7)], [], [(80, [zn, gA zi 1, zfs, gA zv (-1)], [0, 2, 6, rk, rf, rs, rh, ra, rb])])
  | _, _ => none
theorem gX_SGr_ok : gSy gX_SGr := by
  intro vs cs u h A L sc E hA hZ hF hC hD hO hP
  unfold gX_SGr at h
  split at h
  · rename_i zn zi zfs zv zj zw zo zm zx zy zz zl zu zt zp zq rk rf rs rh ra rb
    cases h
    obtain ⟨f0, hF⟩ := gMa hF
    have f0 : gF (gT L sc) (gN L sc) 2 [A rk, A rf, A rs, A rh, A ra, A rb] [] [E zn, E zi, E zfs, E zv] := gA9_0.mp f0
    obtain ⟨f1, hF⟩ := gMa hF
    have f1 : gF (gT L sc) (gN L sc) 3 [A rk, A rf] [] [E zj, E zfs, E zw, E zo] := gA9_0.mp f1
    obtain ⟨f2, hF⟩ := gMa hF
    have f2 : gA6 A [rs, 0] [E zo, E zm, E (0, 0)] := f2
    obtain ⟨f3, hF⟩ := gMa hF
    have f3 : 0 ≤ E zi ∧ (A ra (E zi).toNat).toInt = E zx := f3
    obtain ⟨f4, hF⟩ := gMa hF
    have f4 : 0 ≤ E zi ∧ (A rb (E zi).toNat).toInt = E zy := f4
    obtain ⟨f5, hF⟩ := gMa hF
    have f5 : 0 ≤ E zx ∧ (A rk (E zx).toNat).toInt = E zz := f5
    obtain ⟨f6, hF⟩ := gMa hF
    have f6 : 0 ≤ E zy ∧ (A rk (E zy).toNat).toInt = E zl := f6
    obtain ⟨c0, hC⟩ := gMa hC
    have c0 : E (gA zx 1) ≤ E zj := c0
    obtain ⟨c1, hC⟩ := gMa hC
    have c1 : E (gA zy 1) ≤ E zj := c1
    obtain ⟨c2, hC⟩ := gMa hC
    have c2 : E (gA zx 1) ≤ E zm := c2
    obtain ⟨c3, hC⟩ := gMa hC
    have c3 : E (gA zy 1) ≤ E zm := c3
    obtain ⟨c4, hC⟩ := gMa hC
    have c4 : E (gA zx 1) ≤ E (0, 8) := c4
    obtain ⟨c5, hC⟩ := gMa hC
    have c5 : E (gA zy 1) ≤ E (0, 8) := c5
    obtain ⟨c6, hC⟩ := gMa hC
    have c6 : E zq ≤ E zt := c6
    obtain ⟨c7, hC⟩ := gMa hC
    have c7 : E zt ≤ E zq := c7
    obtain ⟨d0, hD⟩ := gMa hD
    have d0 : E zz ≠ E (0, 4) := d0
    obtain ⟨d1, hD⟩ := gMa hD
    have d1 : E zl ≠ E (0, 4) := d1
    obtain ⟨o0, hO⟩ := gMa hO
    have o0 : E zu = gBo 11 (E zw) (E zx) := o0
    obtain ⟨o1, hO⟩ := gMa hO
    have o1 : E zt = gBo 7 (E zu) (E (0, 1)) := o1
    obtain ⟨o2, hO⟩ := gMa hO
    have o2 : E zp = gBo 11 (E zw) (E zy) := o2
    obtain ⟨o3, hO⟩ := gMa hO
    have o3 : E zq = gBo 7 (E zp) (E (0, 1)) := o3
    try simp only [hA, hZ] at f0 f1 f2 f3 f4 f5 f6 c0 c1 c2 c3 c4 c5 c6 c7 d0 d1 o0 o1 o2 o3
    have R := gX_SGr_l (zn := E zn) (zi := E zi) (zfs := E zfs) (zv := E zv) (zj := E zj) (zw := E zw) (zo := E zo) (zm := E zm) (zx := E zx) (zy := E zy) (zz := E zz) (zl := E zl) (zu := E zu) (zt := E zt) (zp := E zp) (zq := E zq) (rk := rk) (rf := rf) (rs := rs) (rh := rh) (ra := ra) (rb := rb) f0 f1 f2 f3 f4 f5 f6 c0 c1 c2 c3 c4 c5 c6 c7 d0 d1 o0 o1 o2 o3
    have t0 : gF (gT L sc) (gN L sc) 2 [A rk, A rf, A rs, A rh, A ra, A rb] [] [E zn, E (gA zi 1), E zfs, E (gA zv (-1))] := by
      try simp only [hA, hZ]
      exact R
    exact (gMc (gA9_0.mpr (t0)) gMn)
  · cases h
theorem gX_SGs_l {zn zi zfs zv zj zw zo zm zx zy zz zl zu zt zp zq : Int} {rk rf rs rh ra rb : Nat} (f0 : gF (gT L sc) (gN L sc) 2 [A rk, A rf, A rs, A rh, A ra, A rb] [] [zn, zi, zfs, zv]) (f1 : gF (gT L sc) (gN L sc) 3 [A rk, A rf] [] [zj, zfs, zw, zo]) (f2 : gA6 A [rs, 0] [zo, zm, (0 : Int)]) (f3 : 0 ≤ zi ∧ (A ra (zi).toNat).toInt = zx) (f4 : 0 ≤ zi ∧ (A rb (zi).toNat).toInt = zy) (f5 : 0 ≤ zx ∧ (A rk (zx).toNat).toInt = zz) (f6 : 0 ≤ zy ∧ (A rk (zy).toNat).toInt = zl) (c0 : zx + 1 ≤ zj) (c1 : zy + 1 ≤ zj) (c2 : zx + 1 ≤ zm) (c3 : zy + 1 ≤ zm) (c4 : zx + 1 ≤ (8 : Int)) (c5 : zy + 1 ≤ (8 : Int)) (d0 : zz ≠ (4 : Int)) (d1 : zl ≠ (4 : Int)) (d2 : zt ≠ zq) (o0 : zu = gBo 11 (zw) (zx)) (o1 : zt = gBo 7 (zu) ((1 : Int))) (o2 : zp = gBo 11 (zw) (zy)) (o3 : zq = gBo 7 (zp) ((1 : Int))) : (gF (gT L sc) (gN L sc) 2 [A rk, A rf, A rs, A rh, A ra, A rb] [] [zn, zi + 1, zfs, zv]) := by
  obtain ⟨hi, hv⟩ : 0 ≤ zi ∧ zv = fSW (A rk) (A rf) (A rs) (A rh) (A ra) (A rb) zn zi zfs := f0
  refine ⟨by omega, ?_⟩
  unfold fSW at hv ⊢
  rw [fSG_succ hi]
  have e2 : fI (A ra) zi = zx := f3.2
  have e3 : fI (A rb) zi = zy := f4.2
  have k1 : fI (A rk) zx = zz := f5.2
  have k2 : fI (A rk) zy = zl := f6.2
  have f1 : 0 ≤ zj ∧ ∀ j : Nat, j < 8 → gBit zw (j : Int) = if (j : Int) < zj ∧ fI (A rk) (j : Int) ≠ 4 ∧ gBit zfs (fI (A rf) (j : Int)) = 1 then 1 - gBit zo (j : Int) else gBit zo (j : Int) := f1
  have s1 := gA6_at f2
  have e4 := fAf_ref (a := zx) f1.2 s1 f5.1 (by omega) (by omega) (by omega) (by rw [k1]; exact d0)
  have e5 := fAf_ref (a := zy) f1.2 s1 f6.1 (by omega) (by omega) (by omega) (by rw [k2]; exact d1)
  have e7 : gBit zw zx = zt := by
    unfold gBit
    rw [← o0, ← o1]
  have e8 : gBit zw zy = zq := by
    unfold gBit
    rw [← o2, ← o3]
  have e1 : fdG (A rk) (A rf) (A rs) (A ra) (A rb) zfs zi = 0 := if_neg (by
    rintro (q | q | q)
    · rw [e2, k1] at q; exact d0 q
    · rw [e3, k2] at q; exact d1 q
    · rw [e2, e3, e4, e5, e7, e8] at q; exact d2 q)
  rw [e1]
  omega
def gX_SGs (vs : List sV) (cs : List Nat) : Option gRy := match vs, cs with
  | [zn, zi, zfs, zv, zj, zw, zo, zm, zx, zy, zz, zl, zu, zt, zp, zq], [rk, rf, rs, rh, ra, rb] => some ([(80, [zn, zi, zfs, zv], [0, 2, 6, rk, rf, rs, rh, ra, rb]), (80, [zj, zfs, zw, zo], [0, 3, 2, rk, rf]), (66, [zo, zm, (0, 0)], [rs, 0]), (15, [zi, zx], [ra]), (15, [zi, zy], [rb]), (15, [zx, zz], [rk]), (15, [zy, zl], [rk])], [(zj, gA zx 1), (zj, gA zy 1), (zm, gA zx 1), (zm, gA zy 1), ((0, 8), gA zx 1), ((0, 8), gA zy 1)], [(zz, (0, 4)), (zl, (0, 4)), (zt, zq)], [(zu, zw, zx, 11), (zt, zu, (0, 1), 7), (zp, zw, zy, 11), (zq, zp, (0, 1), 7)], [], [(80, [zn, gA zi 1, zfs, zv], [0, 2, 6, rk, rf, rs, rh, ra, rb])])
  | _, _ => none
theorem gX_SGs_ok : gSy gX_SGs := by
  intro vs cs u h A L sc E hA hZ hF hC hD hO hP
  unfold gX_SGs at h
  split at h
  · rename_i zn zi zfs zv zj zw zo zm zx zy zz zl zu zt zp zq rk rf rs rh ra rb
    cases h
    obtain ⟨f0, hF⟩ := gMa hF
    have f0 : gF (gT L sc) (gN L sc) 2 [A rk, A rf, A rs, A rh, A ra, A rb] [] [E zn, E zi, E zfs, E zv] := gA9_0.mp f0
    obtain ⟨f1, hF⟩ := gMa hF
    have f1 : gF (gT L sc) (gN L sc) 3 [A rk, A rf] [] [E zj, E zfs, E zw, E zo] := gA9_0.mp f1
    obtain ⟨f2, hF⟩ := gMa hF
    have f2 : gA6 A [rs, 0] [E zo, E zm, E (0, 0)] := f2
    obtain ⟨f3, hF⟩ := gMa hF
    have f3 : 0 ≤ E zi ∧ (A ra (E zi).toNat).toInt = E zx := f3
    obtain ⟨f4, hF⟩ := gMa hF
    have f4 : 0 ≤ E zi ∧ (A rb (E zi).toNat).toInt = E zy := f4
    obtain ⟨f5, hF⟩ := gMa hF
    have f5 : 0 ≤ E zx ∧ (A rk (E zx).toNat).toInt = E zz := f5
    obtain ⟨f6, hF⟩ := gMa hF
    have f6 : 0 ≤ E zy ∧ (A rk (E zy).toNat).toInt = E zl := f6
    obtain ⟨c0, hC⟩ := gMa hC
    have c0 : E (gA zx 1) ≤ E zj := c0
    obtain ⟨c1, hC⟩ := gMa hC
    have c1 : E (gA zy 1) ≤ E zj := c1
    obtain ⟨c2, hC⟩ := gMa hC
    have c2 : E (gA zx 1) ≤ E zm := c2
    obtain ⟨c3, hC⟩ := gMa hC
    have c3 : E (gA zy 1) ≤ E zm := c3
    obtain ⟨c4, hC⟩ := gMa hC
    have c4 : E (gA zx 1) ≤ E (0, 8) := c4
    obtain ⟨c5, hC⟩ := gMa hC
    have c5 : E (gA zy 1) ≤ E (0, 8) := c5
    obtain ⟨d0, hD⟩ := gMa hD
    have d0 : E zz ≠ E (0, 4) := d0
    obtain ⟨d1, hD⟩ := gMa hD
    have d1 : E zl ≠ E (0, 4) := d1
    obtain ⟨d2, hD⟩ := gMa hD
    have d2 : E zt ≠ E zq := d2
    obtain ⟨o0, hO⟩ := gMa hO
    have o0 : E zu = gBo 11 (E zw) (E zx) := o0
    obtain ⟨o1, hO⟩ := gMa hO
    have o1 : E zt = gBo 7 (E zu) (E (0, 1)) := o1
    obtain ⟨o2, hO⟩ := gMa hO
    have o2 : E zp = gBo 11 (E zw) (E zy) := o2
    obtain ⟨o3, hO⟩ := gMa hO
    have o3 : E zq = gBo 7 (E zp) (E (0, 1)) := o3
    try simp only [hA, hZ] at f0 f1 f2 f3 f4 f5 f6 c0 c1 c2 c3 c4 c5 d0 d1 d2 o0 o1 o2 o3
    have R := gX_SGs_l (zn := E zn) (zi := E zi) (zfs := E zfs) (zv := E zv) (zj := E zj) (zw := E zw) (zo := E zo) (zm := E zm) (zx := E zx) (zy := E zy) (zz := E zz) (zl := E zl) (zu := E zu) (zt := E zt) (zp := E zp) (zq := E zq) (rk := rk) (rf := rf) (rs := rs) (rh := rh) (ra := ra) (rb := rb) f0 f1 f2 f3 f4 f5 f6 c0 c1 c2 c3 c4 c5 d0 d1 d2 o0 o1 o2 o3
    have t0 : gF (gT L sc) (gN L sc) 2 [A rk, A rf, A rs, A rh, A ra, A rb] [] [E zn, E (gA zi 1), E zfs, E zv] := by
      try simp only [hA, hZ]
      exact R
    exact (gMc (gA9_0.mpr (t0)) gMn)
  · cases h
theorem gX_FA0_l {zfs zs : Int} {rk rf : Nat}  : (gF (gT L sc) (gN L sc) 3 [A rk, A rf] [] [(0 : Int), zfs, zs, zs]) := by
  refine ⟨Int.le_refl _, fun j hj => ?_⟩
  rw [if_neg (by rintro ⟨q, -⟩; omega)]
def gX_FA0 (vs : List sV) (cs : List Nat) : Option gRy := match vs, cs with
  | [zfs, zs], [rk, rf] => some ([], [], [], [], [], [(80, [(0, 0), zfs, zs, zs], [0, 3, 2, rk, rf])])
  | _, _ => none
theorem gX_FA0_ok : gSy gX_FA0 := by
  intro vs cs u h A L sc E hA hZ hF hC hD hO hP
  unfold gX_FA0 at h
  split at h
  · rename_i zfs zs rk rf
    cases h
    have R := gX_FA0_l (A := A) (L := L) (sc := sc) (zfs := E zfs) (zs := E zs) (rk := rk) (rf := rf) 
    have t0 : gF (gT L sc) (gN L sc) 3 [A rk, A rf] [] [E (0, 0), E zfs, E zs, E zs] := by
      try simp only [hA, hZ]
      exact R
    exact (gMc (gA9_0.mpr (t0)) gMn)
  · cases h
theorem gX_FA4_l {za zfs zt zs zx : Int} {rk rf : Nat} (f0 : gF (gT L sc) (gN L sc) 3 [A rk, A rf] [] [za, zfs, zt, zs]) (f1 : 0 ≤ za ∧ (A rk (za).toNat).toInt = zx) (c0 : (4 : Int) ≤ zx) (c1 : zx ≤ (4 : Int)) : (gF (gT L sc) (gN L sc) 3 [A rk, A rf] [] [za + 1, zfs, zt, zs]) := by
  obtain ⟨ha, hb⟩ : 0 ≤ za ∧ ∀ j : Nat, j < 8 → gBit zt (j : Int) = if (j : Int) < za ∧ fI (A rk) (j : Int) ≠ 4 ∧ gBit zfs (fI (A rf) (j : Int)) = 1 then 1 - gBit zs (j : Int) else gBit zs (j : Int) := f0
  refine ⟨by omega, fun j hj => ?_⟩
  have hb := hb j hj
  have e2 : fI (A rk) za = zx := f1.2
  by_cases q : (j : Int) = za
  · rw [if_neg (by rintro ⟨q1, -⟩; omega)] at hb
    rw [if_neg (by rintro ⟨-, q2, -⟩; rw [q, e2] at q2; exact q2 (by omega))]
    exact hb
  · by_cases q1 : (j : Int) < za
    · have q3 : (j : Int) < za + 1 := by omega
      simp only [q1, q3, true_and] at hb ⊢
      exact hb
    · rw [if_neg (by rintro ⟨q2, -⟩; omega)] at hb
      rw [if_neg (by rintro ⟨q2, -⟩; omega)]
      exact hb
def gX_FA4 (vs : List sV) (cs : List Nat) : Option gRy := match vs, cs with
  | [za, zfs, zt, zs, zx], [rk, rf] => some ([(80, [za, zfs, zt, zs], [0, 3, 2, rk, rf]), (15, [za, zx], [rk])], [(zx, (0, 4)), ((0, 4), zx)], [], [], [], [(80, [gA za 1, zfs, zt, zs], [0, 3, 2, rk, rf])])
  | _, _ => none
theorem gX_FA4_ok : gSy gX_FA4 := by
  intro vs cs u h A L sc E hA hZ hF hC hD hO hP
  unfold gX_FA4 at h
  split at h
  · rename_i za zfs zt zs zx rk rf
    cases h
    obtain ⟨f0, hF⟩ := gMa hF
    have f0 : gF (gT L sc) (gN L sc) 3 [A rk, A rf] [] [E za, E zfs, E zt, E zs] := gA9_0.mp f0
    obtain ⟨f1, hF⟩ := gMa hF
    have f1 : 0 ≤ E za ∧ (A rk (E za).toNat).toInt = E zx := f1
    obtain ⟨c0, hC⟩ := gMa hC
    have c0 : E (0, 4) ≤ E zx := c0
    obtain ⟨c1, hC⟩ := gMa hC
    have c1 : E zx ≤ E (0, 4) := c1
    try simp only [hA, hZ] at f0 f1 c0 c1
    have R := gX_FA4_l (za := E za) (zfs := E zfs) (zt := E zt) (zs := E zs) (zx := E zx) (rk := rk) (rf := rf) f0 f1 c0 c1
    have t0 : gF (gT L sc) (gN L sc) 3 [A rk, A rf] [] [E (gA za 1), E zfs, E zt, E zs] := by
      try simp only [hA, hZ]
      exact R
    exact (gMc (gA9_0.mpr (t0)) gMn)
  · cases h
theorem gX_FAn_l {za zfs zt zs zg zu zy : Int} {rk rf : Nat} (f0 : gF (gT L sc) (gN L sc) 3 [A rk, A rf] [] [za, zfs, zt, zs]) (f1 : 0 ≤ za ∧ (A rf (za).toNat).toInt = zg) (d0 : zy ≠ (1 : Int)) (o0 : zu = gBo 11 (zfs) (zg)) (o1 : zy = gBo 7 (zu) ((1 : Int))) : (gF (gT L sc) (gN L sc) 3 [A rk, A rf] [] [za + 1, zfs, zt, zs]) := by
  obtain ⟨ha, hb⟩ : 0 ≤ za ∧ ∀ j : Nat, j < 8 → gBit zt (j : Int) = if (j : Int) < za ∧ fI (A rk) (j : Int) ≠ 4 ∧ gBit zfs (fI (A rf) (j : Int)) = 1 then 1 - gBit zs (j : Int) else gBit zs (j : Int) := f0
  refine ⟨by omega, fun j hj => ?_⟩
  have hb := hb j hj
  have e2 : fI (A rf) za = zg := f1.2
  have e3 : gBit zfs zg = zy := by
    unfold gBit
    rw [← o0, ← o1]
  by_cases q : (j : Int) = za
  · rw [if_neg (by rintro ⟨q1, -⟩; omega)] at hb
    rw [if_neg (by rintro ⟨-, -, q2⟩; rw [q, e2, e3] at q2; exact d0 q2)]
    exact hb
  · by_cases q1 : (j : Int) < za
    · have q3 : (j : Int) < za + 1 := by omega
      simp only [q1, q3, true_and] at hb ⊢
      exact hb
    · rw [if_neg (by rintro ⟨q2, -⟩; omega)] at hb
      rw [if_neg (by rintro ⟨q2, -⟩; omega)]
      exact hb
def gX_FAn (vs : List sV) (cs : List Nat) : Option gRy := match vs, cs with
  | [za, zfs, zt, zs, zg, zu, zy], [rk, rf] => some ([(80, [za, zfs, zt, zs], [0, 3, 2, rk, rf]), (15, [za, zg], [rf])], [], [(zy, (0, 1))], [(zu, zfs, zg, 11), (zy, zu, (0, 1), 7)], [], [(80, [gA za 1, zfs, zt, zs], [0, 3, 2, rk, rf])])
  | _, _ => none
theorem gX_FAn_ok : gSy gX_FAn := by
  intro vs cs u h A L sc E hA hZ hF hC hD hO hP
  unfold gX_FAn at h
  split at h
  · rename_i za zfs zt zs zg zu zy rk rf
    cases h
    obtain ⟨f0, hF⟩ := gMa hF
    have f0 : gF (gT L sc) (gN L sc) 3 [A rk, A rf] [] [E za, E zfs, E zt, E zs] := gA9_0.mp f0
    obtain ⟨f1, hF⟩ := gMa hF
    have f1 : 0 ≤ E za ∧ (A rf (E za).toNat).toInt = E zg := f1
    obtain ⟨d0, hD⟩ := gMa hD
    have d0 : E zy ≠ E (0, 1) := d0
    obtain ⟨o0, hO⟩ := gMa hO
    have o0 : E zu = gBo 11 (E zfs) (E zg) := o0
    obtain ⟨o1, hO⟩ := gMa hO
    have o1 : E zy = gBo 7 (E zu) (E (0, 1)) := o1
    try simp only [hA, hZ] at f0 f1 d0 o0 o1
    have R := gX_FAn_l (za := E za) (zfs := E zfs) (zt := E zt) (zs := E zs) (zg := E zg) (zu := E zu) (zy := E zy) (rk := rk) (rf := rf) f0 f1 d0 o0 o1
    have t0 : gF (gT L sc) (gN L sc) 3 [A rk, A rf] [] [E (gA za 1), E zfs, E zt, E zs] := by
      try simp only [hA, hZ]
      exact R
    exact (gMc (gA9_0.mpr (t0)) gMn)
  · cases h
theorem gX_FAy_l {za zfs zt zs zx zg zu zy zz zw : Int} {rk rf : Nat} (f0 : gF (gT L sc) (gN L sc) 3 [A rk, A rf] [] [za, zfs, zt, zs]) (f1 : 0 ≤ za ∧ (A rk (za).toNat).toInt = zx) (f2 : 0 ≤ za ∧ (A rf (za).toNat).toInt = zg) (c0 : (1 : Int) ≤ zy) (c1 : zy ≤ (1 : Int)) (c2 : za + 1 ≤ (8 : Int)) (d0 : zx ≠ (4 : Int)) (o0 : zu = gBo 11 (zfs) (zg)) (o1 : zy = gBo 7 (zu) ((1 : Int))) (o2 : zz = gBo 10 ((1 : Int)) (za)) (o3 : zw = gBo 9 (zt) (zz)) : (gF (gT L sc) (gN L sc) 3 [A rk, A rf] [] [za + 1, zfs, zw, zs]) := by
  obtain ⟨ha, hb⟩ : 0 ≤ za ∧ ∀ j : Nat, j < 8 → gBit zt (j : Int) = if (j : Int) < za ∧ fI (A rk) (j : Int) ≠ 4 ∧ gBit zfs (fI (A rf) (j : Int)) = 1 then 1 - gBit zs (j : Int) else gBit zs (j : Int) := f0
  refine ⟨by omega, fun j hj => ?_⟩
  have hb := hb j hj
  have e1 : fI (A rk) za = zx := f1.2
  have e2 : fI (A rf) za = zg := f2.2
  have e3 : gBit zfs zg = zy := by
    unfold gBit
    rw [← o0, ← o1]
  obtain ⟨k, rfl⟩ : ∃ k : Nat, za = (k : Int) := ⟨za.toNat, by omega⟩
  have ew : zw = gBo 12 zt (k : Int) := by
    rw [gBo12, ← o2]
    exact o3
  have eb : gBit zw (j : Int) = if j = k then 1 - gBit zt (j : Int) else gBit zt (j : Int) := by
    rw [ew]
    exact gBit_turn zt (by omega) (by omega)
  rw [eb]
  by_cases q : j = k
  · subst q
    rw [if_pos rfl, hb, if_neg (by rintro ⟨q1, -⟩; omega), if_pos ⟨by omega, by rw [e1]; exact d0, by rw [e2, e3]; omega⟩]
  · rw [if_neg q, hb]
    by_cases q1 : j < k
    · have q2 : (j : Int) < (k : Int) := by omega
      have q3 : (j : Int) < (k : Int) + 1 := by omega
      simp only [q2, q3, true_and]
    · rw [if_neg (by rintro ⟨q2, -⟩; omega), if_neg (by rintro ⟨q2, -⟩; omega)]
def gX_FAy (vs : List sV) (cs : List Nat) : Option gRy := match vs, cs with
  | [za, zfs, zt, zs, zx, zg, zu, zy, zz, zw], [rk, rf] => some ([(80, [za, zfs, zt, zs], [0, 3, 2, rk, rf]), (15, [za, zx], [rk]), (15, [za, zg], [rf])], [(zy, (0, 1)), ((0, 1), zy), ((0, 8), gA za 1)], [(zx, (0, 4))], [(zu, zfs, zg, 11), (zy, zu, (0, 1), 7), (zz, (0, 1), za, 10), (zw, zt, zz, 9)], [], [(80, [gA za 1, zfs, zw, zs], [0, 3, 2, rk, rf])])
  | _, _ => none
theorem gX_FAy_ok : gSy gX_FAy := by
  intro vs cs u h A L sc E hA hZ hF hC hD hO hP
  unfold gX_FAy at h
  split at h
  · rename_i za zfs zt zs zx zg zu zy zz zw rk rf
    cases h
    obtain ⟨f0, hF⟩ := gMa hF
    have f0 : gF (gT L sc) (gN L sc) 3 [A rk, A rf] [] [E za, E zfs, E zt, E zs] := gA9_0.mp f0
    obtain ⟨f1, hF⟩ := gMa hF
    have f1 : 0 ≤ E za ∧ (A rk (E za).toNat).toInt = E zx := f1
    obtain ⟨f2, hF⟩ := gMa hF
    have f2 : 0 ≤ E za ∧ (A rf (E za).toNat).toInt = E zg := f2
    obtain ⟨c0, hC⟩ := gMa hC
    have c0 : E (0, 1) ≤ E zy := c0
    obtain ⟨c1, hC⟩ := gMa hC
    have c1 : E zy ≤ E (0, 1) := c1
    obtain ⟨c2, hC⟩ := gMa hC
    have c2 : E (gA za 1) ≤ E (0, 8) := c2
    obtain ⟨d0, hD⟩ := gMa hD
    have d0 : E zx ≠ E (0, 4) := d0
    obtain ⟨o0, hO⟩ := gMa hO
    have o0 : E zu = gBo 11 (E zfs) (E zg) := o0
    obtain ⟨o1, hO⟩ := gMa hO
    have o1 : E zy = gBo 7 (E zu) (E (0, 1)) := o1
    obtain ⟨o2, hO⟩ := gMa hO
    have o2 : E zz = gBo 10 (E (0, 1)) (E za) := o2
    obtain ⟨o3, hO⟩ := gMa hO
    have o3 : E zw = gBo 9 (E zt) (E zz) := o3
    try simp only [hA, hZ] at f0 f1 f2 c0 c1 c2 d0 o0 o1 o2 o3
    have R := gX_FAy_l (za := E za) (zfs := E zfs) (zt := E zt) (zs := E zs) (zx := E zx) (zg := E zg) (zu := E zu) (zy := E zy) (zz := E zz) (zw := E zw) (rk := rk) (rf := rf) f0 f1 f2 c0 c1 c2 d0 o0 o1 o2 o3
    have t0 : gF (gT L sc) (gN L sc) 3 [A rk, A rf] [] [E (gA za 1), E zfs, E zw, E zs] := by
      try simp only [hA, hZ]
      exact R
    exact (gMc (gA9_0.mpr (t0)) gMn)
  · cases h
theorem gX_AM0_l {zn zg : Int} {rk rf rs rh ra rb : Nat} (c0 : (0 : Int) ≤ zn) (c1 : (0 : Int) ≤ zg) : (gF (gT L sc) (gN L sc) 4 [A rk, A rf, A rs, A rh, A ra, A rb] [] [zn, zg, (1 : Int), (0 : Int)]) := by
  exact ⟨Int.le_refl _, rfl⟩
def gX_AM0 (vs : List sV) (cs : List Nat) : Option gRy := match vs, cs with
  | [zn, zg], [rk, rf, rs, rh, ra, rb] => some ([], [(zn, (0, 0)), (zg, (0, 0))], [], [], [], [(80, [zn, zg, (0, 1), (0, 0)], [0, 4, 6, rk, rf, rs, rh, ra, rb])])
  | _, _ => none
theorem gX_AM0_ok : gSy gX_AM0 := by
  intro vs cs u h A L sc E hA hZ hF hC hD hO hP
  unfold gX_AM0 at h
  split at h
  · rename_i zn zg rk rf rs rh ra rb
    cases h
    obtain ⟨c0, hC⟩ := gMa hC
    have c0 : E (0, 0) ≤ E zn := c0
    obtain ⟨c1, hC⟩ := gMa hC
    have c1 : E (0, 0) ≤ E zg := c1
    try simp only [hA, hZ] at c0 c1
    have R := gX_AM0_l (A := A) (L := L) (sc := sc) (zn := E zn) (zg := E zg) (rk := rk) (rf := rf) (rs := rs) (rh := rh) (ra := ra) (rb := rb) c0 c1
    have t0 : gF (gT L sc) (gN L sc) 4 [A rk, A rf, A rs, A rh, A ra, A rb] [] [E zn, E zg, E (0, 1), E (0, 0)] := by
      try simp only [hA, hZ]
      exact R
    exact (gMc (gA9_0.mpr (t0)) gMn)
  · cases h
theorem gX_AMy_l {zn zg zk zb zx zy : Int} {rk rf rs rh ra rb : Nat} (f0 : gF (gT L sc) (gN L sc) 4 [A rk, A rf, A rs, A rh, A ra, A rb] [] [zn, zg, zk, zb]) (f1 : gF (gT L sc) (gN L sc) 2 [A rk, A rf, A rs, A rh, A ra, A rb] [] [zn, zg, zk, zx]) (f2 : gF (gT L sc) (gN L sc) 2 [A rk, A rf, A rs, A rh, A ra, A rb] [] [zn, zg, zb, zy]) (c0 : zy + 1 ≤ zx) : (gF (gT L sc) (gN L sc) 4 [A rk, A rf, A rs, A rh, A ra, A rb] [] [zn, zg, zk + 1, zk]) := by
  obtain ⟨hk, hb⟩ : 1 ≤ zk ∧ zb = fAM (A rk) (A rf) (A rs) (A rh) (A ra) (A rb) zn zg zk.toNat := f0
  have h1 : zx = fSW (A rk) (A rf) (A rs) (A rh) (A ra) (A rb) zn zg zk := f1.2
  have h2 : zy = fSW (A rk) (A rf) (A rs) (A rh) (A ra) (A rb) zn zg zb := f2.2
  refine ⟨by omega, ?_⟩
  rw [fAM_succ hk, ← hb, ← h1, ← h2]
  rw [if_pos (by omega)]
def gX_AMy (vs : List sV) (cs : List Nat) : Option gRy := match vs, cs with
  | [zn, zg, zk, zb, zx, zy], [rk, rf, rs, rh, ra, rb] => some ([(80, [zn, zg, zk, zb], [0, 4, 6, rk, rf, rs, rh, ra, rb]), (80, [zn, zg, zk, zx], [0, 2, 6, rk, rf, rs, rh, ra, rb]), (80, [zn, zg, zb, zy], [0, 2, 6, rk, rf, rs, rh, ra, rb])], [(zx, gA zy 1)], [], [], [], [(80, [zn, zg, gA zk 1, zk], [0, 4, 6, rk, rf, rs, rh, ra, rb])])
  | _, _ => none
theorem gX_AMy_ok : gSy gX_AMy := by
  intro vs cs u h A L sc E hA hZ hF hC hD hO hP
  unfold gX_AMy at h
  split at h
  · rename_i zn zg zk zb zx zy rk rf rs rh ra rb
    cases h
    obtain ⟨f0, hF⟩ := gMa hF
    have f0 : gF (gT L sc) (gN L sc) 4 [A rk, A rf, A rs, A rh, A ra, A rb] [] [E zn, E zg, E zk, E zb] := gA9_0.mp f0
    obtain ⟨f1, hF⟩ := gMa hF
    have f1 : gF (gT L sc) (gN L sc) 2 [A rk, A rf, A rs, A rh, A ra, A rb] [] [E zn, E zg, E zk, E zx] := gA9_0.mp f1
    obtain ⟨f2, hF⟩ := gMa hF
    have f2 : gF (gT L sc) (gN L sc) 2 [A rk, A rf, A rs, A rh, A ra, A rb] [] [E zn, E zg, E zb, E zy] := gA9_0.mp f2
    obtain ⟨c0, hC⟩ := gMa hC
    have c0 : E (gA zy 1) ≤ E zx := c0
    try simp only [hA, hZ] at f0 f1 f2 c0
    have R := gX_AMy_l (zn := E zn) (zg := E zg) (zk := E zk) (zb := E zb) (zx := E zx) (zy := E zy) (rk := rk) (rf := rf) (rs := rs) (rh := rh) (ra := ra) (rb := rb) f0 f1 f2 c0
    have t0 : gF (gT L sc) (gN L sc) 4 [A rk, A rf, A rs, A rh, A ra, A rb] [] [E zn, E zg, E (gA zk 1), E zk] := by
      try simp only [hA, hZ]
      exact R
    exact (gMc (gA9_0.mpr (t0)) gMn)
  · cases h
theorem gX_AMn_l {zn zg zk zb zx zy : Int} {rk rf rs rh ra rb : Nat} (f0 : gF (gT L sc) (gN L sc) 4 [A rk, A rf, A rs, A rh, A ra, A rb] [] [zn, zg, zk, zb]) (f1 : gF (gT L sc) (gN L sc) 2 [A rk, A rf, A rs, A rh, A ra, A rb] [] [zn, zg, zk, zx]) (f2 : gF (gT L sc) (gN L sc) 2 [A rk, A rf, A rs, A rh, A ra, A rb] [] [zn, zg, zb, zy]) (c0 : zx ≤ zy) : (gF (gT L sc) (gN L sc) 4 [A rk, A rf, A rs, A rh, A ra, A rb] [] [zn, zg, zk + 1, zb]) := by
  obtain ⟨hk, hb⟩ : 1 ≤ zk ∧ zb = fAM (A rk) (A rf) (A rs) (A rh) (A ra) (A rb) zn zg zk.toNat := f0
  have h1 : zx = fSW (A rk) (A rf) (A rs) (A rh) (A ra) (A rb) zn zg zk := f1.2
  have h2 : zy = fSW (A rk) (A rf) (A rs) (A rh) (A ra) (A rb) zn zg zb := f2.2
  refine ⟨by omega, ?_⟩
  rw [fAM_succ hk, ← hb, ← h1, ← h2]
  rw [if_neg (by omega)]
def gX_AMn (vs : List sV) (cs : List Nat) : Option gRy := match vs, cs with
  | [zn, zg, zk, zb, zx, zy], [rk, rf, rs, rh, ra, rb] => some ([(80, [zn, zg, zk, zb], [0, 4, 6, rk, rf, rs, rh, ra, rb]), (80, [zn, zg, zk, zx], [0, 2, 6, rk, rf, rs, rh, ra, rb]), (80, [zn, zg, zb, zy], [0, 2, 6, rk, rf, rs, rh, ra, rb])], [(zy, zx)], [], [], [], [(80, [zn, zg, gA zk 1, zb], [0, 4, 6, rk, rf, rs, rh, ra, rb])])
  | _, _ => none
theorem gX_AMn_ok : gSy gX_AMn := by
  intro vs cs u h A L sc E hA hZ hF hC hD hO hP
  unfold gX_AMn at h
  split at h
  · rename_i zn zg zk zb zx zy rk rf rs rh ra rb
    cases h
    obtain ⟨f0, hF⟩ := gMa hF
    have f0 : gF (gT L sc) (gN L sc) 4 [A rk, A rf, A rs, A rh, A ra, A rb] [] [E zn, E zg, E zk, E zb] := gA9_0.mp f0
    obtain ⟨f1, hF⟩ := gMa hF
    have f1 : gF (gT L sc) (gN L sc) 2 [A rk, A rf, A rs, A rh, A ra, A rb] [] [E zn, E zg, E zk, E zx] := gA9_0.mp f1
    obtain ⟨f2, hF⟩ := gMa hF
    have f2 : gF (gT L sc) (gN L sc) 2 [A rk, A rf, A rs, A rh, A ra, A rb] [] [E zn, E zg, E zb, E zy] := gA9_0.mp f2
    obtain ⟨c0, hC⟩ := gMa hC
    have c0 : E zx ≤ E zy := c0
    try simp only [hA, hZ] at f0 f1 f2 c0
    have R := gX_AMn_l (zn := E zn) (zg := E zg) (zk := E zk) (zb := E zb) (zx := E zx) (zy := E zy) (rk := rk) (rf := rf) (rs := rs) (rh := rh) (ra := ra) (rb := rb) f0 f1 f2 c0
    have t0 : gF (gT L sc) (gN L sc) 4 [A rk, A rf, A rs, A rh, A ra, A rb] [] [E zn, E zg, E (gA zk 1), E zb] := by
      try simp only [hA, hZ]
      exact R
    exact (gMc (gA9_0.mpr (t0)) gMn)
  · cases h
theorem gX_AMe_l {zn zg zb zy : Int} {rk rf rs rh ra rb : Nat} (f0 : gF (gT L sc) (gN L sc) 4 [A rk, A rf, A rs, A rh, A ra, A rb] [] [zn, zg, (16 : Int), zb]) (f1 : gF (gT L sc) (gN L sc) 2 [A rk, A rf, A rs, A rh, A ra, A rb] [] [zn, zg, zb, zy]) : (gF (gT L sc) (gN L sc) 6 [A rk, A rf, A rs, A rh, A ra, A rb] [] [zn, zg, zy]) := by
  have hb : zb = fAM (A rk) (A rf) (A rs) (A rh) (A ra) (A rb) zn zg 16 := f0.2
  have h2 : zy = fSW (A rk) (A rf) (A rs) (A rh) (A ra) (A rb) zn zg zb := f1.2
  show zy = fSW (A rk) (A rf) (A rs) (A rh) (A ra) (A rb) zn zg (fAM (A rk) (A rf) (A rs) (A rh) (A ra) (A rb) zn zg 16)
  rw [← hb]
  exact h2
def gX_AMe (vs : List sV) (cs : List Nat) : Option gRy := match vs, cs with
  | [zn, zg, zb, zy], [rk, rf, rs, rh, ra, rb] => some ([(80, [zn, zg, (0, 16), zb], [0, 4, 6, rk, rf, rs, rh, ra, rb]), (80, [zn, zg, zb, zy], [0, 2, 6, rk, rf, rs, rh, ra, rb])], [], [], [], [], [(80, [zn, zg, zy], [0, 6, 6, rk, rf, rs, rh, ra, rb])])
  | _, _ => none
theorem gX_AMe_ok : gSy gX_AMe := by
  intro vs cs u h A L sc E hA hZ hF hC hD hO hP
  unfold gX_AMe at h
  split at h
  · rename_i zn zg zb zy rk rf rs rh ra rb
    cases h
    obtain ⟨f0, hF⟩ := gMa hF
    have f0 : gF (gT L sc) (gN L sc) 4 [A rk, A rf, A rs, A rh, A ra, A rb] [] [E zn, E zg, E (0, 16), E zb] := gA9_0.mp f0
    obtain ⟨f1, hF⟩ := gMa hF
    have f1 : gF (gT L sc) (gN L sc) 2 [A rk, A rf, A rs, A rh, A ra, A rb] [] [E zn, E zg, E zb, E zy] := gA9_0.mp f1
    try simp only [hA, hZ] at f0 f1
    have R := gX_AMe_l (zn := E zn) (zg := E zg) (zb := E zb) (zy := E zy) (rk := rk) (rf := rf) (rs := rs) (rh := rh) (ra := ra) (rb := rb) f0 f1
    have t0 : gF (gT L sc) (gN L sc) 6 [A rk, A rf, A rs, A rh, A ra, A rb] [] [E zn, E zg, E zy] := by
      try simp only [hA, hZ]
      exact R
    exact (gMc (gA9_0.mpr (t0)) gMn)
  · cases h
theorem gX_BA_l {za zfs zv : Int} {rk rf rs rh : Nat} (f0 : gF (gT L sc) (gN L sc) 1 [A rk, A rf, A rs, A rh] [] [za, zfs, zv]) (c0 : za ≤ (7 : Int)) : ((0 : Int) ≤ zv) ∧ (zv ≤ (7 : Int)) := by
  obtain ⟨ha, hv⟩ : 0 ≤ za ∧ zv = fSA (A rk) (A rf) (A rs) (A rh) zfs za.toNat := f0
  have := fSA_b (k := A rk) (f := A rf) (s := A rs) (h := A rh) (fs := zfs) za.toNat
  exact ⟨by omega, by omega⟩
def gX_BA (vs : List sV) (cs : List Nat) : Option gRy := match vs, cs with
  | [za, zfs, zv], [rk, rf, rs, rh] => some ([(80, [za, zfs, zv], [0, 1, 4, rk, rf, rs, rh])], [((0, 7), za)], [], [], [], [(0, [zv, (0, 0)], []), (0, [(0, 7), zv], [])])
  | _, _ => none
theorem gX_BA_ok : gSy gX_BA := by
  intro vs cs u h A L sc E hA hZ hF hC hD hO hP
  unfold gX_BA at h
  split at h
  · rename_i za zfs zv rk rf rs rh
    cases h
    obtain ⟨f0, hF⟩ := gMa hF
    have f0 : gF (gT L sc) (gN L sc) 1 [A rk, A rf, A rs, A rh] [] [E za, E zfs, E zv] := gA9_0.mp f0
    obtain ⟨c0, hC⟩ := gMa hC
    have c0 : E za ≤ E (0, 7) := c0
    try simp only [hA, hZ] at f0 c0
    have R := gX_BA_l (za := E za) (zfs := E zfs) (zv := E zv) (rk := rk) (rf := rf) (rs := rs) (rh := rh) f0 c0
    have t0 : E (0, 0) ≤ E zv := by
      try simp only [hA, hZ]
      exact R.1
    have t1 : E zv ≤ E (0, 7) := by
      try simp only [hA, hZ]
      exact R.2
    exact (gMc (t0) (gMc (t1) gMn))
  · cases h
theorem gX_BG_l {zn zi zfs zv : Int} {rk rf rs rh ra rb : Nat} (f0 : gF (gT L sc) (gN L sc) 2 [A rk, A rf, A rs, A rh, A ra, A rb] [] [zn, zi, zfs, zv]) (c0 : (0 : Int) ≤ zn) (c1 : zn ≤ (8 : Int)) (c2 : zi ≤ (7 : Int)) : ((-7 : Int) ≤ zv) ∧ (zv ≤ (8 : Int)) := by
  obtain ⟨hi, hv⟩ : 0 ≤ zi ∧ zv = fSW (A rk) (A rf) (A rs) (A rh) (A ra) (A rb) zn zi zfs := f0
  have h1 := fSA_b (k := A rk) (f := A rf) (s := A rs) (h := A rh) (fs := zfs) zn.toNat
  have h2 := fSG_b (k := A rk) (f := A rf) (s := A rs) (a := A ra) (b := A rb) (fs := zfs) zi.toNat
  unfold fSW at hv
  exact ⟨by omega, by omega⟩
def gX_BG (vs : List sV) (cs : List Nat) : Option gRy := match vs, cs with
  | [zn, zi, zfs, zv], [rk, rf, rs, rh, ra, rb] => some ([(80, [zn, zi, zfs, zv], [0, 2, 6, rk, rf, rs, rh, ra, rb])], [(zn, (0, 0)), ((0, 8), zn), ((0, 7), zi)], [], [], [], [(0, [zv, (0, -7)], []), (0, [(0, 8), zv], [])])
  | _, _ => none
theorem gX_BG_ok : gSy gX_BG := by
  intro vs cs u h A L sc E hA hZ hF hC hD hO hP
  unfold gX_BG at h
  split at h
  · rename_i zn zi zfs zv rk rf rs rh ra rb
    cases h
    obtain ⟨f0, hF⟩ := gMa hF
    have f0 : gF (gT L sc) (gN L sc) 2 [A rk, A rf, A rs, A rh, A ra, A rb] [] [E zn, E zi, E zfs, E zv] := gA9_0.mp f0
    obtain ⟨c0, hC⟩ := gMa hC
    have c0 : E (0, 0) ≤ E zn := c0
    obtain ⟨c1, hC⟩ := gMa hC
    have c1 : E zn ≤ E (0, 8) := c1
    obtain ⟨c2, hC⟩ := gMa hC
    have c2 : E zi ≤ E (0, 7) := c2
    try simp only [hA, hZ] at f0 c0 c1 c2
    have R := gX_BG_l (zn := E zn) (zi := E zi) (zfs := E zfs) (zv := E zv) (rk := rk) (rf := rf) (rs := rs) (rh := rh) (ra := ra) (rb := rb) f0 c0 c1 c2
    have t0 : E (0, -7) ≤ E zv := by
      try simp only [hA, hZ]
      exact R.1
    have t1 : E zv ≤ E (0, 8) := by
      try simp only [hA, hZ]
      exact R.2
    exact (gMc (t0) (gMc (t1) gMn))
  · cases h
theorem gX_BA8_l {za zfs zv : Int} {rk rf rs rh : Nat} (f0 : gF (gT L sc) (gN L sc) 1 [A rk, A rf, A rs, A rh] [] [za, zfs, zv]) (c0 : za ≤ (8 : Int)) : ((0 : Int) ≤ zv) ∧ (zv ≤ (8 : Int)) := by
  obtain ⟨ha, hv⟩ : 0 ≤ za ∧ zv = fSA (A rk) (A rf) (A rs) (A rh) zfs za.toNat := f0
  have := fSA_b (k := A rk) (f := A rf) (s := A rs) (h := A rh) (fs := zfs) za.toNat
  exact ⟨by omega, by omega⟩
def gX_BA8 (vs : List sV) (cs : List Nat) : Option gRy := match vs, cs with
  | [za, zfs, zv], [rk, rf, rs, rh] => some ([(80, [za, zfs, zv], [0, 1, 4, rk, rf, rs, rh])], [((0, 8), za)], [], [], [], [(0, [zv, (0, 0)], []), (0, [(0, 8), zv], [])])
  | _, _ => none
theorem gX_BA8_ok : gSy gX_BA8 := by
  intro vs cs u h A L sc E hA hZ hF hC hD hO hP
  unfold gX_BA8 at h
  split at h
  · rename_i za zfs zv rk rf rs rh
    cases h
    obtain ⟨f0, hF⟩ := gMa hF
    have f0 : gF (gT L sc) (gN L sc) 1 [A rk, A rf, A rs, A rh] [] [E za, E zfs, E zv] := gA9_0.mp f0
    obtain ⟨c0, hC⟩ := gMa hC
    have c0 : E za ≤ E (0, 8) := c0
    try simp only [hA, hZ] at f0 c0
    have R := gX_BA8_l (za := E za) (zfs := E zfs) (zv := E zv) (rk := rk) (rf := rf) (rs := rs) (rh := rh) f0 c0
    have t0 : E (0, 0) ≤ E zv := by
      try simp only [hA, hZ]
      exact R.1
    have t1 : E zv ≤ E (0, 8) := by
      try simp only [hA, hZ]
      exact R.2
    exact (gMc (t0) (gMc (t1) gMn))
  · cases h
theorem gX_rb0_l {zm zp za zb zd ze zg : Int} {rr ro : Nat} (f0 : 0 ≤ zm ∧ ∀ j : Nat, (j : Int) < zm → tRow (gT L sc) (gN L sc) 0 j (A rr (0 + j)).toInt) (f1 : gQ1 L sc [12, ro] [zp, za, zb, zd, ze, zg]) : (gF (gT L sc) (gN L sc) 5 [A rr] [] [zm, za]) := by
  show ∀ j : Nat, (j : Int) < zm → 0 ≤ fI (A rr) (j : Int) ∧ fI (A rr) (j : Int) < za
  intro j hj
  have h := f0.2 j hj
  rw [Nat.zero_add] at h
  have g := q_rb (by decide) f1 h
  unfold fI
  rw [Int.toNat_natCast]
  exact g
def gX_rb0 (vs : List sV) (cs : List Nat) : Option gRy := match vs, cs with
  | [zm, zp, za, zb, zd, ze, zg], [rr, ro] => some ([(62, [zm], [rr, 0, 0]), (60, [zp, za, zb, zd, ze, zg], [12, ro])], [], [], [], [], [(80, [zm, za], [0, 5, 1, rr])])
  | _, _ => none
theorem gX_rb0_ok : gSy gX_rb0 := by
  intro vs cs u h A L sc E hA hZ hF hC hD hO hP
  unfold gX_rb0 at h
  split at h
  · rename_i zm zp za zb zd ze zg rr ro
    cases h
    obtain ⟨f0, hF⟩ := gMa hF
    have f0 : 0 ≤ E zm ∧ ∀ j : Nat, (j : Int) < E zm → tRow (gT L sc) (gN L sc) 0 j (A rr (0 + j)).toInt := f0
    obtain ⟨f1, hF⟩ := gMa hF
    have f1 : gQ1 L sc [12, ro] [E zp, E za, E zb, E zd, E ze, E zg] := f1
    try simp only [hA, hZ] at f0 f1
    have R := gX_rb0_l (zm := E zm) (zp := E zp) (za := E za) (zb := E zb) (zd := E zd) (ze := E ze) (zg := E zg) (rr := rr) (ro := ro) f0 f1
    have t0 : gF (gT L sc) (gN L sc) 5 [A rr] [] [E zm, E za] := by
      try simp only [hA, hZ]
      exact R
    exact (gMc (gA9_0.mpr (t0)) gMn)
  · cases h
theorem gX_rb1_l {zm zp za zb zd ze zg : Int} {rr ro : Nat} (f0 : 0 ≤ zm ∧ ∀ j : Nat, (j : Int) < zm → tRow (gT L sc) (gN L sc) 1 j (A rr (0 + j)).toInt) (f1 : gQ1 L sc [12, ro] [zp, za, zb, zd, ze, zg]) : (gF (gT L sc) (gN L sc) 5 [A rr] [] [zm, za]) := by
  show ∀ j : Nat, (j : Int) < zm → 0 ≤ fI (A rr) (j : Int) ∧ fI (A rr) (j : Int) < za
  intro j hj
  have h := f0.2 j hj
  rw [Nat.zero_add] at h
  have g := q_rb (by decide) f1 h
  unfold fI
  rw [Int.toNat_natCast]
  exact g
def gX_rb1 (vs : List sV) (cs : List Nat) : Option gRy := match vs, cs with
  | [zm, zp, za, zb, zd, ze, zg], [rr, ro] => some ([(62, [zm], [rr, 1, 0]), (60, [zp, za, zb, zd, ze, zg], [12, ro])], [], [], [], [], [(80, [zm, za], [0, 5, 1, rr])])
  | _, _ => none
theorem gX_rb1_ok : gSy gX_rb1 := by
  intro vs cs u h A L sc E hA hZ hF hC hD hO hP
  unfold gX_rb1 at h
  split at h
  · rename_i zm zp za zb zd ze zg rr ro
    cases h
    obtain ⟨f0, hF⟩ := gMa hF
    have f0 : 0 ≤ E zm ∧ ∀ j : Nat, (j : Int) < E zm → tRow (gT L sc) (gN L sc) 1 j (A rr (0 + j)).toInt := f0
    obtain ⟨f1, hF⟩ := gMa hF
    have f1 : gQ1 L sc [12, ro] [E zp, E za, E zb, E zd, E ze, E zg] := f1
    try simp only [hA, hZ] at f0 f1
    have R := gX_rb1_l (zm := E zm) (zp := E zp) (za := E za) (zb := E zb) (zd := E zd) (ze := E ze) (zg := E zg) (rr := rr) (ro := ro) f0 f1
    have t0 : gF (gT L sc) (gN L sc) 5 [A rr] [] [E zm, E za] := by
      try simp only [hA, hZ]
      exact R
    exact (gMc (gA9_0.mpr (t0)) gMn)
  · cases h
theorem gX_rb2_l {zm zp za zb zd ze zg : Int} {rr ro : Nat} (f0 : 0 ≤ zm ∧ ∀ j : Nat, (j : Int) < zm → tRow (gT L sc) (gN L sc) 2 j (A rr (0 + j)).toInt) (f1 : gQ1 L sc [12, ro] [zp, za, zb, zd, ze, zg]) : (gF (gT L sc) (gN L sc) 5 [A rr] [] [zm, za]) := by
  show ∀ j : Nat, (j : Int) < zm → 0 ≤ fI (A rr) (j : Int) ∧ fI (A rr) (j : Int) < za
  intro j hj
  have h := f0.2 j hj
  rw [Nat.zero_add] at h
  have g := q_rb (by decide) f1 h
  unfold fI
  rw [Int.toNat_natCast]
  exact g
def gX_rb2 (vs : List sV) (cs : List Nat) : Option gRy := match vs, cs with
  | [zm, zp, za, zb, zd, ze, zg], [rr, ro] => some ([(62, [zm], [rr, 2, 0]), (60, [zp, za, zb, zd, ze, zg], [12, ro])], [], [], [], [], [(80, [zm, za], [0, 5, 1, rr])])
  | _, _ => none
theorem gX_rb2_ok : gSy gX_rb2 := by
  intro vs cs u h A L sc E hA hZ hF hC hD hO hP
  unfold gX_rb2 at h
  split at h
  · rename_i zm zp za zb zd ze zg rr ro
    cases h
    obtain ⟨f0, hF⟩ := gMa hF
    have f0 : 0 ≤ E zm ∧ ∀ j : Nat, (j : Int) < E zm → tRow (gT L sc) (gN L sc) 2 j (A rr (0 + j)).toInt := f0
    obtain ⟨f1, hF⟩ := gMa hF
    have f1 : gQ1 L sc [12, ro] [E zp, E za, E zb, E zd, E ze, E zg] := f1
    try simp only [hA, hZ] at f0 f1
    have R := gX_rb2_l (zm := E zm) (zp := E zp) (za := E za) (zb := E zb) (zd := E zd) (ze := E ze) (zg := E zg) (rr := rr) (ro := ro) f0 f1
    have t0 : gF (gT L sc) (gN L sc) 5 [A rr] [] [E zm, E za] := by
      try simp only [hA, hZ]
      exact R
    exact (gMc (gA9_0.mpr (t0)) gMn)
  · cases h
theorem gX_rb3_l {zm zp za zb zd ze zg : Int} {rr ro : Nat} (f0 : 0 ≤ zm ∧ ∀ j : Nat, (j : Int) < zm → tRow (gT L sc) (gN L sc) 3 j (A rr (0 + j)).toInt) (f1 : gQ1 L sc [12, ro] [zp, za, zb, zd, ze, zg]) : (gF (gT L sc) (gN L sc) 5 [A rr] [] [zm, za]) := by
  show ∀ j : Nat, (j : Int) < zm → 0 ≤ fI (A rr) (j : Int) ∧ fI (A rr) (j : Int) < za
  intro j hj
  have h := f0.2 j hj
  rw [Nat.zero_add] at h
  have g := q_rb (by decide) f1 h
  unfold fI
  rw [Int.toNat_natCast]
  exact g
def gX_rb3 (vs : List sV) (cs : List Nat) : Option gRy := match vs, cs with
  | [zm, zp, za, zb, zd, ze, zg], [rr, ro] => some ([(62, [zm], [rr, 3, 0]), (60, [zp, za, zb, zd, ze, zg], [12, ro])], [], [], [], [], [(80, [zm, za], [0, 5, 1, rr])])
  | _, _ => none
theorem gX_rb3_ok : gSy gX_rb3 := by
  intro vs cs u h A L sc E hA hZ hF hC hD hO hP
  unfold gX_rb3 at h
  split at h
  · rename_i zm zp za zb zd ze zg rr ro
    cases h
    obtain ⟨f0, hF⟩ := gMa hF
    have f0 : 0 ≤ E zm ∧ ∀ j : Nat, (j : Int) < E zm → tRow (gT L sc) (gN L sc) 3 j (A rr (0 + j)).toInt := f0
    obtain ⟨f1, hF⟩ := gMa hF
    have f1 : gQ1 L sc [12, ro] [E zp, E za, E zb, E zd, E ze, E zg] := f1
    try simp only [hA, hZ] at f0 f1
    have R := gX_rb3_l (zm := E zm) (zp := E zp) (za := E za) (zb := E zb) (zd := E zd) (ze := E ze) (zg := E zg) (rr := rr) (ro := ro) f0 f1
    have t0 : gF (gT L sc) (gN L sc) 5 [A rr] [] [E zm, E za] := by
      try simp only [hA, hZ]
      exact R
    exact (gMc (gA9_0.mpr (t0)) gMn)
  · cases h
theorem gX_rb11_l {zm zp za zb zd ze zg : Int} {rr ro : Nat} (f0 : 0 ≤ zm ∧ ∀ j : Nat, (j : Int) < zm → tRow (gT L sc) (gN L sc) 11 j (A rr (0 + j)).toInt) (f1 : gQ1 L sc [12, ro] [zp, za, zb, zd, ze, zg]) : (gF (gT L sc) (gN L sc) 5 [A rr] [] [zm, za]) := by
  show ∀ j : Nat, (j : Int) < zm → 0 ≤ fI (A rr) (j : Int) ∧ fI (A rr) (j : Int) < za
  intro j hj
  have h := f0.2 j hj
  rw [Nat.zero_add] at h
  have g := q_rb (by decide) f1 h
  unfold fI
  rw [Int.toNat_natCast]
  exact g
def gX_rb11 (vs : List sV) (cs : List Nat) : Option gRy := match vs, cs with
  | [zm, zp, za, zb, zd, ze, zg], [rr, ro] => some ([(62, [zm], [rr, 11, 0]), (60, [zp, za, zb, zd, ze, zg], [12, ro])], [], [], [], [], [(80, [zm, za], [0, 5, 1, rr])])
  | _, _ => none
theorem gX_rb11_ok : gSy gX_rb11 := by
  intro vs cs u h A L sc E hA hZ hF hC hD hO hP
  unfold gX_rb11 at h
  split at h
  · rename_i zm zp za zb zd ze zg rr ro
    cases h
    obtain ⟨f0, hF⟩ := gMa hF
    have f0 : 0 ≤ E zm ∧ ∀ j : Nat, (j : Int) < E zm → tRow (gT L sc) (gN L sc) 11 j (A rr (0 + j)).toInt := f0
    obtain ⟨f1, hF⟩ := gMa hF
    have f1 : gQ1 L sc [12, ro] [E zp, E za, E zb, E zd, E ze, E zg] := f1
    try simp only [hA, hZ] at f0 f1
    have R := gX_rb11_l (zm := E zm) (zp := E zp) (za := E za) (zb := E zb) (zd := E zd) (ze := E ze) (zg := E zg) (rr := rr) (ro := ro) f0 f1
    have t0 : gF (gT L sc) (gN L sc) 5 [A rr] [] [E zm, E za] := by
      try simp only [hA, hZ]
      exact R
    exact (gMc (gA9_0.mpr (t0)) gMn)
  · cases h
theorem gX_U4_l {zn zg zx zv zw : Int} {rk rf rs rh ra rb : Nat} (f0 : gF (gT L sc) (gN L sc) 4 [A rk, A rf, A rs, A rh, A ra, A rb] [] [zn, zg, zx, zv]) (f1 : gF (gT L sc) (gN L sc) 4 [A rk, A rf, A rs, A rh, A ra, A rb] [] [zn, zg, zx, zw]) : (zw ≤ zv) ∧ (zv ≤ zw) := by
  have h1 : zv = fAM (A rk) (A rf) (A rs) (A rh) (A ra) (A rb) zn zg zx.toNat := f0.2
  have h2 : zw = fAM (A rk) (A rf) (A rs) (A rh) (A ra) (A rb) zn zg zx.toNat := f1.2
  exact ⟨by omega, by omega⟩
def gX_U4 (vs : List sV) (cs : List Nat) : Option gRy := match vs, cs with
  | [zn, zg, zx, zv, zw], [rk, rf, rs, rh, ra, rb] => some ([(80, [zn, zg, zx, zv], [0, 4, 6, rk, rf, rs, rh, ra, rb]), (80, [zn, zg, zx, zw], [0, 4, 6, rk, rf, rs, rh, ra, rb])], [], [], [], [], [(0, [zv, zw], []), (0, [zw, zv], [])])
  | _, _ => none
theorem gX_U4_ok : gSy gX_U4 := by
  intro vs cs u h A L sc E hA hZ hF hC hD hO hP
  unfold gX_U4 at h
  split at h
  · rename_i zn zg zx zv zw rk rf rs rh ra rb
    cases h
    obtain ⟨f0, hF⟩ := gMa hF
    have f0 : gF (gT L sc) (gN L sc) 4 [A rk, A rf, A rs, A rh, A ra, A rb] [] [E zn, E zg, E zx, E zv] := gA9_0.mp f0
    obtain ⟨f1, hF⟩ := gMa hF
    have f1 : gF (gT L sc) (gN L sc) 4 [A rk, A rf, A rs, A rh, A ra, A rb] [] [E zn, E zg, E zx, E zw] := gA9_0.mp f1
    try simp only [hA, hZ] at f0 f1
    have R := gX_U4_l (zn := E zn) (zg := E zg) (zx := E zx) (zv := E zv) (zw := E zw) (rk := rk) (rf := rf) (rs := rs) (rh := rh) (ra := ra) (rb := rb) f0 f1
    have t0 : E zw ≤ E zv := by
      try simp only [hA, hZ]
      exact R.1
    have t1 : E zv ≤ E zw := by
      try simp only [hA, hZ]
      exact R.2
    exact (gMc (t0) (gMc (t1) gMn))
  · cases h
theorem gX_U6_l {zn zg zv zw : Int} {rk rf rs rh ra rb : Nat} (f0 : gF (gT L sc) (gN L sc) 6 [A rk, A rf, A rs, A rh, A ra, A rb] [] [zn, zg, zv]) (f1 : gF (gT L sc) (gN L sc) 6 [A rk, A rf, A rs, A rh, A ra, A rb] [] [zn, zg, zw]) : (zw ≤ zv) ∧ (zv ≤ zw) := by
  have h1 : zv = fSW (A rk) (A rf) (A rs) (A rh) (A ra) (A rb) zn zg (fAM (A rk) (A rf) (A rs) (A rh) (A ra) (A rb) zn zg 16) := f0
  have h2 : zw = fSW (A rk) (A rf) (A rs) (A rh) (A ra) (A rb) zn zg (fAM (A rk) (A rf) (A rs) (A rh) (A ra) (A rb) zn zg 16) := f1
  exact ⟨by omega, by omega⟩
def gX_U6 (vs : List sV) (cs : List Nat) : Option gRy := match vs, cs with
  | [zn, zg, zv, zw], [rk, rf, rs, rh, ra, rb] => some ([(80, [zn, zg, zv], [0, 6, 6, rk, rf, rs, rh, ra, rb]), (80, [zn, zg, zw], [0, 6, 6, rk, rf, rs, rh, ra, rb])], [], [], [], [], [(0, [zv, zw], []), (0, [zw, zv], [])])
  | _, _ => none
theorem gX_U6_ok : gSy gX_U6 := by
  intro vs cs u h A L sc E hA hZ hF hC hD hO hP
  unfold gX_U6 at h
  split at h
  · rename_i zn zg zv zw rk rf rs rh ra rb
    cases h
    obtain ⟨f0, hF⟩ := gMa hF
    have f0 : gF (gT L sc) (gN L sc) 6 [A rk, A rf, A rs, A rh, A ra, A rb] [] [E zn, E zg, E zv] := gA9_0.mp f0
    obtain ⟨f1, hF⟩ := gMa hF
    have f1 : gF (gT L sc) (gN L sc) 6 [A rk, A rf, A rs, A rh, A ra, A rb] [] [E zn, E zg, E zw] := gA9_0.mp f1
    try simp only [hA, hZ] at f0 f1
    have R := gX_U6_l (zn := E zn) (zg := E zg) (zv := E zv) (zw := E zw) (rk := rk) (rf := rf) (rs := rs) (rh := rh) (ra := ra) (rb := rb) f0 f1
    have t0 : E zw ≤ E zv := by
      try simp only [hA, hZ]
      exact R.1
    have t1 : E zv ≤ E zw := by
      try simp only [hA, hZ]
      exact R.2
    exact (gMc (t0) (gMc (t1) gMn))
  · cases h
theorem gX_BT_l {zv zm za zy : Int} {rr : Nat} (f0 : gA6 A [rr, 0] [zv, zm, (0 : Int)]) (f1 : 0 ≤ za ∧ (A rr (za).toNat).toInt = zy) (c0 : (0 : Int) ≤ za) (c1 : za + 1 ≤ zm) : (gF (gT L sc) (gN L sc) 12 [] [] [zv, za, zy]) := by
  have h := gA6_fI f0 f1.1 (by omega)
  show gBit zv za = zy
  rw [← h]
  exact f1.2
def gX_BT (vs : List sV) (cs : List Nat) : Option gRy := match vs, cs with
  | [zv, zm, za, zy], [rr] => some ([(66, [zv, zm, (0, 0)], [rr, 0]), (15, [za, zy], [rr])], [(za, (0, 0)), (zm, gA za 1)], [], [], [], [(80, [zv, za, zy], [0, 12, 0])])
  | _, _ => none
theorem gX_BT_ok : gSy gX_BT := by
  intro vs cs u h A L sc E hA hZ hF hC hD hO hP
  unfold gX_BT at h
  split at h
  · rename_i zv zm za zy rr
    cases h
    obtain ⟨f0, hF⟩ := gMa hF
    have f0 : gA6 A [rr, 0] [E zv, E zm, E (0, 0)] := f0
    obtain ⟨f1, hF⟩ := gMa hF
    have f1 : 0 ≤ E za ∧ (A rr (E za).toNat).toInt = E zy := f1
    obtain ⟨c0, hC⟩ := gMa hC
    have c0 : E (0, 0) ≤ E za := c0
    obtain ⟨c1, hC⟩ := gMa hC
    have c1 : E (gA za 1) ≤ E zm := c1
    try simp only [hA, hZ] at f0 f1 c0 c1
    have R := gX_BT_l (L := L) (sc := sc) (zv := E zv) (zm := E zm) (za := E za) (zy := E zy) (rr := rr) f0 f1 c0 c1
    have t0 : gF (gT L sc) (gN L sc) 12 [] [] [E zv, E za, E zy] := by
      try simp only [hA, hZ]
      exact R
    exact (gMc (gA9_0.mpr (t0)) gMn)
  · cases h
theorem gX_BU_l {zv za zy zu zz : Int} (f0 : gF (gT L sc) (gN L sc) 12 [] [] [zv, za, zy]) (o0 : zu = gBo 11 (zv) (za)) (o1 : zz = gBo 7 (zu) ((1 : Int))) : (zy ≤ zz) ∧ (zz ≤ zy) := by
  have h : gBit zv za = zy := f0
  have e : gBit zv za = zz := by
    unfold gBit
    rw [← o0, ← o1]
  exact ⟨by omega, by omega⟩
def gX_BU (vs : List sV) (cs : List Nat) : Option gRy := match vs, cs with
  | [zv, za, zy, zu, zz], [] => some ([(80, [zv, za, zy], [0, 12, 0])], [], [], [(zu, zv, za, 11), (zz, zu, (0, 1), 7)], [], [(0, [zz, zy], []), (0, [zy, zz], [])])
  | _, _ => none
theorem gX_BU_ok : gSy gX_BU := by
  intro vs cs u h A L sc E hA hZ hF hC hD hO hP
  unfold gX_BU at h
  split at h
  · rename_i zv za zy zu zz
    cases h
    obtain ⟨f0, hF⟩ := gMa hF
    have f0 : gF (gT L sc) (gN L sc) 12 [] [] [E zv, E za, E zy] := gA9_0.mp f0
    obtain ⟨o0, hO⟩ := gMa hO
    have o0 : E zu = gBo 11 (E zv) (E za) := o0
    obtain ⟨o1, hO⟩ := gMa hO
    have o1 : E zz = gBo 7 (E zu) (E (0, 1)) := o1
    try simp only [hA, hZ] at f0 o0 o1
    have R := gX_BU_l (zv := E zv) (za := E za) (zy := E zy) (zu := E zu) (zz := E zz) f0 o0 o1
    have t0 : E zy ≤ E zz := by
      try simp only [hA, hZ]
      exact R.1
    have t1 : E zz ≤ E zy := by
      try simp only [hA, hZ]
      exact R.2
    exact (gMc (t0) (gMc (t1) gMn))
  · cases h
end RW
end
