noncomputable section
/-! ===== rules in one form: what is asked, what is not less, what is reckoned, what differs, what is told ===== -/
section RU
variable {L : Nat} {sc : Nat → Int32}
theorem tNum_in {T : Nat → Int} {n p : Nat} {v lo hi : Int} (h : tNo T n p v) (h0 : tNum T n p lo hi = 0) : lo ≤ v ∧ v ≤ hi := by
  obtain ⟨h1, h2, h3⟩ := h
  unfold tNum at h0
  rw [if_pos h1, if_neg (by omega)] at h0
  split at h0
  · rename_i hc
    rw [h3]
    exact hc
  · cases h0
theorem tAg_in {T : Nat → Int} {n p ag : Nat} {v : Int} (h : tNo T n p v) (h0 : tAg T n p ag = 0) : v < (ag : Int) := by
  by_cases q : v < (ag : Int)
  · exact q
  · rw [tAg_out h (by omega)] at h0
    cases h0
theorem tN_f {T : Nat → Int} {n p r c : Nat} {K : List (Nat × Nat)} {nu : List Int} {ct : List Nat} (h : tG T n p ((22, r) :: K) nu ct) (hb : tNum T n p (tBd r).1 (tBd r).2 = c) (hc : c ≠ 0) : tF T n c p := by
  obtain ⟨tb, re, -⟩ := h
  exact tF_of hc (tGs re (by simp only [tSy]; rw [if_neg (by omega), hb]))
theorem tD_f {T : Nat → Int} {n p r c : Nat} {K : List (Nat × Nat)} {nu : List Int} {ct : List Nat} (h : tG T n p ((28, r) :: K) nu ct) (hb : tNum T n p 1 9 = c) (hc : c ≠ 0) : tF T n c p := by
  obtain ⟨tb, re, -⟩ := h
  exact tF_of hc (tGs re (by simp only [tSy]; rw [if_neg (by omega), hb]))
theorem tA_f {T : Nat → Int} {n p k r c ag : Nat} {K : List (Nat × Nat)} {nu : List Int} {ct : List Nat} (hk : tIsA k = true) (h : tG T n p ((k, r) :: K) nu (ag :: ct)) (hb : tAg T n p ag = c) (hc : c ≠ 0) : tF T n c p := by
  obtain ⟨tb, re, e⟩ := h
  have e1 : tb.1.length = ag := by injection e
  rcases tIsA_c hk with rfl | rfl | rfl | rfl
  · exact tF_of hc (tGs re (by simp only [tSy]; rw [e1, if_neg (by omega), hb]))
  · exact tF_of hc (tGs re (by simp only [tSy]; rw [e1, if_neg (by omega), hb]))
  · exact tF_of hc (tGs re (by simp only [tSy]; rw [e1, if_neg (by omega), hb]))
  · exact tF_of hc (tGs re (by simp only [tSy]; rw [e1, if_neg (by omega), hb]))
theorem q_22 {p a : Int} {cd : Int} (h : gQ1 L sc [22] [p, a, cd]) : 0 ≤ p ∧ 0 ≤ a ∧ 0 ≤ cd ∧ tAg (gT L sc) (gN L sc) p.toNat a.toNat = cd.toNat := h
theorem q_v22 {p a v : Int} (h : gQ1 L sc [22] [p, a, 0]) (hv : gQ1 L sc [17] [p, v]) : v < a := by
  obtain ⟨h1, h2, -, h4⟩ := h
  have := tAg_in hv.2 h4
  omega
theorem q_Nl1a {i x y u : Int} (h : gQ1 L sc [15, 0] [i, x, y]) (r0 : gQ1 L sc [14, 0] [i, u]) (hn : u ≠ x) : gQ1 L sc [15, 0] [i + 1, x, y] := by
  obtain ⟨h1, h2⟩ := h
  refine ⟨by omega, fun j hj x' y' q0 q1 => ?_⟩
  by_cases e : j = i.toNat
  · subst e
    rw [tRow_uniq q0 r0.2]
    exact fun q => hn q.1
  · exact h2 j (by omega) x' y' q0 q1
theorem q_Nl1b {i x y w : Int} (h : gQ1 L sc [15, 0] [i, x, y]) (r1 : gQ1 L sc [14, 1] [i, w]) (hn : w ≠ y) : gQ1 L sc [15, 0] [i + 1, x, y] := by
  obtain ⟨h1, h2⟩ := h
  refine ⟨by omega, fun j hj x' y' q0 q1 => ?_⟩
  by_cases e : j = i.toNat
  · subst e
    rw [tRow_uniq q1 r1.2]
    exact fun q => hn q.2
  · exact h2 j (by omega) x' y' q0 q1
theorem q_Ng1a {i x y u : Int} (h : gQ1 L sc [15, 1] [i, x, y]) (r0 : gQ1 L sc [14, 2] [i, u]) (h1 : u ≠ x) (h2 : u ≠ y) : gQ1 L sc [15, 1] [i + 1, x, y] := by
  obtain ⟨g1, g2⟩ := h
  refine ⟨by omega, fun j hj x' y' q0 q1 => ?_⟩
  by_cases e : j = i.toNat
  · subst e
    rw [tRow_uniq q0 r0.2]
    exact ⟨fun q => h1 q.1, fun q => h2 q.1⟩
  · exact g2 j (by omega) x' y' q0 q1
theorem q_Ng1b {i x y w : Int} (h : gQ1 L sc [15, 1] [i, x, y]) (r1 : gQ1 L sc [14, 3] [i, w]) (h1 : w ≠ y) (h2 : w ≠ x) : gQ1 L sc [15, 1] [i + 1, x, y] := by
  obtain ⟨g1, g2⟩ := h
  refine ⟨by omega, fun j hj x' y' q0 q1 => ?_⟩
  by_cases e : j = i.toNat
  · subst e
    rw [tRow_uniq q1 r1.2]
    exact ⟨fun q => h1 q.2, fun q => h2 q.2⟩
  · exact g2 j (by omega) x' y' q0 q1
theorem q_num16 {p e cd : Int} {d : Nat} (h : gQ1 L sc [3] [p, e, 2]) (h2 : gQ1 L sc [21, 4] [p, cd]) (h1 : 1 ≤ cd) : gQ1 L sc [11, 16, d] [p, cd, p] := by
  obtain ⟨g1, g2, g3⟩ := h2
  have k2 := q_p0 h
  by_cases hl : 4 < (tK (gT L sc) (gN L sc) p.toNat).2 - p.toNat
  · have e2 := tNum_long (lo := (gBd 4).1) (hi := (gBd 4).2) k2 hl
    have ec : cd = 2 := by
      rw [e2] at g3
      omega
    subst ec
    have hD : gQ1 L sc [10, 2, 16, d, 16, d] [p, p] := q_D0 (k := 2) (ss := [16, d, 16, d]) g1 rfl
    exact q_B1 (k := 2) (ss := [16, d, 16, d]) (v := 24) (d := d) hD rfl rfl rfl (fun r hr => by
      simp only [List.mem_cons, List.not_mem_nil, or_false] at hr
      rcases hr with rfl | rfl
      · exact k2
      · exact hl) (by simp) rfl
  · exfalso
    have ho : tNo (gT L sc) (gN L sc) p.toNat (tNv (gT L sc) (gN L sc) p.toNat) := ⟨k2, by omega, rfl⟩
    have hb := tNo_bound ho
    have e0 := tNum_ok (lo := (gBd 4).1) (hi := (gBd 4).2) ho hb.1 hb.2
    rw [e0] at g3
    omega
theorem q_num17 {p v q : Int} {d : Nat} (h : gQ1 L sc [17] [p, v]) (h2 : gQ1 L sc [16] [p, q]) : gQ1 L sc [10, 2, 16, d] [p, q] := by
  have hD : gQ1 L sc [10, 2, 16, d, 16, d] [p, p] := q_D0 (k := 2) (ss := [16, d, 16, d]) h.1 rfl
  exact q_D1 (k := 2) (ss := [16, d, 16, d]) (v := 25) (d := d) hD (by simp) rfl rfl rfl (fun r hr => by
    simp only [List.mem_cons, List.not_mem_nil, or_false] at hr
    rcases hr with rfl | rfl
    · exact h.2.1
    · exact h.2.2.1) rfl (Or.inl ⟨rfl, h2⟩)
end RU
def gA (x : sV) (c : Int) : sV := (x.1, x.2 + c)
abbrev gRu : Type := List (List sV × List Nat) × List (sV × sV) × List (sV × sV × sV × Nat) × List (sV × sV) × List (List sV × List Nat)
def gSd (f : List sV → List Nat → Option gRu) : Prop := ∀ (vs : List sV) (cs : List Nat) (u : gRu), f vs cs = some u → ∀ (L : Nat) (sc : Nat → Int32) (E : sV → Int), (∀ x c, E (gA x c) = E x + c) → (∀ z, E (0, z) = z) → (∀ q ∈ u.1, gQ1 L sc q.2 (q.1.map E)) → (∀ q ∈ u.2.1, E q.2 ≤ E q.1) → (∀ q ∈ u.2.2.1, sOp5 q.2.2.2 (E q.1) (E q.2.1) (E q.2.2.1)) → (∀ q ∈ u.2.2.2.1, E q.1 ≠ E q.2) → ∀ o ∈ u.2.2.2.2, gQ1 L sc o.2 (o.1.map E)
def gIf (b : Bool) (u : gRu) : Option gRu := Bool.rec (motive := fun _ => Option gRu) none (some u) b
theorem gIf_some {b : Bool} {u v : gRu} (h : gIf b u = some v) : b = true ∧ u = v := by
  cases b with
  | false => cases h
  | true => exact ⟨rfl, Option.some.inj h⟩
theorem gMa {α : Type} {P : α → Prop} {a : α} {l : List α} (h : ∀ q ∈ a :: l, P q) : P a ∧ ∀ q ∈ l, P q := ⟨h a List.mem_cons_self, fun q hq => h q (List.mem_cons_of_mem _ hq)⟩
theorem gMc {α : Type} {P : α → Prop} {a : α} {l : List α} (h : P a) (t : ∀ q ∈ l, P q) : ∀ q ∈ a :: l, P q := fun q hq => by
  rcases List.mem_cons.mp hq with rfl | hq
  · exact h
  · exact t q hq
theorem gMn {α : Type} {P : α → Prop} : ∀ q ∈ ([] : List α), P q := fun q hq => by cases hq

def gL0 (vs : List sV) (cs : List Nat) : Option gRu := match vs, cs with
  | [p0, p, q], k :: j :: l :: rest => gIf (Nat.ble k (rest.take l).length && (sNl (tEn (tDe ((rest.drop l).take j)) ++ ((rest.take l).drop k).drop j) ((rest.take l).drop k) && sNl (tEn (tDe ((rest.drop l).drop j))) ((rest.drop l).drop j))) ([([p0, p], 10 :: k :: rest.take l), ([p, q], 10 :: j :: rest.drop l)], [], [], [], [([p0, q], 10 :: k :: ((rest.take l).take k ++ ((rest.drop l).drop j ++ ((rest.take l).drop k).drop j)))])
  | _, _ => none
theorem gL0_ok : gSd gL0 := by
  intro vs cs U h L sc E hA hZ hP hC hD hN
  unfold gL0 at h
  split at h
  · obtain ⟨hb, rfl⟩ := gIf_some h
    clear h
    simp only [Bool.and_eq_true] at hb
    obtain ⟨p0, hP⟩ := gMa hP
    obtain ⟨p1, hP⟩ := gMa hP
    exact gMc (q_D2 p0 p1 (Nat.le_of_ble_eq_true hb.1) (sNl_eq hb.2.1) (sNl_eq hb.2.2)) gMn
  · cases h
def gL1 (vs : List sV) (cs : List Nat) : Option gRu := match vs, cs with
  | [p0, p, cd, pl], k :: l :: rest => gIf (sNl (tEn (tDe (rest.drop l)) ++ ((rest.take l).drop k).drop (rest.drop l).length) ((rest.take l).drop k)) ([([p0, p], 10 :: k :: rest.take l), ([p, cd, pl], 11 :: rest.drop l)], [], [], [], [([p0, cd, pl], 11 :: (rest.take l).take k)])
  | _, _ => none
theorem gL1_ok : gSd gL1 := by
  intro vs cs U h L sc E hA hZ hP hC hD hN
  unfold gL1 at h
  split at h
  · obtain ⟨hb, rfl⟩ := gIf_some h
    clear h
    obtain ⟨p0, hP⟩ := gMa hP
    obtain ⟨p1, hP⟩ := gMa hP
    exact gMc (q_B2 p0 p1 (sNl_eq hb)) gMn
  · cases h
def gL2 (vs : List sV) (cs : List Nat) : Option gRu := match vs, cs with
  | [s, e], [w, b] => gIf ((tWd w).all fun c => Nat.blt c 128) (([s, e, (0, 1)], [3]) :: (List.range (tWd w).length).map (fun (i : Nat) => ([gA s (i : Int), (0, ((tWd w).getD i 0 : Nat))], [1, b])), [(e, gA s ((tWd w).length : Int)), (gA s ((tWd w).length : Int), e)], [], [], [([s], [6, w])])
  | _, _ => none
theorem gL2_ok : gSd gL2 := by
  intro vs cs U h L sc E hA hZ hP hC hD hN
  unfold gL2 at h
  split at h
  · obtain ⟨hb, rfl⟩ := gIf_some h
    clear h
    rename_i s e w b
    obtain ⟨p0, hP⟩ := gMa hP
    obtain ⟨c0, hC⟩ := gMa hC
    obtain ⟨c1, hC⟩ := gMa hC
    simp only [List.map_cons, List.map_nil, hA, hZ] at p0 c0 c1
    refine gMc (q_word (b := b) p0 (by omega) (fun i hi => ?_) (fun i hi => ?_)) gMn
    · have := hP _ (List.mem_map.mpr ⟨i, List.mem_range.mpr hi, rfl⟩)
      simp only [List.map_cons, List.map_nil, hA, hZ] at this
      exact this
    · have hg : (tWd w).getD i 0 ∈ tWd w := by
        rw [List.getD_eq_getElem?_getD, List.getElem?_eq_getElem hi]
        exact List.getElem_mem hi
      have := List.all_eq_true.mp hb _ hg
      exact Nat.le_of_ble_eq_true this
  · cases h
def gL3 (vs : List sV) (cs : List Nat) : Option gRu := match vs, cs with
  | [s, e, t], [w, 0] => some ([([s, e, t], [3])], [(e, gA s (((tWd w).length : Int) + 1))], [], [], [([s], [7, w])])
  | [s, e, t], [w, 1] => some ([([s, e, t], [3])], [(gA s (((tWd w).length : Int) - 1), e)], [], [], [([s], [7, w])])
  | _, _ => none
theorem gL3_ok : gSd gL3 := by
  intro vs cs U h L sc E hA hZ hP hC hD hN
  unfold gL3 at h
  split at h
  · rename_i s e t w
    cases h
    obtain ⟨p0, hP⟩ := gMa hP
    obtain ⟨c0, hC⟩ := gMa hC
    simp only [List.map_cons, List.map_nil, List.map_append, hA, hZ, sOp5] at p0 c0
    exact gMc (by simp only [List.map_cons, List.map_nil, List.map_append, hA, hZ]; exact q_noword1 p0 (by omega)) (gMn)
  · rename_i s e t w
    cases h
    obtain ⟨p0, hP⟩ := gMa hP
    obtain ⟨c0, hC⟩ := gMa hC
    simp only [List.map_cons, List.map_nil, List.map_append, hA, hZ, sOp5] at p0 c0
    exact gMc (by simp only [List.map_cons, List.map_nil, List.map_append, hA, hZ]; exact q_noword1 p0 (by omega)) (gMn)
  · cases h
def gL4 (vs : List sV) (cs : List Nat) : Option gRu := match vs, cs with
  | [s, y], [w, b, i, 0] => gIf (Nat.blt i (tWd w).length && Nat.blt ((tWd w).getD i 0) 128) ([([gA s ((i : Int)), y], [1, b])], [(s, (0, 0)), (y, (0, (((tWd w).getD i 0 : Nat) : Int) + 1))], [], [], [([s], [7, w])])
  | [s, y], [w, b, i, 1] => gIf (Nat.blt i (tWd w).length && Nat.blt ((tWd w).getD i 0) 128) ([([gA s ((i : Int)), y], [1, b])], [(s, (0, 0)), ((0, (((tWd w).getD i 0 : Nat) : Int) - 1), y)], [], [], [([s], [7, w])])
  | _, _ => none
theorem gL4_ok : gSd gL4 := by
  intro vs cs U h L sc E hA hZ hP hC hD hN
  unfold gL4 at h
  split at h
  · rename_i s y w b i
    obtain ⟨hb, rfl⟩ := gIf_some h
    clear h
    obtain ⟨p0, hP⟩ := gMa hP
    obtain ⟨c0, hC⟩ := gMa hC
    obtain ⟨c1, hC⟩ := gMa hC
    simp only [List.map_cons, List.map_nil, List.map_append, hA, hZ, sOp5] at p0 c0 c1
    simp only [Bool.and_eq_true] at hb
    have hb1 := Nat.le_of_ble_eq_true hb.1
    have hb2 := Nat.le_of_ble_eq_true hb.2
    exact gMc (by simp only [List.map_cons, List.map_nil, List.map_append, hA, hZ]; exact q_noword2 c0 hb1 hb2 p0 (by omega)) (gMn)
  · rename_i s y w b i
    obtain ⟨hb, rfl⟩ := gIf_some h
    clear h
    obtain ⟨p0, hP⟩ := gMa hP
    obtain ⟨c0, hC⟩ := gMa hC
    obtain ⟨c1, hC⟩ := gMa hC
    simp only [List.map_cons, List.map_nil, List.map_append, hA, hZ, sOp5] at p0 c0 c1
    simp only [Bool.and_eq_true] at hb
    have hb1 := Nat.le_of_ble_eq_true hb.1
    have hb2 := Nat.le_of_ble_eq_true hb.2
    exact gMc (by simp only [List.map_cons, List.map_nil, List.map_append, hA, hZ]; exact q_noword2 c0 hb1 hb2 p0 (by omega)) (gMn)
  · cases h
def gL5 (vs : List sV) (cs : List Nat) : Option gRu := match vs, cs with
  | [s, e, t, v], [0] => some ([], [(s, (0, 0)), (t, (0, 3))], [], [], [([s, e, t, v], [19])])
  | [s, e, t, v], [1] => some ([], [(s, (0, 0)), ((0, 1), t)], [], [], [([s, e, t, v], [19])])
  | _, _ => none
theorem gL5_ok : gSd gL5 := by
  intro vs cs U h L sc E hA hZ hP hC hD hN
  unfold gL5 at h
  split at h
  · rename_i s e t v
    cases h
    obtain ⟨c0, hC⟩ := gMa hC
    obtain ⟨c1, hC⟩ := gMa hC
    simp only [List.map_cons, List.map_nil, List.map_append, hA, hZ, sOp5] at c0 c1
    exact gMc (by simp only [List.map_cons, List.map_nil, List.map_append, hA, hZ]; exact q_w0 c0 (by omega)) (gMn)
  · rename_i s e t v
    cases h
    obtain ⟨c0, hC⟩ := gMa hC
    obtain ⟨c1, hC⟩ := gMa hC
    simp only [List.map_cons, List.map_nil, List.map_append, hA, hZ, sOp5] at c0 c1
    exact gMc (by simp only [List.map_cons, List.map_nil, List.map_append, hA, hZ]; exact q_w0 c0 (by omega)) (gMn)
  · cases h
def gL6 (vs : List sV) (cs : List Nat) : Option gRu := match vs, cs with
  | [s], [] => some ([], [(s, (0, 0))], [], [], [([s, s, (0, 2), (0, 0)], [19])])
  | _, _ => none
theorem gL6_ok : gSd gL6 := by
  intro vs cs U h L sc E hA hZ hP hC hD hN
  unfold gL6 at h
  split at h
  · rename_i s
    cases h
    obtain ⟨c0, hC⟩ := gMa hC
    simp only [List.map_cons, List.map_nil, List.map_append, hA, hZ, sOp5] at c0
    exact gMc (by simp only [List.map_cons, List.map_nil, List.map_append, hA, hZ]; exact q_w1 c0) (gMn)
  · cases h
def gL7 (vs : List sV) (cs : List Nat) : Option gRu := match vs, cs with
  | [s, e, v, y, z, m, u], [w, 0] => some ([([s, e, (0, 2), v], [19]), ([e, y], [1, w])], [(y, (0, 48)), ((0, 57), y), (z, gA u (-48)), (gA u (-48), z)], [(m, v, (0, 10), 1), (u, m, y, 0)], [], [([s, gA e (1), (0, 2), z], [19])])
  | [s, e, v, y, z, m, u], [w, 1] => some ([([s, e, (0, 2), v], [19]), ([e, y], [1, w])], [(y, (0, 48)), ((0, 57), y), (z, gA u (-48)), (gA u (-48), z)], [(m, (0, 10), v, 1), (u, m, y, 0)], [], [([s, gA e (1), (0, 2), z], [19])])
  | _, _ => none
theorem gL7_ok : gSd gL7 := by
  intro vs cs U h L sc E hA hZ hP hC hD hN
  unfold gL7 at h
  split at h
  · rename_i s e v y z m u w
    cases h
    obtain ⟨p0, hP⟩ := gMa hP
    obtain ⟨p1, hP⟩ := gMa hP
    obtain ⟨c0, hC⟩ := gMa hC
    obtain ⟨c1, hC⟩ := gMa hC
    obtain ⟨c2, hC⟩ := gMa hC
    obtain ⟨c3, hC⟩ := gMa hC
    obtain ⟨d0, hD⟩ := gMa hD
    obtain ⟨d1, hD⟩ := gMa hD
    simp only [List.map_cons, List.map_nil, List.map_append, hA, hZ, sOp5] at p0 p1 c0 c1 c2 c3 d0 d1
    exact gMc (by simp only [List.map_cons, List.map_nil, List.map_append, hA, hZ]; exact q_w2 p0 p1 c0 c1 (by omega)) (gMn)
  · rename_i s e v y z m u w
    cases h
    obtain ⟨p0, hP⟩ := gMa hP
    obtain ⟨p1, hP⟩ := gMa hP
    obtain ⟨c0, hC⟩ := gMa hC
    obtain ⟨c1, hC⟩ := gMa hC
    obtain ⟨c2, hC⟩ := gMa hC
    obtain ⟨c3, hC⟩ := gMa hC
    obtain ⟨d0, hD⟩ := gMa hD
    obtain ⟨d1, hD⟩ := gMa hD
    simp only [List.map_cons, List.map_nil, List.map_append, hA, hZ, sOp5] at p0 p1 c0 c1 c2 c3 d0 d1
    exact gMc (by simp only [List.map_cons, List.map_nil, List.map_append, hA, hZ]; exact q_w2 p0 p1 c0 c1 (by omega)) (gMn)
  · cases h
def gL8 (vs : List sV) (cs : List Nat) : Option gRu := match vs, cs with
  | [s, e, y, z], [w, c] => some ([([s, e, (0, 2), (0, (c : Int))], [19]), ([e, y], [1, w])], [(y, (0, 48)), ((0, 57), y), (z, gA y (10 * (c : Int) - 48)), (gA y (10 * (c : Int) - 48), z)], [], [], [([s, gA e (1), (0, 2), z], [19])])
  | _, _ => none
theorem gL8_ok : gSd gL8 := by
  intro vs cs U h L sc E hA hZ hP hC hD hN
  unfold gL8 at h
  split at h
  · rename_i s e y z w c
    cases h
    obtain ⟨p0, hP⟩ := gMa hP
    obtain ⟨p1, hP⟩ := gMa hP
    obtain ⟨c0, hC⟩ := gMa hC
    obtain ⟨c1, hC⟩ := gMa hC
    obtain ⟨c2, hC⟩ := gMa hC
    obtain ⟨c3, hC⟩ := gMa hC
    simp only [List.map_cons, List.map_nil, List.map_append, hA, hZ, sOp5] at p0 p1 c0 c1 c2 c3
    exact gMc (by simp only [List.map_cons, List.map_nil, List.map_append, hA, hZ]; exact q_w2 p0 p1 c0 c1 (by omega)) (gMn)
  · cases h
def gL9 (vs : List sV) (cs : List Nat) : Option gRu := match vs, cs with
  | [s, e, v, x], [] => some ([([s, e, (0, 2), v], [19])], [(e, gA s (4))], [], [], [([s, gA e (1), (0, 2), x], [19])])
  | _, _ => none
theorem gL9_ok : gSd gL9 := by
  intro vs cs U h L sc E hA hZ hP hC hD hN
  unfold gL9 at h
  split at h
  · rename_i s e v x
    cases h
    obtain ⟨p0, hP⟩ := gMa hP
    obtain ⟨c0, hC⟩ := gMa hC
    simp only [List.map_cons, List.map_nil, List.map_append, hA, hZ, sOp5] at p0 c0
    exact gMc (by simp only [List.map_cons, List.map_nil, List.map_append, hA, hZ]; exact q_w3 p0 (by omega)) (gMn)
  · cases h
def gL10 (vs : List sV) (cs : List Nat) : Option gRu := match vs, cs with
  | [s, e, v, y, z, m, u], [w, 0] => some ([([s, e, (0, 2), v], [19]), ([s, e], [2, 2]), ([e, y], [1, w])], [(y, (0, 48)), ((0, 57), y)], [(m, v, (0, 10), 1), (u, m, y, 0), (z, (0, 100000), gA u (-48), 2)], [], [([s, gA e (1), (0, 2), z], [19])])
  | [s, e, v, y, z, m, u], [w, 1] => some ([([s, e, (0, 2), v], [19]), ([s, e], [2, 2]), ([e, y], [1, w])], [(y, (0, 48)), ((0, 57), y)], [(m, (0, 10), v, 1), (u, m, y, 0), (z, (0, 100000), gA u (-48), 2)], [], [([s, gA e (1), (0, 2), z], [19])])
  | _, _ => none
theorem gL10_ok : gSd gL10 := by
  intro vs cs U h L sc E hA hZ hP hC hD hN
  unfold gL10 at h
  split at h
  · rename_i s e v y z m u w
    cases h
    obtain ⟨p0, hP⟩ := gMa hP
    obtain ⟨p1, hP⟩ := gMa hP
    obtain ⟨p2, hP⟩ := gMa hP
    obtain ⟨c0, hC⟩ := gMa hC
    obtain ⟨c1, hC⟩ := gMa hC
    obtain ⟨d0, hD⟩ := gMa hD
    obtain ⟨d1, hD⟩ := gMa hD
    obtain ⟨d2, hD⟩ := gMa hD
    simp only [List.map_cons, List.map_nil, List.map_append, hA, hZ, sOp5] at p0 p1 p2 c0 c1 d0 d1 d2
    exact gMc (by simp only [List.map_cons, List.map_nil, List.map_append, hA, hZ]; exact q_w4 p0 p1 p2 c0 c1 (fun hle => by have := d2 (by omega); omega)) (gMn)
  · rename_i s e v y z m u w
    cases h
    obtain ⟨p0, hP⟩ := gMa hP
    obtain ⟨p1, hP⟩ := gMa hP
    obtain ⟨p2, hP⟩ := gMa hP
    obtain ⟨c0, hC⟩ := gMa hC
    obtain ⟨c1, hC⟩ := gMa hC
    obtain ⟨d0, hD⟩ := gMa hD
    obtain ⟨d1, hD⟩ := gMa hD
    obtain ⟨d2, hD⟩ := gMa hD
    simp only [List.map_cons, List.map_nil, List.map_append, hA, hZ, sOp5] at p0 p1 p2 c0 c1 d0 d1 d2
    exact gMc (by simp only [List.map_cons, List.map_nil, List.map_append, hA, hZ]; exact q_w4 p0 p1 p2 c0 c1 (fun hle => by have := d2 (by omega); omega)) (gMn)
  · cases h
def gL11 (vs : List sV) (cs : List Nat) : Option gRu := match vs, cs with
  | [s, e, v], [] => some ([([s, e, (0, 2)], [3]), ([s, e, (0, 2), v], [19])], [(gA s (4), e)], [], [], [([s, v], [17])])
  | _, _ => none
theorem gL11_ok : gSd gL11 := by
  intro vs cs U h L sc E hA hZ hP hC hD hN
  unfold gL11 at h
  split at h
  · rename_i s e v
    cases h
    obtain ⟨p0, hP⟩ := gMa hP
    obtain ⟨p1, hP⟩ := gMa hP
    obtain ⟨c0, hC⟩ := gMa hC
    simp only [List.map_cons, List.map_nil, List.map_append, hA, hZ, sOp5] at p0 p1 c0
    exact gMc (by simp only [List.map_cons, List.map_nil, List.map_append, hA, hZ]; exact q_num2 p0 p1 (by omega)) (gMn)
  · cases h
def gL12 (vs : List sV) (cs : List Nat) : Option gRu := match vs, cs with
  | [nn, s, e, t], [] => some ([([nn], [0]), ([s, e, t], [3])], [(s, nn)], [], [], [([s, e, (0, 0)], [3])])
  | _, _ => none
theorem gL12_ok : gSd gL12 := by
  intro vs cs U h L sc E hA hZ hP hC hD hN
  unfold gL12 at h
  split at h
  · rename_i nn s e t
    cases h
    obtain ⟨p0, hP⟩ := gMa hP
    obtain ⟨p1, hP⟩ := gMa hP
    obtain ⟨c0, hC⟩ := gMa hC
    simp only [List.map_cons, List.map_nil, List.map_append, hA, hZ, sOp5] at p0 p1 c0
    exact gMc (by simp only [List.map_cons, List.map_nil, List.map_append, hA, hZ]; exact q_past p0 p1 c0) (gMn)
  · cases h
def gL14 (vs : List sV) (cs : List Nat) : Option gRu := match vs, cs with
  | [p, e, t], [r, 0, 0] => some ([([p, e, t], [3])], [(t, (0, 3))], [], [], [([p, (0, 1)], [21, r])])
  | [p, e, t], [r, 0, 1] => some ([([p, e, t], [3])], [((0, 1), t)], [], [], [([p, (0, 1)], [21, r])])
  | [p, e], [r, 1] => some ([([p, e, (0, 2)], [3])], [(e, gA p (5))], [], [], [([p, (0, 2)], [21, r])])
  | [p, v], [r, 2] => some ([([p, v], [17])], [((0, (gBd r).1 - 1), v)], [], [], [([p, (0, 2)], [21, r])])
  | [p, v], [r, 3] => some ([([p, v], [17])], [(v, (0, (gBd r).2 + 1))], [], [], [([p, (0, 2)], [21, r])])
  | [p, v], [r, 4] => some ([([p, v], [17])], [(v, (0, (gBd r).1)), ((0, (gBd r).2), v)], [], [], [([p, (0, 0)], [21, r])])
  | _, _ => none
theorem gL14_ok : gSd gL14 := by
  intro vs cs U h L sc E hA hZ hP hC hD hN
  unfold gL14 at h
  split at h
  · rename_i p e t r
    cases h
    obtain ⟨p0, hP⟩ := gMa hP
    obtain ⟨c0, hC⟩ := gMa hC
    simp only [List.map_cons, List.map_nil, List.map_append, hA, hZ, sOp5] at p0 c0
    exact gMc (by simp only [List.map_cons, List.map_nil, List.map_append, hA, hZ]; exact ⟨p0.1, by decide, tNum_no (q_p1 (k := 2) p0 (by omega))⟩) (gMn)
  · rename_i p e t r
    cases h
    obtain ⟨p0, hP⟩ := gMa hP
    obtain ⟨c0, hC⟩ := gMa hC
    simp only [List.map_cons, List.map_nil, List.map_append, hA, hZ, sOp5] at p0 c0
    exact gMc (by simp only [List.map_cons, List.map_nil, List.map_append, hA, hZ]; exact ⟨p0.1, by decide, tNum_no (q_p1 (k := 2) p0 (by omega))⟩) (gMn)
  · rename_i p e r
    cases h
    obtain ⟨p0, hP⟩ := gMa hP
    obtain ⟨c0, hC⟩ := gMa hC
    simp only [List.map_cons, List.map_nil, List.map_append, hA, hZ, sOp5] at p0 c0
    exact gMc (by simp only [List.map_cons, List.map_nil, List.map_append, hA, hZ]; exact ⟨p0.1, by decide, tNum_long (q_p0 p0) (q_p7 p0 (by omega))⟩) (gMn)
  · rename_i p v r
    cases h
    obtain ⟨p0, hP⟩ := gMa hP
    obtain ⟨c0, hC⟩ := gMa hC
    simp only [List.map_cons, List.map_nil, List.map_append, hA, hZ, sOp5] at p0 c0
    exact gMc (by simp only [List.map_cons, List.map_nil, List.map_append, hA, hZ]; exact ⟨p0.1, by decide, tNum_out p0.2 (Or.inl (by omega))⟩) (gMn)
  · rename_i p v r
    cases h
    obtain ⟨p0, hP⟩ := gMa hP
    obtain ⟨c0, hC⟩ := gMa hC
    simp only [List.map_cons, List.map_nil, List.map_append, hA, hZ, sOp5] at p0 c0
    exact gMc (by simp only [List.map_cons, List.map_nil, List.map_append, hA, hZ]; exact ⟨p0.1, by decide, tNum_out p0.2 (Or.inr (by omega))⟩) (gMn)
  · rename_i p v r
    cases h
    obtain ⟨p0, hP⟩ := gMa hP
    obtain ⟨c0, hC⟩ := gMa hC
    obtain ⟨c1, hC⟩ := gMa hC
    simp only [List.map_cons, List.map_nil, List.map_append, hA, hZ, sOp5] at p0 c0 c1
    exact gMc (by simp only [List.map_cons, List.map_nil, List.map_append, hA, hZ]; exact ⟨p0.1, by decide, tNum_ok p0.2 c0 c1⟩) (gMn)
  · cases h
def gL15 (vs : List sV) (cs : List Nat) : Option gRu := match vs, cs with
  | [p, ag, e, t], [0, 0] => some ([([p, e, t], [3])], [(t, (0, 3)), (ag, (0, 0))], [], [], [([p, ag, (0, 1)], [22])])
  | [p, ag, e, t], [0, 1] => some ([([p, e, t], [3])], [((0, 1), t), (ag, (0, 0))], [], [], [([p, ag, (0, 1)], [22])])
  | [p, ag, e], [1] => some ([([p, e, (0, 2)], [3])], [(e, gA p (5)), (ag, (0, 0))], [], [], [([p, ag, (0, 2)], [22])])
  | [p, ag, v], [2] => some ([([p, v], [17])], [(v, ag), (ag, (0, 0))], [], [], [([p, ag, (0, 3)], [22])])
  | [p, ag, v], [3] => some ([([p, v], [17])], [(ag, gA v (1)), (ag, (0, 0))], [], [], [([p, ag, (0, 0)], [22])])
  | [p, ag, v], [4] => some ([([p, v], [21, 4])], [(v, (0, 1)), (ag, (0, 0))], [], [], [([p, ag, v], [22])])
  | _, _ => none
theorem gL15_ok : gSd gL15 := by
  intro vs cs U h L sc E hA hZ hP hC hD hN
  unfold gL15 at h
  split at h
  · rename_i p ag e t
    cases h
    obtain ⟨p0, hP⟩ := gMa hP
    obtain ⟨c0, hC⟩ := gMa hC
    obtain ⟨c1, hC⟩ := gMa hC
    simp only [List.map_cons, List.map_nil, List.map_append, hA, hZ, sOp5] at p0 c0 c1
    exact gMc (by simp only [List.map_cons, List.map_nil, List.map_append, hA, hZ]; exact ⟨p0.1, c1, by decide, tAg_no (q_p1 (k := 2) p0 (by omega))⟩) (gMn)
  · rename_i p ag e t
    cases h
    obtain ⟨p0, hP⟩ := gMa hP
    obtain ⟨c0, hC⟩ := gMa hC
    obtain ⟨c1, hC⟩ := gMa hC
    simp only [List.map_cons, List.map_nil, List.map_append, hA, hZ, sOp5] at p0 c0 c1
    exact gMc (by simp only [List.map_cons, List.map_nil, List.map_append, hA, hZ]; exact ⟨p0.1, c1, by decide, tAg_no (q_p1 (k := 2) p0 (by omega))⟩) (gMn)
  · rename_i p ag e
    cases h
    obtain ⟨p0, hP⟩ := gMa hP
    obtain ⟨c0, hC⟩ := gMa hC
    obtain ⟨c1, hC⟩ := gMa hC
    simp only [List.map_cons, List.map_nil, List.map_append, hA, hZ, sOp5] at p0 c0 c1
    exact gMc (by simp only [List.map_cons, List.map_nil, List.map_append, hA, hZ]; exact ⟨p0.1, c1, by decide, tAg_long (q_p0 p0) (q_p7 p0 (by omega))⟩) (gMn)
  · rename_i p ag v
    cases h
    obtain ⟨p0, hP⟩ := gMa hP
    obtain ⟨c0, hC⟩ := gMa hC
    obtain ⟨c1, hC⟩ := gMa hC
    simp only [List.map_cons, List.map_nil, List.map_append, hA, hZ, sOp5] at p0 c0 c1
    exact gMc (by simp only [List.map_cons, List.map_nil, List.map_append, hA, hZ]; exact ⟨p0.1, c1, by decide, tAg_out p0.2 (by omega)⟩) (gMn)
  · rename_i p ag v
    cases h
    obtain ⟨p0, hP⟩ := gMa hP
    obtain ⟨c0, hC⟩ := gMa hC
    obtain ⟨c1, hC⟩ := gMa hC
    simp only [List.map_cons, List.map_nil, List.map_append, hA, hZ, sOp5] at p0 c0 c1
    exact gMc (by simp only [List.map_cons, List.map_nil, List.map_append, hA, hZ]; exact ⟨p0.1, c1, by decide, tAg_ok p0.2 (by omega)⟩) (gMn)
  · rename_i p ag v
    cases h
    obtain ⟨p0, hP⟩ := gMa hP
    obtain ⟨c0, hC⟩ := gMa hC
    obtain ⟨c1, hC⟩ := gMa hC
    simp only [List.map_cons, List.map_nil, List.map_append, hA, hZ, sOp5] at p0 c0 c1
    have hne : ¬ tNum (gT L sc) (gN L sc) (E p).toNat 0 9999 = 0 := fun q => by have h3 : tNum (gT L sc) (gN L sc) (E p).toNat 0 9999 = (E v).toNat := p0.2.2; omega
    exact gMc (by simp only [List.map_cons, List.map_nil, List.map_append, hA, hZ]; exact ⟨p0.1, c1, p0.2.1, by unfold tAg; rw [if_neg hne]; exact p0.2.2⟩) (gMn)
  · cases h
def gL16 (vs : List sV) (cs : List Nat) : Option gRu := match vs, cs with
  | [p, e, cd], [d] => some ([([p, e, (0, 2)], [3]), ([p, cd], [21, 4])], [(cd, (0, 1))], [], [], [([p, cd, p], [11, 16, d])])
  | _, _ => none
theorem gL16_ok : gSd gL16 := by
  intro vs cs U h L sc E hA hZ hP hC hD hN
  unfold gL16 at h
  split at h
  · rename_i p e cd d
    cases h
    obtain ⟨p0, hP⟩ := gMa hP
    obtain ⟨p1, hP⟩ := gMa hP
    obtain ⟨c0, hC⟩ := gMa hC
    simp only [List.map_cons, List.map_nil, List.map_append, hA, hZ, sOp5] at p0 p1 c0
    exact gMc (by simp only [List.map_cons, List.map_nil, List.map_append, hA, hZ]; exact q_num16 p0 p1 c0) (gMn)
  · cases h
def gL17 (vs : List sV) (cs : List Nat) : Option gRu := match vs, cs with
  | [p, v, q], [d] => some ([([p, v], [17]), ([p, q], [16])], [], [], [], [([p, q], [10, 2, 16, d])])
  | _, _ => none
theorem gL17_ok : gSd gL17 := by
  intro vs cs U h L sc E hA hZ hP hC hD hN
  unfold gL17 at h
  split at h
  · rename_i p v q d
    cases h
    obtain ⟨p0, hP⟩ := gMa hP
    obtain ⟨p1, hP⟩ := gMa hP
    simp only [List.map_cons, List.map_nil, List.map_append, hA, hZ, sOp5] at p0 p1
    exact gMc (by simp only [List.map_cons, List.map_nil, List.map_append, hA, hZ]; exact q_num17 p0 p1) (gMn)
  · cases h
def gL18 (vs : List sV) (cs : List Nat) : Option gRu := match vs, cs with
  | [z], [] => some ([([z], [18])], [(z, (0, 0))], [], [], [([z], [0])])
  | _, _ => none
theorem gL18_ok : gSd gL18 := by
  intro vs cs U h L sc E hA hZ hP hC hD hN
  unfold gL18 at h
  split at h
  · rename_i z
    cases h
    obtain ⟨p0, hP⟩ := gMa hP
    obtain ⟨c0, hC⟩ := gMa hC
    simp only [List.map_cons, List.map_nil, List.map_append, hA, hZ, sOp5] at p0 c0
    exact gMc (by simp only [List.map_cons, List.map_nil, List.map_append, hA, hZ]; exact q_nn p0 c0) (gMn)
  · cases h
def gL20 (vs : List sV) (cs : List Nat) : Option gRu := match vs, cs with
  | [s], [] => some ([([(0, 0), s], [4])], [], [], [], [([s, (0, 0), (0, 0), (0, 0), (0, 0), (0, 0)], [12, 0, 20, 0])])
  | _, _ => none
theorem gL20_ok : gSd gL20 := by
  intro vs cs U h L sc E hA hZ hP hC hD hN
  unfold gL20 at h
  split at h
  · rename_i s
    cases h
    obtain ⟨p0, hP⟩ := gMa hP
    simp only [List.map_cons, List.map_nil, List.map_append, hA, hZ, sOp5] at p0
    exact gMc (by simp only [List.map_cons, List.map_nil, List.map_append, hA, hZ]; exact q_G0 (n := 0) p0) (gMn)
  · cases h
def gL21 (vs : List sV) (cs : List Nat) : Option gRu := match vs, cs with
  | p :: q :: a :: b :: d :: se :: gr :: nu, j :: ru :: l :: rest => gIf (sNl (tEn (tDe ((rest.drop l).take j)) ++ (rest.take l).drop j) (rest.take l) && sNl (tEn (tDe ((rest.drop l).drop j))) ((rest.drop l).drop j)) ([(p :: a :: b :: d :: se :: gr :: nu, 12 :: ru :: rest.take l), ([p, q], 10 :: j :: rest.drop l)], [], [], [], [(q :: a :: b :: d :: se :: gr :: nu, 12 :: ru :: ((rest.drop l).drop j ++ (rest.take l).drop j))])
  | _, _ => none
theorem gL21_ok : gSd gL21 := by
  intro vs cs U h L sc E hA hZ hP hC hD hN
  unfold gL21 at h
  split at h
  · obtain ⟨hb, rfl⟩ := gIf_some h
    clear h
    simp only [Bool.and_eq_true] at hb
    obtain ⟨p0, hP⟩ := gMa hP
    obtain ⟨p1, hP⟩ := gMa hP
    exact gMc (q_GD p0 p1 (sNl_eq hb.1) (sNl_eq hb.2)) gMn
  · cases h
def gL22 (vs : List sV) (cs : List Nat) : Option gRu := match vs, cs with
  | p :: cd :: pl :: a :: b :: d :: se :: gr :: nu, ru :: l :: rest => gIf (sNl (tEn (tDe (rest.drop l)) ++ (rest.take l).drop (rest.drop l).length) (rest.take l)) ([(p :: a :: b :: d :: se :: gr :: nu, 12 :: ru :: rest.take l), ([p, cd, pl], 11 :: rest.drop l)], [], [], [], [([cd, pl], [13])])
  | _, _ => none
theorem gL22_ok : gSd gL22 := by
  intro vs cs U h L sc E hA hZ hP hC hD hN
  unfold gL22 at h
  split at h
  · obtain ⟨hb, rfl⟩ := gIf_some h
    clear h
    obtain ⟨p0, hP⟩ := gMa hP
    obtain ⟨p1, hP⟩ := gMa hP
    exact gMc (q_GB p0 p1 (sNl_eq hb)) gMn
  · cases h
def gL23 (vs : List sV) (cs : List Nat) : Option gRu := match vs, cs with
  | p :: a :: b :: d :: se :: gr :: nu, [ru] => some ([(p :: a :: b :: d :: se :: gr :: nu, [12, ru])], [], [], [], [([(0, 0), (0, -1)], [13])])
  | _, _ => none
theorem gL23_ok : gSd gL23 := by
  intro vs cs U h L sc E hA hZ hP hC hD hN
  unfold gL23 at h
  split at h
  · rename_i p a b d se gr nu ru
    cases h
    obtain ⟨p0, hP⟩ := gMa hP
    simp only [List.map_cons, List.map_nil, List.map_append, hA, hZ, sOp5] at p0
    exact gMc (by simp only [List.map_cons, List.map_nil, List.map_append, hA, hZ]; exact q_end0 p0) (gMn)
  · cases h
def gL24 (vs : List sV) (cs : List Nat) : Option gRu := match vs, cs with
  | p :: e :: a :: b :: d :: se :: gr :: nu, [ru] => some ([(p :: a :: b :: d :: se :: gr :: nu, 12 :: ru :: [20, 0]), ([p, e, (0, 0)], [3])], [], [], [], [(p :: a :: b :: d :: se :: gr :: nu, [12, ru])])
  | _, _ => none
theorem gL24_ok : gSd gL24 := by
  intro vs cs U h L sc E hA hZ hP hC hD hN
  unfold gL24 at h
  split at h
  · rename_i p e a b d se gr nu ru
    cases h
    obtain ⟨p0, hP⟩ := gMa hP
    obtain ⟨p1, hP⟩ := gMa hP
    simp only [List.map_cons, List.map_nil, List.map_append, hA, hZ, sOp5] at p0 p1
    exact gMc (by simp only [List.map_cons, List.map_nil, List.map_append, hA, hZ]; exact q_Pend p0 p1) (gMn)
  · cases h
def gL25 (vs : List sV) (cs : List Nat) : Option gRu := match vs, cs with
  | p :: q :: a :: b :: d :: se :: gr :: nu, [ru, w] => gIf (Nat.blt w 5) ([(p :: a :: b :: d :: se :: gr :: nu, 12 :: ru :: [20, 0]), ([p], [6, w]), ([p, q], [16])], [((0, 7), a)], [], [], [([q, a, b, d, se, gr, (0, (w : Int))], [12, ru, 22, 0, 22, 0, 22, 1, 26, 0, 21, 0, 20, 0])])
  | _, _ => none
theorem gL25_ok : gSd gL25 := by
  intro vs cs U h L sc E hA hZ hP hC hD hN
  unfold gL25 at h
  split at h
  · rename_i p q a b d se gr nu ru w
    obtain ⟨hb, rfl⟩ := gIf_some h
    clear h
    obtain ⟨p0, hP⟩ := gMa hP
    obtain ⟨p1, hP⟩ := gMa hP
    obtain ⟨p2, hP⟩ := gMa hP
    obtain ⟨c0, hC⟩ := gMa hC
    simp only [List.map_cons, List.map_nil, List.map_append, hA, hZ, sOp5] at p0 p1 p2 c0
    have hb1 := Nat.le_of_ble_eq_true hb
    exact gMc (by simp only [List.map_cons, List.map_nil, List.map_append, hA, hZ]; exact q_Pkind hb1 p0 p1 p2 (by omega)) (gMn)
  · cases h
def gL26 (vs : List sV) (cs : List Nat) : Option gRu := match vs, cs with
  | p :: a :: b :: d :: se :: gr :: nu, [ru, w] => gIf (Nat.blt w 5) ([(p :: a :: b :: d :: se :: gr :: nu, 12 :: ru :: [20, 0]), ([p], [6, w])], [(a, (0, 8))], [], [], [([(0, 2), p], [13])])
  | _, _ => none
theorem gL26_ok : gSd gL26 := by
  intro vs cs U h L sc E hA hZ hP hC hD hN
  unfold gL26 at h
  split at h
  · rename_i p a b d se gr nu ru w
    obtain ⟨hb, rfl⟩ := gIf_some h
    clear h
    obtain ⟨p0, hP⟩ := gMa hP
    obtain ⟨p1, hP⟩ := gMa hP
    obtain ⟨c0, hC⟩ := gMa hC
    simp only [List.map_cons, List.map_nil, List.map_append, hA, hZ, sOp5] at p0 p1 c0
    have hb1 := Nat.le_of_ble_eq_true hb
    exact gMc (by simp only [List.map_cons, List.map_nil, List.map_append, hA, hZ]; exact q_Pkind_f hb1 p0 p1 (by omega)) (gMn)
  · cases h
def gL27 (vs : List sV) (cs : List Nat) : Option gRu := match vs, cs with
  | p :: q :: a :: b :: d :: se :: gr :: nu, [ru] => some ([(p :: a :: b :: d :: se :: gr :: nu, 12 :: ru :: [20, 0]), ([p], [6, 5]), ([p, q], [16])], [((0, 15), b)], [], [], [([q, a, b, d, se, gr], [12, ru, 23, 0, 24, 0, 28, 0, 21, 0, 20, 0])])
  | _, _ => none
theorem gL27_ok : gSd gL27 := by
  intro vs cs U h L sc E hA hZ hP hC hD hN
  unfold gL27 at h
  split at h
  · rename_i p q a b d se gr nu ru
    cases h
    obtain ⟨p0, hP⟩ := gMa hP
    obtain ⟨p1, hP⟩ := gMa hP
    obtain ⟨p2, hP⟩ := gMa hP
    obtain ⟨c0, hC⟩ := gMa hC
    simp only [List.map_cons, List.map_nil, List.map_append, hA, hZ, sOp5] at p0 p1 p2 c0
    exact gMc (by simp only [List.map_cons, List.map_nil, List.map_append, hA, hZ]; exact q_Pline p0 p1 p2 (by omega)) (gMn)
  · cases h
def gL28 (vs : List sV) (cs : List Nat) : Option gRu := match vs, cs with
  | p :: a :: b :: d :: se :: gr :: nu, [ru] => some ([(p :: a :: b :: d :: se :: gr :: nu, 12 :: ru :: [20, 0]), ([p], [6, 5])], [(b, (0, 16))], [], [], [([(0, 2), p], [13])])
  | _, _ => none
theorem gL28_ok : gSd gL28 := by
  intro vs cs U h L sc E hA hZ hP hC hD hN
  unfold gL28 at h
  split at h
  · rename_i p a b d se gr nu ru
    cases h
    obtain ⟨p0, hP⟩ := gMa hP
    obtain ⟨p1, hP⟩ := gMa hP
    obtain ⟨c0, hC⟩ := gMa hC
    simp only [List.map_cons, List.map_nil, List.map_append, hA, hZ, sOp5] at p0 p1 c0
    exact gMc (by simp only [List.map_cons, List.map_nil, List.map_append, hA, hZ]; exact q_Pline_f p0 p1 (by omega)) (gMn)
  · cases h
def gL29 (vs : List sV) (cs : List Nat) : Option gRu := match vs, cs with
  | p :: q :: a :: b :: d :: se :: gr :: nu, [ru] => some ([(p :: a :: b :: d :: se :: gr :: nu, 12 :: ru :: [20, 0]), ([p], [6, 6]), ([p, q], [16])], [((0, 5), se)], [], [], [([q, a, b, d, se, gr], [12, ru, 22, 3, 22, 0, 27, 0, 21, 0, 20, 0])])
  | _, _ => none
theorem gL29_ok : gSd gL29 := by
  intro vs cs U h L sc E hA hZ hP hC hD hN
  unfold gL29 at h
  split at h
  · rename_i p q a b d se gr nu ru
    cases h
    obtain ⟨p0, hP⟩ := gMa hP
    obtain ⟨p1, hP⟩ := gMa hP
    obtain ⟨p2, hP⟩ := gMa hP
    obtain ⟨c0, hC⟩ := gMa hC
    simp only [List.map_cons, List.map_nil, List.map_append, hA, hZ, sOp5] at p0 p1 p2 c0
    exact gMc (by simp only [List.map_cons, List.map_nil, List.map_append, hA, hZ]; exact q_Psec p0 p1 p2 (by omega)) (gMn)
  · cases h
def gL30 (vs : List sV) (cs : List Nat) : Option gRu := match vs, cs with
  | p :: a :: b :: d :: se :: gr :: nu, [ru] => some ([(p :: a :: b :: d :: se :: gr :: nu, 12 :: ru :: [20, 0]), ([p], [6, 6])], [(se, (0, 6))], [], [], [([(0, 2), p], [13])])
  | _, _ => none
theorem gL30_ok : gSd gL30 := by
  intro vs cs U h L sc E hA hZ hP hC hD hN
  unfold gL30 at h
  split at h
  · rename_i p a b d se gr nu ru
    cases h
    obtain ⟨p0, hP⟩ := gMa hP
    obtain ⟨p1, hP⟩ := gMa hP
    obtain ⟨c0, hC⟩ := gMa hC
    simp only [List.map_cons, List.map_nil, List.map_append, hA, hZ, sOp5] at p0 p1 c0
    exact gMc (by simp only [List.map_cons, List.map_nil, List.map_append, hA, hZ]; exact q_Psec_f p0 p1 (by omega)) (gMn)
  · cases h
def gL31 (vs : List sV) (cs : List Nat) : Option gRu := match vs, cs with
  | p :: q :: a :: b :: d :: se :: gr :: nu, [ru] => some ([(p :: a :: b :: d :: se :: gr :: nu, 12 :: ru :: [20, 0]), ([p], [6, 7]), ([p, q], [16])], [((0, 7), gr)], [], [], [([q, a, b, d, se, gr], [12, ru, 23, 0, 25, 0, 21, 0, 20, 0])])
  | _, _ => none
theorem gL31_ok : gSd gL31 := by
  intro vs cs U h L sc E hA hZ hP hC hD hN
  unfold gL31 at h
  split at h
  · rename_i p q a b d se gr nu ru
    cases h
    obtain ⟨p0, hP⟩ := gMa hP
    obtain ⟨p1, hP⟩ := gMa hP
    obtain ⟨p2, hP⟩ := gMa hP
    obtain ⟨c0, hC⟩ := gMa hC
    simp only [List.map_cons, List.map_nil, List.map_append, hA, hZ, sOp5] at p0 p1 p2 c0
    exact gMc (by simp only [List.map_cons, List.map_nil, List.map_append, hA, hZ]; exact q_Pgru p0 p1 p2 (by omega)) (gMn)
  · cases h
def gL32 (vs : List sV) (cs : List Nat) : Option gRu := match vs, cs with
  | p :: a :: b :: d :: se :: gr :: nu, [ru] => some ([(p :: a :: b :: d :: se :: gr :: nu, 12 :: ru :: [20, 0]), ([p], [6, 7])], [(gr, (0, 8))], [], [], [([(0, 2), p], [13])])
  | _, _ => none
theorem gL32_ok : gSd gL32 := by
  intro vs cs U h L sc E hA hZ hP hC hD hN
  unfold gL32 at h
  split at h
  · rename_i p a b d se gr nu ru
    cases h
    obtain ⟨p0, hP⟩ := gMa hP
    obtain ⟨p1, hP⟩ := gMa hP
    obtain ⟨c0, hC⟩ := gMa hC
    simp only [List.map_cons, List.map_nil, List.map_append, hA, hZ, sOp5] at p0 p1 c0
    exact gMc (by simp only [List.map_cons, List.map_nil, List.map_append, hA, hZ]; exact q_Pgru_f p0 p1 (by omega)) (gMn)
  · cases h
def gL33 (vs : List sV) (cs : List Nat) : Option gRu := match vs, cs with
  | p :: q :: a :: b :: d :: se :: gr :: nu, [0] => some ([(p :: a :: b :: d :: se :: gr :: nu, [12, 0, 20, 0]), ([p], [6, 8]), ([p, q], [16])], [], [], [], [(q :: a :: b :: d :: se :: gr :: nu, [12, 1, 0, 0, 21, 0, 20, 0])])
  | _, _ => none
theorem gL33_ok : gSd gL33 := by
  intro vs cs U h L sc E hA hZ hP hC hD hN
  unfold gL33 at h
  split at h
  · rename_i p q a b d se gr nu
    cases h
    obtain ⟨p0, hP⟩ := gMa hP
    obtain ⟨p1, hP⟩ := gMa hP
    obtain ⟨p2, hP⟩ := gMa hP
    simp only [List.map_cons, List.map_nil, List.map_append, hA, hZ, sOp5] at p0 p1 p2
    exact gMc (by simp only [List.map_cons, List.map_nil, List.map_append, hA, hZ]; exact q_Ptel p0 p1 p2) (gMn)
  · cases h
def gL34 (vs : List sV) (cs : List Nat) : Option gRu := match vs, cs with
  | p :: a :: b :: d :: se :: gr :: nu, [1] => some ([(p :: a :: b :: d :: se :: gr :: nu, [12, 1, 20, 0]), ([p], [6, 8])], [], [], [], [([(0, 5), p], [13])])
  | _, _ => none
theorem gL34_ok : gSd gL34 := by
  intro vs cs U h L sc E hA hZ hP hC hD hN
  unfold gL34 at h
  split at h
  · rename_i p a b d se gr nu
    cases h
    obtain ⟨p0, hP⟩ := gMa hP
    obtain ⟨p1, hP⟩ := gMa hP
    simp only [List.map_cons, List.map_nil, List.map_append, hA, hZ, sOp5] at p0 p1
    exact gMc (by simp only [List.map_cons, List.map_nil, List.map_append, hA, hZ]; exact q_Ptel_f p0 p1) (gMn)
  · cases h
def gL35 (vs : List sV) (cs : List Nat) : Option gRu := match vs, cs with
  | p :: e :: t :: a :: b :: d :: se :: gr :: nu, [ru] => some ([(p :: a :: b :: d :: se :: gr :: nu, 12 :: ru :: [20, 0]), ([p, e, t], [3]), ([p], [7, 0]), ([p], [7, 1]), ([p], [7, 2]), ([p], [7, 3]), ([p], [7, 4]), ([p], [7, 5]), ([p], [7, 6]), ([p], [7, 7]), ([p], [7, 8])], [(t, (0, 1))], [], [], [([(0, 1), p], [13])])
  | _, _ => none
theorem gL35_ok : gSd gL35 := by
  intro vs cs U h L sc E hA hZ hP hC hD hN
  unfold gL35 at h
  split at h
  · rename_i p e t a b d se gr nu ru
    cases h
    obtain ⟨p0, hP⟩ := gMa hP
    obtain ⟨p1, hP⟩ := gMa hP
    obtain ⟨p2, hP⟩ := gMa hP
    obtain ⟨p3, hP⟩ := gMa hP
    obtain ⟨p4, hP⟩ := gMa hP
    obtain ⟨p5, hP⟩ := gMa hP
    obtain ⟨p6, hP⟩ := gMa hP
    obtain ⟨p7, hP⟩ := gMa hP
    obtain ⟨p8, hP⟩ := gMa hP
    obtain ⟨p9, hP⟩ := gMa hP
    obtain ⟨p10, hP⟩ := gMa hP
    obtain ⟨c0, hC⟩ := gMa hC
    simp only [List.map_cons, List.map_nil, List.map_append, hA, hZ, sOp5] at p0 p1 p2 p3 p4 p5 p6 p7 p8 p9 p10 c0
    exact gMc (by simp only [List.map_cons, List.map_nil, List.map_append, hA, hZ]; exact q_Pnone p0 p1 (by omega) (fun k hk => by rcases (by omega : k = 0 ∨ k = 1 ∨ k = 2 ∨ k = 3 ∨ k = 4 ∨ k = 5 ∨ k = 6 ∨ k = 7 ∨ k = 8) with rfl | rfl | rfl | rfl | rfl | rfl | rfl | rfl | rfl <;> assumption)) (gMn)
  · cases h
def gL36 (vs : List sV) (cs : List Nat) : Option gRu := match vs, cs with
  | p :: cd :: a :: b :: d :: se :: gr :: nu, ru :: y :: K => gIf (Nat.blt y 4) ([(p :: a :: b :: d :: se :: gr :: nu, 12 :: ru :: 22 :: y :: K), ([p, cd], [21, y])], [(cd, (0, 1))], [], [], [([cd, p], [13])])
  | _, _ => none
theorem gL36_ok : gSd gL36 := by
  intro vs cs U h L sc E hA hZ hP hC hD hN
  unfold gL36 at h
  split at h
  · rename_i p cd a b d se gr nu ru y K
    obtain ⟨hb, rfl⟩ := gIf_some h
    clear h
    obtain ⟨p0, hP⟩ := gMa hP
    obtain ⟨p1, hP⟩ := gMa hP
    obtain ⟨c0, hC⟩ := gMa hC
    simp only [List.map_cons, List.map_nil, List.map_append, hA, hZ, sOp5] at p0 p1 c0
    obtain ⟨h1, h2, h3, h4, h5, h6, h7⟩ := p0
    have hcd : ((E cd).toNat : Int) = E cd := Int.toNat_of_nonneg (by omega)
    have hb1 := Nat.le_of_ble_eq_true hb
    have hbd : gBd y = tBd y := by rcases (by omega : y = 0 ∨ y = 1 ∨ y = 2 ∨ y = 3) with rfl | rfl | rfl | rfl <;> rfl
    obtain ⟨g1, g2, g3⟩ := p1
    rw [hbd] at g3
    have hF := q_F (L := L) (sc := sc) h1 (tN_f h7 g3 (by omega))
    rw [hcd] at hF
    exact gMc (by simp only [List.map_cons, List.map_nil, List.map_append, hA, hZ]; exact hF) (gMn)
  · cases h
def gL38 (vs : List sV) (cs : List Nat) : Option gRu := match vs, cs with
  | p :: cd :: a :: b :: d :: se :: gr :: nu, ru :: y :: K => some ([(p :: a :: b :: d :: se :: gr :: nu, 12 :: ru :: 28 :: y :: K), ([p, cd], [21, 2])], [(cd, (0, 1))], [], [], [([cd, p], [13])])
  | _, _ => none
theorem gL38_ok : gSd gL38 := by
  intro vs cs U h L sc E hA hZ hP hC hD hN
  unfold gL38 at h
  split at h
  · rename_i p cd a b d se gr nu ru y K
    cases h
    obtain ⟨p0, hP⟩ := gMa hP
    obtain ⟨p1, hP⟩ := gMa hP
    obtain ⟨c0, hC⟩ := gMa hC
    simp only [List.map_cons, List.map_nil, List.map_append, hA, hZ, sOp5] at p0 p1 c0
    obtain ⟨h1, h2, h3, h4, h5, h6, h7⟩ := p0
    have hcd : ((E cd).toNat : Int) = E cd := Int.toNat_of_nonneg (by omega)
    obtain ⟨g1, g2, g3⟩ := p1
    have hF := q_F (L := L) (sc := sc) h1 (tD_f h7 g3 (by omega))
    rw [hcd] at hF
    exact gMc (by simp only [List.map_cons, List.map_nil, List.map_append, hA, hZ]; exact hF) (gMn)
  · cases h
def gL37 (vs : List sV) (cs : List Nat) : Option gRu := match vs, cs with
  | p :: q :: v :: a :: b :: d :: se :: gr :: nu, ru :: y :: K => gIf (Nat.blt y 4) ([(p :: a :: b :: d :: se :: gr :: nu, 12 :: ru :: 22 :: y :: K), ([p, (0, 0)], [21, y]), ([p, v], [17]), ([p, q], [16])], [], [], [], [(q :: a :: b :: d :: se :: gr :: (nu ++ [v]), 12 :: ru :: K)])
  | _, _ => none
theorem gL37_ok : gSd gL37 := by
  intro vs cs U h L sc E hA hZ hP hC hD hN
  unfold gL37 at h
  split at h
  · rename_i p q v a b d se gr nu ru y K
    obtain ⟨hb, rfl⟩ := gIf_some h
    clear h
    obtain ⟨p0, hP⟩ := gMa hP
    obtain ⟨p1, hP⟩ := gMa hP
    obtain ⟨p2, hP⟩ := gMa hP
    obtain ⟨p3, hP⟩ := gMa hP
    simp only [List.map_cons, List.map_nil, List.map_append, hA, hZ, sOp5] at p0 p1 p2 p3
    have hb1 := Nat.le_of_ble_eq_true hb
    have hbd : gBd y = tBd y := by rcases (by omega : y = 0 ∨ y = 1 ∨ y = 2 ∨ y = 3) with rfl | rfl | rfl | rfl <;> rfl
    have hin := tNum_in p2.2 p1.2.2
    rw [hbd] at hin
    exact gMc (by simp only [List.map_cons, List.map_nil, List.map_append, hA, hZ]; exact q_Nok p0 p2 hin.1 hin.2 p3) (gMn)
  · cases h
def gL39 (vs : List sV) (cs : List Nat) : Option gRu := match vs, cs with
  | p :: q :: v :: a :: b :: d :: se :: gr :: nu, ru :: y :: K => some ([(p :: a :: b :: d :: se :: gr :: nu, 12 :: ru :: 28 :: y :: K), ([p, (0, 0)], [21, 2]), ([p, v], [17]), ([p, q], [16])], [], [], [], [([q, a, b, gA d (1), se, gr], 12 :: ru :: K), ([d, v], [14, 4])])
  | _, _ => none
theorem gL39_ok : gSd gL39 := by
  intro vs cs U h L sc E hA hZ hP hC hD hN
  unfold gL39 at h
  split at h
  · rename_i p q v a b d se gr nu ru y K
    cases h
    obtain ⟨p0, hP⟩ := gMa hP
    obtain ⟨p1, hP⟩ := gMa hP
    obtain ⟨p2, hP⟩ := gMa hP
    obtain ⟨p3, hP⟩ := gMa hP
    simp only [List.map_cons, List.map_nil, List.map_append, hA, hZ, sOp5] at p0 p1 p2 p3
    have hin := tNum_in p2.2 p1.2.2
    have hh := q_Dok p0 p2 hin.1 hin.2 p3
    exact gMc (by simp only [List.map_cons, List.map_nil, List.map_append, hA, hZ]; exact hh.1) (gMc (by simp only [List.map_cons, List.map_nil, List.map_append, hA, hZ]; exact hh.2) (gMn))
  · cases h
def gL40 (vs : List sV) (cs : List Nat) : Option gRu := match vs, cs with
  | p :: cd :: a :: b :: d :: se :: gr :: nu, ru :: y0 :: y1 :: K => gIf (tIsA y0) ([(p :: a :: b :: d :: se :: gr :: nu, 12 :: ru :: y0 :: y1 :: K), ([p, a, cd], [22])], [(cd, (0, 1))], [], [], [([cd, p], [13])])
  | _, _ => none
theorem gL40_ok : gSd gL40 := by
  intro vs cs U h L sc E hA hZ hP hC hD hN
  unfold gL40 at h
  split at h
  · rename_i p cd a b d se gr nu ru y0 y1 K
    obtain ⟨hb, rfl⟩ := gIf_some h
    clear h
    obtain ⟨p0, hP⟩ := gMa hP
    obtain ⟨p1, hP⟩ := gMa hP
    obtain ⟨c0, hC⟩ := gMa hC
    simp only [List.map_cons, List.map_nil, List.map_append, hA, hZ, sOp5] at p0 p1 c0
    obtain ⟨h1, h2, h3, h4, h5, h6, h7⟩ := p0
    have hcd : ((E cd).toNat : Int) = E cd := Int.toNat_of_nonneg (by omega)
    obtain ⟨g1, g2, g3, g4⟩ := p1
    have hF := q_F (L := L) (sc := sc) h1 (tA_f hb h7 g4 (by omega))
    rw [hcd] at hF
    exact gMc (by simp only [List.map_cons, List.map_nil, List.map_append, hA, hZ]; exact hF) (gMn)
  · cases h
def gL41 (vs : List sV) (cs : List Nat) : Option gRu := match vs, cs with
  | p :: q :: v :: a :: b :: d :: se :: gr :: nu, ru :: y :: K => some ([(p :: a :: b :: d :: se :: gr :: nu, 12 :: ru :: 23 :: y :: K), ([p, a, (0, 0)], [22]), ([p, v], [17]), ([p, q], [16])], [], [], [], [(q :: a :: b :: d :: se :: gr :: (nu ++ [v]), 12 :: ru :: K)])
  | _, _ => none
theorem gL41_ok : gSd gL41 := by
  intro vs cs U h L sc E hA hZ hP hC hD hN
  unfold gL41 at h
  split at h
  · rename_i p q v a b d se gr nu ru y K
    cases h
    obtain ⟨p0, hP⟩ := gMa hP
    obtain ⟨p1, hP⟩ := gMa hP
    obtain ⟨p2, hP⟩ := gMa hP
    obtain ⟨p3, hP⟩ := gMa hP
    simp only [List.map_cons, List.map_nil, List.map_append, hA, hZ, sOp5] at p0 p1 p2 p3
    exact gMc (by simp only [List.map_cons, List.map_nil, List.map_append, hA, hZ]; exact q_Aok p0 p2 (q_v22 p1 p2) p3) (gMn)
  · cases h
def gL42 (vs : List sV) (cs : List Nat) : Option gRu := match vs, cs with
  | [p, q, v, a, b, d, se, gr, w, o], ru :: y :: K => some ([([p, a, b, d, se, gr, w, o], 12 :: ru :: 27 :: y :: K), ([p, a, (0, 0)], [22]), ([p, v], [17]), ([p, q], [16])], [], [], [], [([q, a, b, d, gA se (1), gr], 12 :: ru :: K), ([se, w], [14, 9]), ([se, o], [14, 10]), ([se, v], [14, 11])])
  | _, _ => none
theorem gL42_ok : gSd gL42 := by
  intro vs cs U h L sc E hA hZ hP hC hD hN
  unfold gL42 at h
  split at h
  · rename_i p q v a b d se gr w o ru y K
    cases h
    obtain ⟨p0, hP⟩ := gMa hP
    obtain ⟨p1, hP⟩ := gMa hP
    obtain ⟨p2, hP⟩ := gMa hP
    obtain ⟨p3, hP⟩ := gMa hP
    simp only [List.map_cons, List.map_nil, List.map_append, hA, hZ, sOp5] at p0 p1 p2 p3
    have hh := q_Sok p0 p2 (q_v22 p1 p2) p3
    exact gMc (by simp only [List.map_cons, List.map_nil, List.map_append, hA, hZ]; exact hh.1) (gMc (by simp only [List.map_cons, List.map_nil, List.map_append, hA, hZ]; exact hh.2.1) (gMc (by simp only [List.map_cons, List.map_nil, List.map_append, hA, hZ]; exact hh.2.2.1) (gMc (by simp only [List.map_cons, List.map_nil, List.map_append, hA, hZ]; exact hh.2.2.2) (gMn))))
  · cases h
def gL43 (vs : List sV) (cs : List Nat) : Option gRu := match vs, cs with
  | [p, a, b, d, se, gr, x1, x2, x3, x4], ru :: y :: K => some ([([p, a, b, d, se, gr, x1, x2, x3, x4], 12 :: ru :: 26 :: y :: K)], [], [], [], [([p, gA a (1), b, d, se, gr], 12 :: ru :: K), ([a, x1], [14, 5]), ([a, x2], [14, 6]), ([a, x3], [14, 7]), ([a, x4], [14, 8])])
  | _, _ => none
theorem gL43_ok : gSd gL43 := by
  intro vs cs U h L sc E hA hZ hP hC hD hN
  unfold gL43 at h
  split at h
  · rename_i p a b d se gr x1 x2 x3 x4 ru y K
    cases h
    obtain ⟨p0, hP⟩ := gMa hP
    simp only [List.map_cons, List.map_nil, List.map_append, hA, hZ, sOp5] at p0
    have hh := q_Tok p0
    exact gMc (by simp only [List.map_cons, List.map_nil, List.map_append, hA, hZ]; exact hh.1) (gMc (by simp only [List.map_cons, List.map_nil, List.map_append, hA, hZ]; exact hh.2.1) (gMc (by simp only [List.map_cons, List.map_nil, List.map_append, hA, hZ]; exact hh.2.2.1) (gMc (by simp only [List.map_cons, List.map_nil, List.map_append, hA, hZ]; exact hh.2.2.2.1) (gMc (by simp only [List.map_cons, List.map_nil, List.map_append, hA, hZ]; exact hh.2.2.2.2) (gMn)))))
  · cases h
def gL44 (vs : List sV) (cs : List Nat) : Option gRu := match vs, cs with
  | [x, y], [] => some ([], [], [], [], [([(0, 0), x, y], [15, 0])])
  | _, _ => none
theorem gL44_ok : gSd gL44 := by
  intro vs cs U h L sc E hA hZ hP hC hD hN
  unfold gL44 at h
  split at h
  · rename_i x y
    cases h
    skip
    exact gMc (by simp only [List.map_cons, List.map_nil, List.map_append, hA, hZ]; exact q_Nl0) (gMn)
  · cases h
def gL46 (vs : List sV) (cs : List Nat) : Option gRu := match vs, cs with
  | [x, y], [] => some ([], [], [], [], [([(0, 0), x, y], [15, 1])])
  | _, _ => none
theorem gL46_ok : gSd gL46 := by
  intro vs cs U h L sc E hA hZ hP hC hD hN
  unfold gL46 at h
  split at h
  · rename_i x y
    cases h
    skip
    exact gMc (by simp only [List.map_cons, List.map_nil, List.map_append, hA, hZ]; exact q_Ng0) (gMn)
  · cases h
def gL45 (vs : List sV) (cs : List Nat) : Option gRu := match vs, cs with
  | [j, x, y, u, w], [0] => some ([([j, x, y], [15, 0]), ([j, u], [14, 0])], [], [], [(u, x)], [([gA j (1), x, y], [15, 0])])
  | [j, x, y, u, w], [1] => some ([([j, x, y], [15, 0]), ([j, w], [14, 1])], [], [], [(w, y)], [([gA j (1), x, y], [15, 0])])
  | _, _ => none
theorem gL45_ok : gSd gL45 := by
  intro vs cs U h L sc E hA hZ hP hC hD hN
  unfold gL45 at h
  split at h
  · rename_i j x y u w
    cases h
    obtain ⟨p0, hP⟩ := gMa hP
    obtain ⟨p1, hP⟩ := gMa hP
    obtain ⟨n0, hN⟩ := gMa hN
    simp only [List.map_cons, List.map_nil, List.map_append, hA, hZ, sOp5] at p0 p1 n0
    exact gMc (by simp only [List.map_cons, List.map_nil, List.map_append, hA, hZ]; exact q_Nl1a p0 p1 n0) (gMn)
  · rename_i j x y u w
    cases h
    obtain ⟨p0, hP⟩ := gMa hP
    obtain ⟨p1, hP⟩ := gMa hP
    obtain ⟨n0, hN⟩ := gMa hN
    simp only [List.map_cons, List.map_nil, List.map_append, hA, hZ, sOp5] at p0 p1 n0
    exact gMc (by simp only [List.map_cons, List.map_nil, List.map_append, hA, hZ]; exact q_Nl1b p0 p1 n0) (gMn)
  · cases h
def gL47 (vs : List sV) (cs : List Nat) : Option gRu := match vs, cs with
  | [j, x, y, u, w], [0] => some ([([j, x, y], [15, 1]), ([j, u], [14, 2])], [], [], [(u, x), (u, y)], [([gA j (1), x, y], [15, 1])])
  | [j, x, y, u, w], [1] => some ([([j, x, y], [15, 1]), ([j, u], [14, 2]), ([j, w], [14, 3])], [], [], [(u, x), (w, x)], [([gA j (1), x, y], [15, 1])])
  | [j, x, y, u, w], [2] => some ([([j, x, y], [15, 1]), ([j, u], [14, 2]), ([j, w], [14, 3])], [], [], [(w, y), (u, y)], [([gA j (1), x, y], [15, 1])])
  | [j, x, y, u, w], [3] => some ([([j, x, y], [15, 1]), ([j, w], [14, 3])], [], [], [(w, y), (w, x)], [([gA j (1), x, y], [15, 1])])
  | _, _ => none
theorem gL47_ok : gSd gL47 := by
  intro vs cs U h L sc E hA hZ hP hC hD hN
  unfold gL47 at h
  split at h
  · rename_i j x y u w
    cases h
    obtain ⟨p0, hP⟩ := gMa hP
    obtain ⟨p1, hP⟩ := gMa hP
    obtain ⟨n0, hN⟩ := gMa hN
    obtain ⟨n1, hN⟩ := gMa hN
    simp only [List.map_cons, List.map_nil, List.map_append, hA, hZ, sOp5] at p0 p1 n0 n1
    exact gMc (by simp only [List.map_cons, List.map_nil, List.map_append, hA, hZ]; exact q_Ng1a p0 p1 n0 n1) (gMn)
  · rename_i j x y u w
    cases h
    obtain ⟨p0, hP⟩ := gMa hP
    obtain ⟨p1, hP⟩ := gMa hP
    obtain ⟨p2, hP⟩ := gMa hP
    obtain ⟨n0, hN⟩ := gMa hN
    obtain ⟨n1, hN⟩ := gMa hN
    simp only [List.map_cons, List.map_nil, List.map_append, hA, hZ, sOp5] at p0 p1 p2 n0 n1
    exact gMc (by simp only [List.map_cons, List.map_nil, List.map_append, hA, hZ]; exact q_Ng1 p0 p1 p2 (fun q => n0 q.1) (fun q => n1 q.2)) (gMn)
  · rename_i j x y u w
    cases h
    obtain ⟨p0, hP⟩ := gMa hP
    obtain ⟨p1, hP⟩ := gMa hP
    obtain ⟨p2, hP⟩ := gMa hP
    obtain ⟨n0, hN⟩ := gMa hN
    obtain ⟨n1, hN⟩ := gMa hN
    simp only [List.map_cons, List.map_nil, List.map_append, hA, hZ, sOp5] at p0 p1 p2 n0 n1
    exact gMc (by simp only [List.map_cons, List.map_nil, List.map_append, hA, hZ]; exact q_Ng1 p0 p1 p2 (fun q => n0 q.2) (fun q => n1 q.1)) (gMn)
  · rename_i j x y u w
    cases h
    obtain ⟨p0, hP⟩ := gMa hP
    obtain ⟨p1, hP⟩ := gMa hP
    obtain ⟨n0, hN⟩ := gMa hN
    obtain ⟨n1, hN⟩ := gMa hN
    simp only [List.map_cons, List.map_nil, List.map_append, hA, hZ, sOp5] at p0 p1 n0 n1
    exact gMc (by simp only [List.map_cons, List.map_nil, List.map_append, hA, hZ]; exact q_Ng1b p0 p1 n0 n1) (gMn)
  · cases h
def gL48 (vs : List sV) (cs : List Nat) : Option gRu := match vs, cs with
  | [j, m, x, y, u, w], [0] => some ([([j, u], [14, 0]), ([j, w], [14, 1])], [(m, gA j (1)), (j, (0, 0)), (u, x), (x, u), (w, y), (y, w)], [], [], [([m, x, y], [24, 0])])
  | _, _ => none
theorem gL48_ok : gSd gL48 := by
  intro vs cs U h L sc E hA hZ hP hC hD hN
  unfold gL48 at h
  split at h
  · rename_i j m x y u w
    cases h
    obtain ⟨p0, hP⟩ := gMa hP
    obtain ⟨p1, hP⟩ := gMa hP
    obtain ⟨c0, hC⟩ := gMa hC
    obtain ⟨c1, hC⟩ := gMa hC
    obtain ⟨c2, hC⟩ := gMa hC
    obtain ⟨c3, hC⟩ := gMa hC
    obtain ⟨c4, hC⟩ := gMa hC
    obtain ⟨c5, hC⟩ := gMa hC
    simp only [List.map_cons, List.map_nil, List.map_append, hA, hZ, sOp5] at p0 p1 c0 c1 c2 c3 c4 c5
    have hu : E u = E x := by omega
    have hw : E w = E y := by omega
    rw [hu] at p0
    rw [hw] at p1
    exact gMc (by simp only [List.map_cons, List.map_nil, List.map_append, hA, hZ]; exact Or.inr ⟨(E j).toNat, by omega, p0.2, p1.2⟩) (gMn)
  · cases h
def gL50 (vs : List sV) (cs : List Nat) : Option gRu := match vs, cs with
  | [j, m, x, y, u, w], [0] => some ([([j, u], [14, 2]), ([j, w], [14, 3])], [(m, gA j (1)), (j, (0, 0)), (u, x), (x, u), (w, y), (y, w)], [], [], [([m, x, y], [24, 1])])
  | [j, m, x, y, u, w], [1] => some ([([j, u], [14, 2]), ([j, w], [14, 3])], [(m, gA j (1)), (j, (0, 0)), (u, y), (y, u), (w, x), (x, w)], [], [], [([m, x, y], [24, 1])])
  | _, _ => none
theorem gL50_ok : gSd gL50 := by
  intro vs cs U h L sc E hA hZ hP hC hD hN
  unfold gL50 at h
  split at h
  · rename_i j m x y u w
    cases h
    obtain ⟨p0, hP⟩ := gMa hP
    obtain ⟨p1, hP⟩ := gMa hP
    obtain ⟨c0, hC⟩ := gMa hC
    obtain ⟨c1, hC⟩ := gMa hC
    obtain ⟨c2, hC⟩ := gMa hC
    obtain ⟨c3, hC⟩ := gMa hC
    obtain ⟨c4, hC⟩ := gMa hC
    obtain ⟨c5, hC⟩ := gMa hC
    simp only [List.map_cons, List.map_nil, List.map_append, hA, hZ, sOp5] at p0 p1 c0 c1 c2 c3 c4 c5
    have hu : E u = E x := by omega
    have hw : E w = E y := by omega
    rw [hu] at p0
    rw [hw] at p1
    exact gMc (by simp only [List.map_cons, List.map_nil, List.map_append, hA, hZ]; exact Or.inr ⟨(E j).toNat, by omega, Or.inl ⟨p0.2, p1.2⟩⟩) (gMn)
  · rename_i j m x y u w
    cases h
    obtain ⟨p0, hP⟩ := gMa hP
    obtain ⟨p1, hP⟩ := gMa hP
    obtain ⟨c0, hC⟩ := gMa hC
    obtain ⟨c1, hC⟩ := gMa hC
    obtain ⟨c2, hC⟩ := gMa hC
    obtain ⟨c3, hC⟩ := gMa hC
    obtain ⟨c4, hC⟩ := gMa hC
    obtain ⟨c5, hC⟩ := gMa hC
    simp only [List.map_cons, List.map_nil, List.map_append, hA, hZ, sOp5] at p0 p1 c0 c1 c2 c3 c4 c5
    have hu : E u = E y := by omega
    have hw : E w = E x := by omega
    rw [hu] at p0
    rw [hw] at p1
    exact gMc (by simp only [List.map_cons, List.map_nil, List.map_append, hA, hZ]; exact Or.inr ⟨(E j).toNat, by omega, Or.inr ⟨p0.2, p1.2⟩⟩) (gMn)
  · cases h
def gL49 (vs : List sV) (cs : List Nat) : Option gRu := match vs, cs with
  | [m, x, y], [0] => some ([], [(m, (0, 0)), (x, y), (y, x)], [], [], [([m, x, y], [24, 0])])
  | [m, x, y], [1] => some ([], [(m, (0, 0)), (x, y), (y, x)], [], [], [([m, x, y], [24, 1])])
  | _, _ => none
theorem gL49_ok : gSd gL49 := by
  intro vs cs U h L sc E hA hZ hP hC hD hN
  unfold gL49 at h
  split at h
  · rename_i m x y
    cases h
    obtain ⟨c0, hC⟩ := gMa hC
    obtain ⟨c1, hC⟩ := gMa hC
    obtain ⟨c2, hC⟩ := gMa hC
    simp only [List.map_cons, List.map_nil, List.map_append, hA, hZ, sOp5] at c0 c1 c2
    exact gMc (by simp only [List.map_cons, List.map_nil, List.map_append, hA, hZ]; exact Or.inl (by omega)) (gMn)
  · rename_i m x y
    cases h
    obtain ⟨c0, hC⟩ := gMa hC
    obtain ⟨c1, hC⟩ := gMa hC
    obtain ⟨c2, hC⟩ := gMa hC
    simp only [List.map_cons, List.map_nil, List.map_append, hA, hZ, sOp5] at c0 c1 c2
    exact gMc (by simp only [List.map_cons, List.map_nil, List.map_append, hA, hZ]; exact Or.inl (by omega)) (gMn)
  · cases h
def gL51 (vs : List sV) (cs : List Nat) : Option gRu := match vs, cs with
  | [p, q, v, x, a, b, d, se, gr], ru :: y :: K => some ([([p, a, b, d, se, gr, x], 12 :: ru :: 24 :: y :: K), ([p, a, (0, 0)], [22]), ([p, v], [17]), ([p, q], [16]), ([b, x, v], [15, 0])], [], [], [(x, v)], [([q, a, gA b (1), d, se, gr], 12 :: ru :: K), ([b, x], [14, 0]), ([b, v], [14, 1])])
  | _, _ => none
theorem gL51_ok : gSd gL51 := by
  intro vs cs U h L sc E hA hZ hP hC hD hN
  unfold gL51 at h
  split at h
  · rename_i p q v x a b d se gr ru y K
    cases h
    obtain ⟨p0, hP⟩ := gMa hP
    obtain ⟨p1, hP⟩ := gMa hP
    obtain ⟨p2, hP⟩ := gMa hP
    obtain ⟨p3, hP⟩ := gMa hP
    obtain ⟨p4, hP⟩ := gMa hP
    obtain ⟨n0, hN⟩ := gMa hN
    simp only [List.map_cons, List.map_nil, List.map_append, hA, hZ, sOp5] at p0 p1 p2 p3 p4 n0
    have hh := q_L2 p0 p2 (q_v22 p1 p2) p3 n0 p4
    exact gMc (by simp only [List.map_cons, List.map_nil, List.map_append, hA, hZ]; exact hh.1) (gMc (by simp only [List.map_cons, List.map_nil, List.map_append, hA, hZ]; exact hh.2.1) (gMc (by simp only [List.map_cons, List.map_nil, List.map_append, hA, hZ]; exact hh.2.2) (gMn)))
  · cases h
def gL53 (vs : List sV) (cs : List Nat) : Option gRu := match vs, cs with
  | [p, q, v, x, a, b, d, se, gr], ru :: y :: K => some ([([p, a, b, d, se, gr, x], 12 :: ru :: 25 :: y :: K), ([p, a, (0, 0)], [22]), ([p, v], [17]), ([p, q], [16]), ([gr, x, v], [15, 1])], [], [], [(x, v)], [([q, a, b, d, se, gA gr (1)], 12 :: ru :: K), ([gr, x], [14, 2]), ([gr, v], [14, 3])])
  | _, _ => none
theorem gL53_ok : gSd gL53 := by
  intro vs cs U h L sc E hA hZ hP hC hD hN
  unfold gL53 at h
  split at h
  · rename_i p q v x a b d se gr ru y K
    cases h
    obtain ⟨p0, hP⟩ := gMa hP
    obtain ⟨p1, hP⟩ := gMa hP
    obtain ⟨p2, hP⟩ := gMa hP
    obtain ⟨p3, hP⟩ := gMa hP
    obtain ⟨p4, hP⟩ := gMa hP
    obtain ⟨n0, hN⟩ := gMa hN
    simp only [List.map_cons, List.map_nil, List.map_append, hA, hZ, sOp5] at p0 p1 p2 p3 p4 n0
    have hh := q_G2 p0 p2 (q_v22 p1 p2) p3 n0 p4
    exact gMc (by simp only [List.map_cons, List.map_nil, List.map_append, hA, hZ]; exact hh.1) (gMc (by simp only [List.map_cons, List.map_nil, List.map_append, hA, hZ]; exact hh.2.1) (gMc (by simp only [List.map_cons, List.map_nil, List.map_append, hA, hZ]; exact hh.2.2) (gMn)))
  · cases h
def gL52 (vs : List sV) (cs : List Nat) : Option gRu := match vs, cs with
  | [p, v, x, a, b, d, se, gr], ru :: y :: K => some ([([p, a, b, d, se, gr, x], 12 :: ru :: 24 :: y :: K), ([p, a, (0, 0)], [22]), ([p, v], [17]), ([b, x, v], [24, 0])], [], [], [], [([(0, 4), p], [13])])
  | _, _ => none
theorem gL52_ok : gSd gL52 := by
  intro vs cs U h L sc E hA hZ hP hC hD hN
  unfold gL52 at h
  split at h
  · rename_i p v x a b d se gr ru y K
    cases h
    obtain ⟨p0, hP⟩ := gMa hP
    obtain ⟨p1, hP⟩ := gMa hP
    obtain ⟨p2, hP⟩ := gMa hP
    obtain ⟨p3, hP⟩ := gMa hP
    simp only [List.map_cons, List.map_nil, List.map_append, hA, hZ, sOp5] at p0 p1 p2 p3
    have hlt := q_v22 p1 p2
    refine gMc ?_ gMn
    simp only [List.map_cons, List.map_nil, hZ]
    rcases p3 with e | ⟨i, hi, r0, r1⟩
    · rw [e] at p0
      exact q_L2s p0 p2 hlt
    · exact q_L2a (i := (i : Int)) p0 p2 hlt hi ⟨Int.natCast_nonneg _, by rw [Int.toNat_natCast]; exact r0⟩ ⟨Int.natCast_nonneg _, by rw [Int.toNat_natCast]; exact r1⟩
  · cases h
def gL54 (vs : List sV) (cs : List Nat) : Option gRu := match vs, cs with
  | [p, v, x, a, b, d, se, gr], ru :: y :: K => some ([([p, a, b, d, se, gr, x], 12 :: ru :: 25 :: y :: K), ([p, a, (0, 0)], [22]), ([p, v], [17]), ([gr, x, v], [24, 1])], [], [], [], [([(0, 4), p], [13])])
  | _, _ => none
theorem gL54_ok : gSd gL54 := by
  intro vs cs U h L sc E hA hZ hP hC hD hN
  unfold gL54 at h
  split at h
  · rename_i p v x a b d se gr ru y K
    cases h
    obtain ⟨p0, hP⟩ := gMa hP
    obtain ⟨p1, hP⟩ := gMa hP
    obtain ⟨p2, hP⟩ := gMa hP
    obtain ⟨p3, hP⟩ := gMa hP
    simp only [List.map_cons, List.map_nil, List.map_append, hA, hZ, sOp5] at p0 p1 p2 p3
    have hlt := q_v22 p1 p2
    refine gMc ?_ gMn
    simp only [List.map_cons, List.map_nil, hZ]
    rcases p3 with e | ⟨i, hi, ⟨r0, r1⟩ | ⟨r0, r1⟩⟩
    · rw [e] at p0
      exact q_G2s p0 p2 hlt
    · exact q_G2a (i := (i : Int)) p0 p2 hlt hi ⟨Int.natCast_nonneg _, by rw [Int.toNat_natCast]; exact r0⟩ ⟨Int.natCast_nonneg _, by rw [Int.toNat_natCast]; exact r1⟩ (Or.inl ⟨rfl, rfl⟩)
    · exact q_G2a (i := (i : Int)) p0 p2 hlt hi ⟨Int.natCast_nonneg _, by rw [Int.toNat_natCast]; exact r0⟩ ⟨Int.natCast_nonneg _, by rw [Int.toNat_natCast]; exact r1⟩ (Or.inr ⟨rfl, rfl⟩)
  · cases h
def gL55 (vs : List sV) (cs : List Nat) : Option gRu := match vs, cs with
  | [p, v, x, a, b, d, se, gr], ru :: y :: K => some ([([p, a, b, d, se, gr, x], 12 :: ru :: 24 :: y :: K), ([p, a, (0, 0)], [22]), ([p, v], [17]), ([b, x, v], [15, 0])], [], [], [(x, v)], [([b, x], [14, 0]), ([b, v], [14, 1])])
  | _, _ => none
theorem gL55_ok : gSd gL55 := by
  intro vs cs U h L sc E hA hZ hP hC hD hN
  unfold gL55 at h
  split at h
  · rename_i p v x a b d se gr ru y K
    cases h
    obtain ⟨p0, hP⟩ := gMa hP
    obtain ⟨p1, hP⟩ := gMa hP
    obtain ⟨p2, hP⟩ := gMa hP
    obtain ⟨p3, hP⟩ := gMa hP
    obtain ⟨n0, hN⟩ := gMa hN
    simp only [List.map_cons, List.map_nil, List.map_append, hA, hZ, sOp5] at p0 p1 p2 p3 n0
    have hlt := q_v22 p1 p2
    obtain ⟨h1, h2, h3, h4, h5, h6, h7⟩ := p0
    obtain ⟨g1, g2, g3⟩ := tL2_new h7 p2.2 (by omega) n0 p3.2
    exact gMc (by simp only [List.map_cons, List.map_nil, List.map_append, hA, hZ]; exact ⟨h3, g2⟩) (gMc (by simp only [List.map_cons, List.map_nil, List.map_append, hA, hZ]; exact ⟨h3, g3⟩) (gMn))
  · cases h
def gL56 (vs : List sV) (cs : List Nat) : Option gRu := match vs, cs with
  | [p, v, x, a, b, d, se, gr], ru :: y :: K => some ([([p, a, b, d, se, gr, x], 12 :: ru :: 25 :: y :: K), ([p, a, (0, 0)], [22]), ([p, v], [17]), ([gr, x, v], [15, 1])], [], [], [(x, v)], [([gr, x], [14, 2]), ([gr, v], [14, 3])])
  | _, _ => none
theorem gL56_ok : gSd gL56 := by
  intro vs cs U h L sc E hA hZ hP hC hD hN
  unfold gL56 at h
  split at h
  · rename_i p v x a b d se gr ru y K
    cases h
    obtain ⟨p0, hP⟩ := gMa hP
    obtain ⟨p1, hP⟩ := gMa hP
    obtain ⟨p2, hP⟩ := gMa hP
    obtain ⟨p3, hP⟩ := gMa hP
    obtain ⟨n0, hN⟩ := gMa hN
    simp only [List.map_cons, List.map_nil, List.map_append, hA, hZ, sOp5] at p0 p1 p2 p3 n0
    have hlt := q_v22 p1 p2
    obtain ⟨h1, h2, h3, h4, h5, h6, h7⟩ := p0
    obtain ⟨g1, g2, g3⟩ := tG2_new h7 p2.2 (by omega) n0 p3.2
    exact gMc (by simp only [List.map_cons, List.map_nil, List.map_append, hA, hZ]; exact ⟨h6, g2⟩) (gMc (by simp only [List.map_cons, List.map_nil, List.map_append, hA, hZ]; exact ⟨h6, g3⟩) (gMn))
  · cases h
def gL58 (vs : List sV) (cs : List Nat) : Option gRu := match vs, cs with
  | [j, m, x, y], [0] => some ([([j, x, y], [15, 0])], [(j, m), (m, (0, 0))], [], [], [([m, x, y], [15, 0])])
  | [j, m, x, y], [1] => some ([([j, x, y], [15, 1])], [(j, m), (m, (0, 0))], [], [], [([m, x, y], [15, 1])])
  | _, _ => none
theorem gL58_ok : gSd gL58 := by
  intro vs cs U h L sc E hA hZ hP hC hD hN
  unfold gL58 at h
  split at h
  · rename_i j m x y
    cases h
    obtain ⟨p0, hP⟩ := gMa hP
    obtain ⟨c0, hC⟩ := gMa hC
    obtain ⟨c1, hC⟩ := gMa hC
    simp only [List.map_cons, List.map_nil, List.map_append, hA, hZ, sOp5] at p0 c0 c1
    exact gMc (by simp only [List.map_cons, List.map_nil, List.map_append, hA, hZ]; exact ⟨c1, fun i hi => p0.2 i (by omega)⟩) (gMn)
  · rename_i j m x y
    cases h
    obtain ⟨p0, hP⟩ := gMa hP
    obtain ⟨c0, hC⟩ := gMa hC
    obtain ⟨c1, hC⟩ := gMa hC
    simp only [List.map_cons, List.map_nil, List.map_append, hA, hZ, sOp5] at p0 c0 c1
    exact gMc (by simp only [List.map_cons, List.map_nil, List.map_append, hA, hZ]; exact ⟨c1, fun i hi => p0.2 i (by omega)⟩) (gMn)
  · cases h
def gL60 (vs : List sV) (cs : List Nat) : Option gRu := match vs, cs with
  | [s], [c, c1] => gIf (!(Nat.beq c c1)) ([([s], [8, c])], [], [], [], [([s], [9, c1])])
  | _, _ => none
theorem gL60_ok : gSd gL60 := by
  intro vs cs U h L sc E hA hZ hP hC hD hN
  unfold gL60 at h
  split at h
  · rename_i s c c1
    obtain ⟨hb, rfl⟩ := gIf_some h
    clear h
    obtain ⟨p0, hP⟩ := gMa hP
    simp only [List.map_cons, List.map_nil, List.map_append, hA, hZ, sOp5] at p0
    exact gMc (by simp only [List.map_cons, List.map_nil, List.map_append, hA, hZ]; exact q_89 p0 (fun q => by subst q; simp [Nat.beq_refl] at hb)) (gMn)
  · cases h
def gL61 (vs : List sV) (cs : List Nat) : Option gRu := match vs, cs with
  | a :: b :: x :: y :: us, 1 :: w :: 0 :: qs => some ([([a, b], [2, 1]), ([x, y], [1, w])], [(x, a), (b, gA x (1)), ((0, 96), y)], [], [], [(us, qs)])
  | a :: b :: x :: y :: us, 1 :: w :: 1 :: qs => some ([([a, b], [2, 1]), ([x, y], [1, w])], [(x, a), (b, gA x (1)), (y, (0, 123))], [], [], [(us, qs)])
  | a :: b :: x :: y :: us, 2 :: w :: 0 :: qs => some ([([a, b], [2, 2]), ([x, y], [1, w])], [(x, a), (b, gA x (1)), ((0, 47), y)], [], [], [(us, qs)])
  | a :: b :: x :: y :: us, 2 :: w :: 1 :: qs => some ([([a, b], [2, 2]), ([x, y], [1, w])], [(x, a), (b, gA x (1)), (y, (0, 58))], [], [], [(us, qs)])
  | _, _ => none
theorem gL61_ok : gSd gL61 := by
  intro vs cs U h L sc E hA hZ hP hC hD hN
  unfold gL61 at h
  split at h
  · rename_i a b x y us w qs
    cases h
    obtain ⟨p0, hP⟩ := gMa hP
    obtain ⟨p1, hP⟩ := gMa hP
    obtain ⟨c0, hC⟩ := gMa hC
    obtain ⟨c1, hC⟩ := gMa hC
    obtain ⟨c2, hC⟩ := gMa hC
    simp only [List.map_cons, List.map_nil, List.map_append, hA, hZ, sOp5] at p0 p1 c0 c1 c2
    exact (q_absR p0 p1 c0 (by omega) (by simp only [tC, Bool.and_eq_false_iff, decide_eq_false_iff_not]; omega)).elim
  · rename_i a b x y us w qs
    cases h
    obtain ⟨p0, hP⟩ := gMa hP
    obtain ⟨p1, hP⟩ := gMa hP
    obtain ⟨c0, hC⟩ := gMa hC
    obtain ⟨c1, hC⟩ := gMa hC
    obtain ⟨c2, hC⟩ := gMa hC
    simp only [List.map_cons, List.map_nil, List.map_append, hA, hZ, sOp5] at p0 p1 c0 c1 c2
    exact (q_absR p0 p1 c0 (by omega) (by simp only [tC, Bool.and_eq_false_iff, decide_eq_false_iff_not]; omega)).elim
  · rename_i a b x y us w qs
    cases h
    obtain ⟨p0, hP⟩ := gMa hP
    obtain ⟨p1, hP⟩ := gMa hP
    obtain ⟨c0, hC⟩ := gMa hC
    obtain ⟨c1, hC⟩ := gMa hC
    obtain ⟨c2, hC⟩ := gMa hC
    simp only [List.map_cons, List.map_nil, List.map_append, hA, hZ, sOp5] at p0 p1 c0 c1 c2
    exact (q_absR p0 p1 c0 (by omega) (by simp only [tC, Bool.and_eq_false_iff, decide_eq_false_iff_not]; omega)).elim
  · rename_i a b x y us w qs
    cases h
    obtain ⟨p0, hP⟩ := gMa hP
    obtain ⟨p1, hP⟩ := gMa hP
    obtain ⟨c0, hC⟩ := gMa hC
    obtain ⟨c1, hC⟩ := gMa hC
    obtain ⟨c2, hC⟩ := gMa hC
    simp only [List.map_cons, List.map_nil, List.map_append, hA, hZ, sOp5] at p0 p1 c0 c1 c2
    exact (q_absR p0 p1 c0 (by omega) (by simp only [tC, Bool.and_eq_false_iff, decide_eq_false_iff_not]; omega)).elim
  · cases h
def gL62 (vs : List sV) (cs : List Nat) : Option gRu := match vs, cs with
  | s :: us, 6 :: c :: qs => some ([([s], [6, c]), ([s], [7, c])], [], [], [], [(us, qs)])
  | s :: us, 8 :: c :: qs => some ([([s], [8, c]), ([s], [9, c])], [], [], [], [(us, qs)])
  | _, _ => none
theorem gL62_ok : gSd gL62 := by
  intro vs cs U h L sc E hA hZ hP hC hD hN
  unfold gL62 at h
  split at h
  · rename_i s us c qs
    cases h
    obtain ⟨p0, hP⟩ := gMa hP
    obtain ⟨p1, hP⟩ := gMa hP
    simp only [List.map_cons, List.map_nil, List.map_append, hA, hZ, sOp5] at p0 p1
    exact (q_abs6 p0 p1).elim
  · rename_i s us c qs
    cases h
    obtain ⟨p0, hP⟩ := gMa hP
    obtain ⟨p1, hP⟩ := gMa hP
    simp only [List.map_cons, List.map_nil, List.map_append, hA, hZ, sOp5] at p0 p1
    exact (q_abs8 p0 p1).elim
  · cases h
def gL63 (vs : List sV) (cs : List Nat) : Option gRu := match vs, cs with
  | [a, b], [] => some ([([a, b], [13])], [(a, (0, 0)), ((0, 0), a)], [], [], [([(0, 0), (0, -1)], [13])])
  | _, _ => none
theorem gL63_ok : gSd gL63 := by
  intro vs cs U h L sc E hA hZ hP hC hD hN
  unfold gL63 at h
  split at h
  · rename_i a b
    cases h
    obtain ⟨p0, hP⟩ := gMa hP
    obtain ⟨c0, hC⟩ := gMa hC
    obtain ⟨c1, hC⟩ := gMa hC
    simp only [List.map_cons, List.map_nil, List.map_append, hA, hZ, sOp5] at p0 c0 c1
    exact gMc (by simp only [List.map_cons, List.map_nil, List.map_append, hA, hZ]; exact q_13z p0 (by omega)) (gMn)
  · cases h
def gLz (vs : List sV) (cs : List Nat) : Option gRu := none
theorem gLz_ok : gSd gLz := fun vs cs u h => by cases h
theorem gBit0 {v : Int} {j : Nat} (h : v = 0) : gBit v (j : Int) = 0 := by
  subst h
  show (Int32.ofInt ((Int32.ofInt 0 >>> (Int32.ofInt (j : Int) &&& 31)).toInt) &&& Int32.ofInt 1).toInt = 0
  rw [Int32.ofInt_toInt]
  have e : Int32.ofInt 0 >>> (Int32.ofInt (j : Int) &&& 31) = 0 := by
    apply Int32.toBitVec_inj.mp
    rw [Int32.toBitVec_shiftRight]
    simp
  rw [e]
  decide
theorem q_bit1 {L : Nat} {sc : Nat → Int32} {id : Nat} {v v0 m x z : Int} (h : gQ1 L sc [26, id] [v0, m]) (r0 : gQ1 L sc [14, id] [m, x]) (h0 : 0 ≤ m) (h1 : m ≤ 7) (h2 : 0 ≤ x) (h3 : x ≤ 1) (hz : z = gBo 10 x m) (hv : v = gBo 8 v0 z) : gQ1 L sc [26, id] [v, m + 1] := by
  obtain ⟨a1, a2, a3, a4⟩ := h
  obtain ⟨b1, b2⟩ := r0
  obtain ⟨k, rfl⟩ : ∃ k : Nat, m = (k : Int) := ⟨m.toNat, by omega⟩
  have hx : x = 0 ∨ x = 1 := by omega
  have hk : k < 31 := by omega
  have hg : ∀ j : Nat, j < 8 → gBit v (j : Int) = if j = k ∧ x = 1 then 1 else gBit v0 (j : Int) := fun j hj => by
    rw [hv, hz]
    exact gBit_or v0 x hx hk (by omega)
  refine ⟨by omega, by omega, fun j hj => ?_, fun j hj h8 => ?_⟩
  · rw [hg j (by omega)]
    by_cases e : j = k
    · subst e
      have e0 := a4 j (by omega) (by omega)
      rw [Int.toNat_natCast] at b2
      rcases hx with rfl | rfl
      · rw [if_neg (by rintro ⟨-, q⟩; cases q), e0]
        exact b2
      · rw [if_pos ⟨rfl, rfl⟩]
        exact b2
    · rw [if_neg (by rintro ⟨q, -⟩; exact e q)]
      exact a3 j (by omega)
  · rw [hg j h8, if_neg (by rintro ⟨q, -⟩; omega)]
    exact a4 j (by omega) h8
def gL64 (vs : List sV) (cs : List Nat) : Option gRu := match vs, cs with
  | [v0, m, x, z, v], [id] => some ([([v0, m], [26, id]), ([m, x], [14, id])], [(m, (0, 0)), ((0, 7), m), (x, (0, 0)), ((0, 1), x)], [(z, x, m, 10), (v, v0, z, 8)], [], [([v, gA m 1], [26, id])])
  | _, _ => none
theorem gL64_ok : gSd gL64 := by
  intro vs cs U h L sc E hA hZ hP hC hD hN
  unfold gL64 at h
  split at h
  · rename_i v0 m x z v id
    cases h
    obtain ⟨p0, hP⟩ := gMa hP
    obtain ⟨p1, hP⟩ := gMa hP
    obtain ⟨c0, hC⟩ := gMa hC
    obtain ⟨c1, hC⟩ := gMa hC
    obtain ⟨c2, hC⟩ := gMa hC
    obtain ⟨c3, hC⟩ := gMa hC
    obtain ⟨d0, hD⟩ := gMa hD
    obtain ⟨d1, hD⟩ := gMa hD
    simp only [List.map_cons, List.map_nil, List.map_append, hA, hZ, sOp5] at p0 p1 c0 c1 c2 c3 d0 d1
    exact gMc (by simp only [List.map_cons, List.map_nil, List.map_append, hA, hZ]; exact q_bit1 p0 p1 c0 c1 c2 c3 d0 d1) (gMn)
  · cases h
def gL65 (vs : List sV) (cs : List Nat) : Option gRu := match vs, cs with
  | [], [id] => some ([], [], [], [], [([(0, 0), (0, 0)], [26, id])])
  | _, _ => none
theorem gL65_ok : gSd gL65 := by
  intro vs cs U h L sc E hA hZ hP hC hD hN
  unfold gL65 at h
  split at h
  · cases h
    exact gMc (by simp only [List.map_cons, List.map_nil, List.map_append, hA, hZ]; exact ⟨Int.le_refl _, by decide, fun j hj => absurd hj (Nat.not_lt_zero _), fun j _ _ => gBit0 rfl⟩) (gMn)
  · cases h
def gTab : List (List sV → List Nat → Option gRu) := [gL0, gL1, gL2, gL3, gL4, gL5, gL6, gL7, gL8, gL9, gL10, gL11, gL12, gLz, gL14, gL15, gL16, gL17, gL18, gLz, gL20, gL21, gL22, gL23, gL24, gL25, gL26, gL27, gL28, gL29, gL30, gL31, gL32, gL33, gL34, gL35, gL36, gL37, gL38, gL39, gL40, gL41, gL42, gL43, gL44, gL45, gL46, gL47, gL48, gL49, gL50, gL51, gL52, gL53, gL54, gL55, gL56, gLz, gL58, gLz, gL60, gL61, gL62, gL63, gL64, gL65]
theorem gTab_ok : ∀ f ∈ gTab, gSd f := gMc gL0_ok (gMc gL1_ok (gMc gL2_ok (gMc gL3_ok (gMc gL4_ok (gMc gL5_ok (gMc gL6_ok (gMc gL7_ok (gMc gL8_ok (gMc gL9_ok (gMc gL10_ok (gMc gL11_ok (gMc gL12_ok (gMc gLz_ok (gMc gL14_ok (gMc gL15_ok (gMc gL16_ok (gMc gL17_ok (gMc gL18_ok (gMc gLz_ok (gMc gL20_ok (gMc gL21_ok (gMc gL22_ok (gMc gL23_ok (gMc gL24_ok (gMc gL25_ok (gMc gL26_ok (gMc gL27_ok (gMc gL28_ok (gMc gL29_ok (gMc gL30_ok (gMc gL31_ok (gMc gL32_ok (gMc gL33_ok (gMc gL34_ok (gMc gL35_ok (gMc gL36_ok (gMc gL37_ok (gMc gL38_ok (gMc gL39_ok (gMc gL40_ok (gMc gL41_ok (gMc gL42_ok (gMc gL43_ok (gMc gL44_ok (gMc gL45_ok (gMc gL46_ok (gMc gL47_ok (gMc gL48_ok (gMc gL49_ok (gMc gL50_ok (gMc gL51_ok (gMc gL52_ok (gMc gL53_ok (gMc gL54_ok (gMc gL55_ok (gMc gL56_ok (gMc gLz_ok (gMc gL58_ok (gMc gLz_ok (gMc gL60_ok (gMc gL61_ok (gMc gL62_ok (gMc gL63_ok (gMc gL64_ok (gMc gL65_ok (gMn))))))))))))))))))))))))))))))))))))))))))))))))))))))))))))))))))
end
