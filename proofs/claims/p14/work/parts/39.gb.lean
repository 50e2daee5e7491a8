noncomputable section
/-! ===== steps of a derivation: runs and tokens ===== -/
def gMkd (env : sE) (y : sV) : Option Bool := match sRg env y with
  | some (lo, hi) => if lo = hi then some (tMk lo) else if hi < 40 ∨ (41 < lo ∧ hi < 42) ∨ (43 < lo ∧ hi < 45) ∨ (45 < lo ∧ hi < 47) ∨ (47 < lo ∧ hi < 59) ∨ 61 < lo then some false else none
  | none => none
def gIs (o : Option Bool) (b : Bool) : Bool := match o with
  | some c => Bool.rec (motive := fun _ => Bool) (Bool.rec (motive := fun _ => Bool) true false c) c b
  | none => false
theorem gIs_eq {o : Option Bool} {b : Bool} (h : gIs o b = true) : o = some b := by
  unfold gIs at h
  split at h
  · rename_i c
    cases b <;> cases c <;> first | rfl | (cases h)
  · cases h
section RU
variable {A : Nat → Nat → Int32} {L : Nat} {sc : Nat → Int32} {ρ : List Int} {κ : sCx} {G : List sFc}
theorem gMkd_ok (hs : sCok ρ κ) {y : sV} {n : Int} {b : Bool} (hn : sEv ρ y = some n) (h : gMkd κ.2.1 y = some b) : tMk n = b := by
  unfold gMkd at h
  split at h
  · rename_i lo hi hr
    obtain ⟨p1, p2, -⟩ := sRg_ev hs.1 hn hr
    split at h
    · cases h
      have : n = lo := by omega
      rw [this]
    · split at h
      · cases h
        simp only [tMk, Bool.or_eq_false_iff, decide_eq_false_iff_not]
        omega
      · cases h
  · cases h
def gR0 (κ : sCx) (G : List sFc) (vs : List sV) (cs : List Nat) : Option sFc := match vs, cs with
  | [a], [c] => if (sDef κ.1 a && gGe κ a (0, 0)) = true then some (60, [a, a], [2, c]) else none
  | _, _ => none
theorem gR0_ok (hs : sCok ρ κ) {vs : List sV} {cs : List Nat} {f : sFc} (h : gR0 κ G vs cs = some f) : sWf A L sc ρ f := by
  unfold gR0 at h
  split at h
  · split at h
    · rename_i hc
      cases h
      simp only [Bool.and_eq_true] at hc
      obtain ⟨n, hn⟩ := sDef_ev hs.1 hc.1
      have := gGe_ok hs hn (n := 0) rfl hc.2
      exact ⟨[n, n], ⟨hn, hn, trivial⟩, q_run0 this⟩
    · cases h
  · cases h
def gR1 (κ : sCx) (G : List sFc) (vs : List sV) (cs : List Nat) : Option sFc := match vs, cs with
  | [a, b, y], [c, w] => if (gHs κ G [a, b] [2, c] && (gHs κ G [b, y] [1, w] && gIs (gCl κ.2.1 c y) true)) = true then some (60, [a, (b.1, b.2 + 1)], [2, c]) else none
  | _, _ => none
theorem gR1_ok (hs : sCok ρ κ) (hG : ∀ f ∈ G, sWf A L sc ρ f) {vs : List sV} {cs : List Nat} {f : sFc} (h : gR1 κ G vs cs = some f) : sWf A L sc ρ f := by
  unfold gR1 at h
  split at h
  · split at h
    · rename_i hc
      cases h
      simp only [Bool.and_eq_true] at hc
      obtain ⟨x, z, e1, e2, q1⟩ := gHs2 hs hG hc.1
      obtain ⟨z', u, e3, e4, q2⟩ := gHs2 hs hG hc.2.1
      cases e2.symm.trans e3
      exact ⟨[x, z + 1], ⟨e1, sEv_add e2 1, trivial⟩, q_run1 q1 q2 (gCl_ok hs e4 (gIs_eq hc.2.2))⟩
    · cases h
  · cases h
/-- the text ends at b, or a byte stands there that isn't of the class -/
def gSp (κ : sCx) (G : List sFc) (c : Nat) (n b : sV) (ys : List sV) (w : Nat) : Bool := gHs κ G [n] [0] && (gGe κ n b && (match ys with
  | [] => gGe κ b n
  | y :: _ => gHs κ G [b, y] [1, w] && gIs (gCl κ.2.1 c y) false))
theorem gSp_ok (hs : sCok ρ κ) (hG : ∀ f ∈ G, sWf A L sc ρ f) {c w : Nat} {n b : sV} {ys : List sV} {zb : Int} (hb : sEv ρ b = some zb) (h : gSp κ G c n b ys w = true) : ∃ zn, gQ1 L sc [0] [zn] ∧ zb ≤ zn ∧ (zn ≤ zb ∨ tC c (gT L sc zb.toNat) = false) := by
  unfold gSp at h
  simp only [Bool.and_eq_true] at h
  obtain ⟨h1, h2, h3⟩ := h
  obtain ⟨zn, e1, q1⟩ := gHs1 hs hG h1
  refine ⟨zn, q1, gGe_ok hs e1 hb h2, ?_⟩
  split at h3
  · exact Or.inl (gGe_ok hs hb e1 h3)
  · rename_i y t
    simp only [Bool.and_eq_true] at h3
    obtain ⟨z', u, e3, e4, q2⟩ := gHs2 hs hG h3.1
    cases hb.symm.trans e3
    right
    rw [q_byteC q2]
    exact gCl_ok hs e4 (gIs_eq h3.2)
def gR2 (κ : sCx) (G : List sFc) (vs : List sV) (cs : List Nat) : Option sFc := match vs, cs with
  | n :: a :: b :: ys, [w] => if (gHs κ G [a, b] [2, 0] && gSp κ G 0 n b ys w) = true then some (60, [a, b], [4]) else none
  | _, _ => none
theorem gR2_ok (hs : sCok ρ κ) (hG : ∀ f ∈ G, sWf A L sc ρ f) {vs : List sV} {cs : List Nat} {f : sFc} (h : gR2 κ G vs cs = some f) : sWf A L sc ρ f := by
  unfold gR2 at h
  split at h
  · split at h
    · rename_i hc
      cases h
      simp only [Bool.and_eq_true] at hc
      obtain ⟨x, z, e1, e2, q1⟩ := gHs2 hs hG hc.1
      obtain ⟨zn, p1, p2, p3⟩ := gSp_ok hs hG e2 hc.2
      exact ⟨[x, z], ⟨e1, e2, trivial⟩, q_nxt p1 q1 p2 p3⟩
    · cases h
  · cases h
def gR3 (κ : sCx) (G : List sFc) (vs : List sV) (cs : List Nat) : Option sFc := match vs, cs with
  | [n, s], [] => if (gHs κ G [n] [0] && (sDef κ.1 s && gGe κ s n)) = true then some (60, [s, s, (0, 0)], [3]) else none
  | _, _ => none
theorem gR3_ok (hs : sCok ρ κ) (hG : ∀ f ∈ G, sWf A L sc ρ f) {vs : List sV} {cs : List Nat} {f : sFc} (h : gR3 κ G vs cs = some f) : sWf A L sc ρ f := by
  unfold gR3 at h
  split at h
  · split at h
    · rename_i hc
      cases h
      simp only [Bool.and_eq_true] at hc
      obtain ⟨zn, e1, q1⟩ := gHs1 hs hG hc.1
      obtain ⟨z, hz⟩ := sDef_ev hs.1 hc.2.1
      exact ⟨[z, z, 0], ⟨hz, hz, rfl, trivial⟩, q_tok0 q1 (gGe_ok hs hz e1 hc.2.2)⟩
    · cases h
  · cases h
def gR4 (κ : sCx) (G : List sFc) (vs : List sV) (cs : List Nat) : Option sFc := match vs, cs with
  | n :: s :: e :: ys, [c, w] => if ((decide (c = 1) || decide (c = 2)) && (gHs κ G [s, e] [2, c] && (gGe κ e (s.1, s.2 + 1) && gSp κ G c n e ys w))) = true then some (60, [s, e, (0, (c : Int))], [3]) else none
  | _, _ => none
theorem gR4_ok (hs : sCok ρ κ) (hG : ∀ f ∈ G, sWf A L sc ρ f) {vs : List sV} {cs : List Nat} {f : sFc} (h : gR4 κ G vs cs = some f) : sWf A L sc ρ f := by
  unfold gR4 at h
  split at h
  · split at h
    · rename_i hc
      cases h
      simp only [Bool.and_eq_true, Bool.or_eq_true, decide_eq_true_eq] at hc
      obtain ⟨h1, h2, h3, h4⟩ := hc
      obtain ⟨x, z, e1, e2, q1⟩ := gHs2 hs hG h2
      obtain ⟨zn, p1, p2, p3⟩ := gSp_ok hs hG e2 h4
      have := gGe_ok hs e2 (sEv_add e1 1) h3
      exact ⟨[x, z, _], ⟨e1, e2, rfl, trivial⟩, q_tok12 h1 p1 q1 (by omega) p2 p3⟩
    · cases h
  · cases h
def gR5 (κ : sCx) (G : List sFc) (vs : List sV) (cs : List Nat) : Option sFc := match vs, cs with
  | [n, s, y], [w, k] => if (gHs κ G [n] [0] && (gHs κ G [s, y] [1, w] && (gGe κ n (s.1, s.2 + 1) && (gIs (gCl κ.2.1 1 y) false && (gIs (gCl κ.2.1 2 y) false && ((decide (k = 3) && gIs (gMkd κ.2.1 y) true) || (decide (k = 4) && gIs (gMkd κ.2.1 y) false))))))) = true then some (60, [s, (s.1, s.2 + 1), (0, (k : Int))], [3]) else none
  | _, _ => none
theorem gR5_ok (hs : sCok ρ κ) (hG : ∀ f ∈ G, sWf A L sc ρ f) {vs : List sV} {cs : List Nat} {f : sFc} (h : gR5 κ G vs cs = some f) : sWf A L sc ρ f := by
  unfold gR5 at h
  split at h
  · split at h
    · rename_i hc
      cases h
      simp only [Bool.and_eq_true, Bool.or_eq_true, decide_eq_true_eq] at hc
      obtain ⟨h1, h2, h3, h4, h5, h6⟩ := hc
      obtain ⟨zn, e1, q1⟩ := gHs1 hs hG h1
      obtain ⟨x, z, e2, e3, q2⟩ := gHs2 hs hG h2
      have hlt := gGe_ok hs e1 (sEv_add e2 1) h3
      have c1 := gCl_ok hs e3 (gIs_eq h4)
      have c2 := gCl_ok hs e3 (gIs_eq h5)
      rcases h6 with ⟨rfl, h6⟩ | ⟨rfl, h6⟩
      · exact ⟨[x, x + 1, 3], ⟨e2, sEv_add e2 1, rfl, trivial⟩, q_tok3 q1 (by omega) q2 c1 c2 (gMkd_ok hs e3 (gIs_eq h6))⟩
      · exact ⟨[x, x + 1, 4], ⟨e2, sEv_add e2 1, rfl, trivial⟩, q_tok4 q1 (by omega) q2 c1 c2 (gMkd_ok hs e3 (gIs_eq h6))⟩
    · cases h
  · cases h
def gR6 (κ : sCx) (G : List sFc) (vs : List sV) (cs : List Nat) : Option sFc := match vs, cs with
  | [p, e, t, q], [] => if (gHs κ G [p, e, t] [3] && gHs κ G [e, q] [4]) = true then some (60, [p, q], [16]) else none
  | _, _ => none
theorem gR6_ok (hs : sCok ρ κ) (hG : ∀ f ∈ G, sWf A L sc ρ f) {vs : List sV} {cs : List Nat} {f : sFc} (h : gR6 κ G vs cs = some f) : sWf A L sc ρ f := by
  unfold gR6 at h
  split at h
  · split at h
    · rename_i hc
      cases h
      simp only [Bool.and_eq_true] at hc
      obtain ⟨x, y, z, e1, e2, e3, q1⟩ := gHs3 hs hG hc.1
      obtain ⟨y', u, e4, e5, q2⟩ := gHs2 hs hG hc.2
      cases e2.symm.trans e4
      exact ⟨[x, u], ⟨e1, e5, trivial⟩, q_nx q1 q2⟩
    · cases h
  · cases h
end RU
end
