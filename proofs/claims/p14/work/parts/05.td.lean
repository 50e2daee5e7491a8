noncomputable section
/-! ===== upper bounds by facts, sums, and which facts follow ===== -/
def sUg (env : sE) (r : sV → Option Int) (y : sV) (f : sFc) : Option Int := match f with
  | (0, [a, b], _) => if b.1 = y.1 then (r a).map (fun c => c + (y.2 - b.2)) else none
  | (1, [a, b, t], _) => if b.1 = y.1 then (if sNz env t = true then (r a).map (fun c => c + (y.2 - b.2)) else none) else none
  | (2, [a, b, z], _) => if b.1 = y.1 then (match sLo env z with
    | some l => (r a).map (fun c => c - l + (y.2 - b.2))
    | none => none) else if z.1 = y.1 then (match sLo env b with
    | some l => (r a).map (fun c => c - l + (y.2 - z.2))
    | none => none) else none
  | _ => none
def sUb (env : sE) (F : List sFc) : Nat → sV → Option Int
  | 0, y => sHi env y
  | d + 1, y => if y.1 < 16 then sHi env y else sFold sMin (sUg env (fun a => sUb env F d a) y) F (sHi env y)
theorem sUg_ok {ρ : List Int} {nx : Nat} {env : sE} (h : sOk ρ nx env) {r : sV → Option Int} {y : sV} {n : Int} (hn : sEv ρ y = some n) (hr : ∀ (a : sV) (k c : Int), sEv ρ a = some k → r a = some c → k ≤ c) {f : sFc} (hf : sPf ρ f) {c : Int} (hc : sUg env r y f = some c) : n ≤ c := by
  unfold sUg at hc
  split at hc
  · split at hc
    · rename_i a b ps e
      obtain ⟨u, k, h1, h2, h3⟩ := hf
      obtain ⟨c0, hc0, rfl⟩ := Option.map_eq_some_iff.mp hc
      have := hr a u c0 h1 hc0
      have := sEv_same e h2 hn
      omega
    · cases hc
  · split at hc
    · rename_i a b t ps e
      split at hc
      · rename_i hz
        obtain ⟨u, k, w, h1, h2, h3, h4⟩ := hf
        obtain ⟨c0, hc0, rfl⟩ := Option.map_eq_some_iff.mp hc
        have := hr a u c0 h1 hc0
        have := sEv_same e h2 hn
        have := sNz_ok h h3 hz
        omega
      · cases hc
    · cases hc
  · rename_i a b z ps
    obtain ⟨u, k, w, h1, h2, h3, h4⟩ := hf
    split at hc
    · rename_i e
      split at hc
      · rename_i l hl
        obtain ⟨c0, hc0, rfl⟩ := Option.map_eq_some_iff.mp hc
        have := hr a u c0 h1 hc0
        have := sEv_same e h2 hn
        have := sLo_ok h h3 hl
        omega
      · cases hc
    · split at hc
      · rename_i e
        split at hc
        · rename_i l hl
          obtain ⟨c0, hc0, rfl⟩ := Option.map_eq_some_iff.mp hc
          have := hr a u c0 h1 hc0
          have := sEv_same e h3 hn
          have := sLo_ok h h2 hl
          omega
        · cases hc
      · cases hc
  · cases hc
theorem sUb_ok {ρ : List Int} {nx : Nat} {env : sE} {F : List sFc} (h : sOk ρ nx env) (hF : ∀ f ∈ F, sPf ρ f) : ∀ (d : Nat) {y : sV} {n c : Int}, sEv ρ y = some n → sUb env F d y = some c → n ≤ c
  | 0, y, n, c, hn, hc => sHi_ok h hn hc
  | d + 1, y, n, c, hn, hc => by
    unfold sUb at hc
    split at hc
    · exact sHi_ok h hn hc
    · exact sFold_P (P := fun c => n ≤ c) (fun ha hb q => sMin_P (P := fun c => n ≤ c) ha hb q) (fun _ q => sHi_ok h hn q) F (fun f hf _ q => sUg_ok h hn (fun a k c0 ha hc0 => sUb_ok h hF d ha hc0) (hF f hf) q) c hc
/-- the best known c with x >= y + z + c -/
def sTg0 (env : sE) (F : List sFc) (x y z : sV) (f : sFc) : Option Int := match f with
  | (2, [a, b, w], _) => if b.1 = y.1 ∧ w.1 = z.1 then (sDm env F 5 x a).map (fun c => c + (b.2 - y.2) + (w.2 - z.2)) else if w.1 = y.1 ∧ b.1 = z.1 then (sDm env F 5 x a).map (fun c => c + (w.2 - y.2) + (b.2 - z.2)) else none
  | _ => none
def sTm (env : sE) (F : List sFc) (x y z : sV) : Option Int := sFold sMax (sTg0 env F x y z) F (sMax (match sHi env z with
  | some k => (sDm env F 5 x y).map (fun c => c - k)
  | none => none) (match sHi env y with
  | some k => (sDm env F 5 x z).map (fun c => c - k)
  | none => none))
theorem sTm_ok {ρ : List Int} {nx : Nat} {env : sE} {F : List sFc} (h : sOk ρ nx env) (hF : ∀ f ∈ F, sPf ρ f) {x y z : sV} {m n k c : Int} (hm : sEv ρ x = some m) (hn : sEv ρ y = some n) (hk : sEv ρ z = some k) (hc : sTm env F x y z = some c) : c ≤ m - n - k := by
  refine sFold_P (P := fun c => c ≤ m - n - k) (fun ha hb q => sMax_P (P := fun c => c ≤ m - n - k) ha hb q) (fun c0 q => ?_) F (fun f hf c0 q => ?_) c hc
  · refine sMax_P (P := fun c => c ≤ m - n - k) (fun c1 q1 => ?_) (fun c1 q1 => ?_) q
    · split at q1
      · rename_i u hu
        obtain ⟨c2, hc2, rfl⟩ := Option.map_eq_some_iff.mp q1
        have := sDm_ok h hF 5 hm hn hc2
        have := sHi_ok h hk hu
        omega
      · cases q1
    · split at q1
      · rename_i u hu
        obtain ⟨c2, hc2, rfl⟩ := Option.map_eq_some_iff.mp q1
        have := sDm_ok h hF 5 hm hk hc2
        have := sHi_ok h hn hu
        omega
      · cases q1
  · have hp := hF f hf
    unfold sTg0 at q
    split at q
    · rename_i a b w ps
      obtain ⟨u1, u2, u3, h1, h2, h3, h4⟩ := hp
      split at q
      · rename_i e
        obtain ⟨c2, hc2, rfl⟩ := Option.map_eq_some_iff.mp q
        have := sDm_ok h hF 5 hm h1 hc2
        have := sEv_same e.1 h2 hn
        have := sEv_same e.2 h3 hk
        omega
      · split at q
        · rename_i e
          obtain ⟨c2, hc2, rfl⟩ := Option.map_eq_some_iff.mp q
          have := sDm_ok h hF 5 hm h1 hc2
          have := sEv_same e.1 h3 hn
          have := sEv_same e.2 h2 hk
          omega
        · cases q
    · cases q
def sNn (c : Option Int) : Bool := match c with
  | some z => decide (0 ≤ z)
  | none => false
theorem sNn_some {c : Option Int} (h : sNn c = true) : ∃ z, c = some z ∧ 0 ≤ z := by
  unfold sNn at h
  split at h
  · exact ⟨_, rfl, by simpa using h⟩
  · cases h
/-- a number is meant: a known one, or an unknown one below nx -/
def sDef (nx : Nat) (x : sV) : Bool := decide (x.1 = 0) || (decide (16 ≤ x.1) && decide ((x.1 - 16) / 2 < nx))
theorem sDef_ev {ρ : List Int} {nx : Nat} {env : sE} (h : sOk ρ nx env) {x : sV} (hd : sDef nx x = true) : ∃ n, sEv ρ x = some n := by
  obtain ⟨t, c⟩ := x
  simp only [sDef, Bool.or_eq_true, Bool.and_eq_true, decide_eq_true_eq] at hd
  rcases hd with hd | ⟨h1, h2⟩
  · subst hd
    exact ⟨c, rfl⟩
  · rw [sEv_gen ⟨by omega, by omega⟩, if_pos h1]
    have hl : (t - 16) / 2 < ρ.length := by rw [h.1]; exact h2
    exact ⟨_, by rw [List.getElem?_eq_getElem hl]; rfl⟩
/-- a condition whose fact is there, for places further apart -/
def sC0 (env : sE) (F : List sFc) (a b t : sV) (f : sFc) : Bool := match f with
  | (1, [a', b', t'], _) => decide (sN env t' = t) && (match sDm env F 5 a a', sDm env F 5 b' b with
    | some u, some w => decide (0 ≤ u + w)
    | _, _ => false)
  | _ => false
def sR0 (a : sV) (md r : Nat) (f : sFc) : Bool := match f with
  | (3, [a'], [md', r']) => decide (md' = md) && (decide (a'.1 = a.1) && decide (((r' : Int) + (a.2 - a'.2) - (r : Int)) % (md : Int) = 0))
  | _ => false
def sVe (x y : sV) : Bool := Nat.beq x.1 y.1 && sIe x.2 y.2
theorem sVe_eq {x y : sV} (h : sVe x y = true) : x = y := by
  simp only [sVe, Bool.and_eq_true] at h
  exact Prod.ext (Nat.eq_of_beq_eq_true h.1) (sIe_eq h.2)
/-- a fact that says it, whatever the numbers' bounds -/
def sD2 (a b : sV) (f : sFc) : Bool := match f with
  | (0, [x, y], _) => Nat.beq x.1 a.1 && (Nat.beq y.1 b.1 && gLe 0 (a.2 - x.2 + (y.2 - b.2)))
  | _ => false
def s6q (env : sE) (a b : sV) (f : sFc) : Bool := match f with
  | (6, [x, y], _) => (sVe (sN env x) (sN env a) && sVe (sN env y) (sN env b)) || (sVe (sN env x) (sN env b) && sVe (sN env y) (sN env a))
  | _ => false
def s6e (env : sE) (F : List sFc) (a b : sV) : Bool := F.any (s6q env a b) || (sDn env F a (b.1, b.2 + 1) || sDn env F b (a.1, a.2 + 1))
theorem sD2_ok {ρ : List Int} {F : List sFc} (hF : ∀ f ∈ F, sPf ρ f) {a b : sV} {m n : Int} (hm : sEv ρ a = some m) (hn : sEv ρ b = some n) (h : F.any (sD2 a b) = true) : n ≤ m := by
  obtain ⟨f, hf, h4⟩ := List.any_eq_true.mp h
  have hp := hF f hf
  unfold sD2 at h4
  split at h4
  · rename_i x y ps
    obtain ⟨u, w, g1, g2, g3⟩ := hp
    simp only [Bool.and_eq_true] at h4
    obtain ⟨e1, e2, h5⟩ := h4
    have q1 := sEv_same (Nat.eq_of_beq_eq_true e1) g1 hm
    have q2 := sEv_same (Nat.eq_of_beq_eq_true e2) g2 hn
    have q3 := gLe_iff.mp h5
    omega
  · cases h4
theorem sEv_a1 {ρ : List Int} {x : sV} {m : Int} (h : sEv ρ x = some m) (c : Int) : sEv ρ (x.1, x.2 + c) = some (m + c) := by
  obtain ⟨t, z⟩ := x
  by_cases h0 : t = 0
  · subst h0
    simp only [sEv, Option.some.injEq] at h ⊢
    omega
  · by_cases h1 : t = 1
    · subst h1
      simp only [sEv, Option.some.injEq] at h ⊢
      omega
    · rw [sEv_gen ⟨h0, h1⟩] at h ⊢
      simp only
      split at h
      · rename_i h16
        rw [if_pos h16]
        obtain ⟨y, hy, rfl⟩ := Option.map_eq_some_iff.mp h
        rw [hy]
        show some (y + (z + c)) = some (y + z + c)
        congr 1
        omega
      · cases h
theorem s6e_ok {ρ : List Int} {nx : Nat} {env : sE} {F : List sFc} (h : sOk ρ nx env) (hF : ∀ f ∈ F, sPf ρ f) {a b : sV} {m n : Int} (hm : sEv ρ a = some m) (hn : sEv ρ b = some n) (he : s6e env F a b = true) : m ≠ n := by
  simp only [s6e, Bool.or_eq_true] at he
  rcases he with he | he | he
  · obtain ⟨f, hf, h4⟩ := List.any_eq_true.mp he
    have hp := hF f hf
    unfold s6q at h4
    split at h4
    · rename_i x y ps
      obtain ⟨u, w, g1, g2, g3⟩ := hp
      simp only [Bool.or_eq_true, Bool.and_eq_true] at h4
      have n1 := sN_ev h g1
      have n2 := sN_ev h g2
      have n3 := sN_ev h hm
      have n4 := sN_ev h hn
      rcases h4 with ⟨e1, e2⟩ | ⟨e1, e2⟩
      · rw [sVe_eq e1, n3] at n1
        rw [sVe_eq e2, n4] at n2
        cases n1
        cases n2
        exact g3
      · rw [sVe_eq e1, n4] at n1
        rw [sVe_eq e2, n3] at n2
        cases n1
        cases n2
        exact fun q => g3 q.symm
    · cases h4
  · have := sDn_ok h hF hm (sEv_a1 hn 1) he
    omega
  · have := sDn_ok h hF hn (sEv_a1 hm 1) he
    omega
def sCuB (env : sE) (F : List sFc) (a b : sV) : Bool := Nat.beq a.1 0 && (match sUb env F 2 b with
  | some z => gLe z a.2
  | none => false)
theorem sCuB_ok {ρ : List Int} {nx : Nat} {env : sE} {F : List sFc} (h : sOk ρ nx env) (hF : ∀ f ∈ F, sPf ρ f) {a b : sV} {m n : Int} (hm : sEv ρ a = some m) (hn : sEv ρ b = some n) (he : sCuB env F a b = true) : n ≤ m := by
  unfold sCuB at he
  rw [Bool.and_eq_true] at he
  obtain ⟨h0, he⟩ := he
  have h0 := Nat.eq_of_beq_eq_true h0
  obtain ⟨t, c⟩ := a
  simp only at h0
  subst h0
  have e : m = c := (Option.some.inj hm).symm
  split at he
  · rename_i z hz
    have h1 := sUb_ok h hF 2 hn hz
    have h2 := gLe_iff.mp he
    simp only at h2
    omega
  · cases he
/-- does the fact follow? (its numbers are all meant) -/
def sEn0 (nx : Nat) (env : sE) (F : List sFc) (f : sFc) : Bool := match f with
  | (0, [a, b], _) => sDef nx a && (sDef nx b && (sDn env F a b || (F.any (sD2 a b) || sCuB env F a b)))
  | (1, [a, b, t], _) => sDef nx a && (sDef nx b && (sDef nx t && (decide (t = (0, 0)) || (sDn env F a b || F.any (sC0 env F a b t)))))
  | (2, [a, b, z], _) => sDef nx a && (sDef nx b && (sDef nx z && sNn (sTm env F a b z)))
  | (3, [a], [md, r]) => sDef nx a && ((decide (a.1 = 0) && decide ((a.2 - (r : Int)) % (md : Int) = 0)) || F.any (sR0 a md r))
  | (6, [a, b], _) => sDef nx a && (sDef nx b && s6e env F a b)
  | _ => false
theorem sEn0_ok {ρ : List Int} {nx : Nat} {env : sE} {F : List sFc} (h : sOk ρ nx env) (hF : ∀ f ∈ F, sPf ρ f) {f : sFc} (he : sEn0 nx env F f = true) : sPf ρ f := by
  unfold sEn0 at he
  split at he
  · simp only [Bool.and_eq_true] at he
    obtain ⟨d1, d2, h3⟩ := he
    obtain ⟨m, hm⟩ := sDef_ev h d1
    obtain ⟨n, hn⟩ := sDef_ev h d2
    rw [Bool.or_eq_true] at h3
    rcases h3 with h3 | h3
    · exact ⟨m, n, hm, hn, sDn_ok h hF hm hn h3⟩
    · rw [Bool.or_eq_true] at h3
      rcases h3 with h3 | h3
      · exact ⟨m, n, hm, hn, sD2_ok hF hm hn h3⟩
      · exact ⟨m, n, hm, hn, sCuB_ok h hF hm hn h3⟩
  · rename_i a b t ps
    simp only [Bool.and_eq_true, Bool.or_eq_true, decide_eq_true_eq] at he
    obtain ⟨d1, d2, d3, h3⟩ := he
    obtain ⟨m, hm⟩ := sDef_ev h d1
    obtain ⟨n, hn⟩ := sDef_ev h d2
    obtain ⟨k, hk⟩ := sDef_ev h d3
    refine ⟨m, n, k, hm, hn, hk, ?_⟩
    rcases h3 with h3 | h3 | h3
    · subst h3
      left
      simpa [sEv] using hk.symm
    · exact Or.inr (sDn_ok h hF hm hn h3)
    · obtain ⟨f, hf, h4⟩ := List.any_eq_true.mp h3
      have hp := hF f hf
      unfold sC0 at h4
      split at h4
      · rename_i a' b' t' ps'
        obtain ⟨u1, u2, u3, g1, g2, g3, g4⟩ := hp
        simp only [Bool.and_eq_true, decide_eq_true_eq] at h4
        obtain ⟨e, h5⟩ := h4
        split at h5
        · rename_i u w hu hw
          have q1 := sDm_ok h hF 5 hm g1 hu
          have q2 := sDm_ok h hF 5 g2 hn hw
          have q3 := sN_ev h g3
          rw [e, hk] at q3
          cases q3
          have h5' : 0 ≤ u + w := by simpa using h5
          rcases g4 with g4 | g4
          · exact Or.inl g4
          · exact Or.inr (by omega)
        · cases h5
      · cases h4
  · simp only [Bool.and_eq_true] at he
    obtain ⟨d1, d2, d3, h3⟩ := he
    obtain ⟨m, hm⟩ := sDef_ev h d1
    obtain ⟨n, hn⟩ := sDef_ev h d2
    obtain ⟨k, hk⟩ := sDef_ev h d3
    obtain ⟨z, hz, hz0⟩ := sNn_some h3
    have := sTm_ok h hF hm hn hk hz
    exact ⟨m, n, k, hm, hn, hk, by omega⟩
  · rename_i a md r
    simp only [Bool.and_eq_true, Bool.or_eq_true, decide_eq_true_eq] at he
    obtain ⟨d1, h3⟩ := he
    obtain ⟨m, hm⟩ := sDef_ev h d1
    rcases h3 with ⟨h4, h5⟩ | h4
    · obtain ⟨t, c⟩ := a
      simp only at h4 h5
      subst h4
      simp only [sEv, Option.some.injEq] at hm
      subst hm
      obtain ⟨q, hq⟩ := Int.dvd_of_emod_eq_zero h5
      exact ⟨c, q, rfl, by omega⟩
    · obtain ⟨f, hf, h4⟩ := List.any_eq_true.mp h4
      have hp := hF f hf
      unfold sR0 at h4
      split at h4
      · rename_i a' md' r'
        obtain ⟨u, q, g1, g2⟩ := hp
        simp only [Bool.and_eq_true, decide_eq_true_eq] at h4
        obtain ⟨rfl, e, h5⟩ := h4
        have := sEv_same e g1 hm
        obtain ⟨q', hq'⟩ := Int.dvd_of_emod_eq_zero h5
        refine ⟨m, q + q', hm, ?_⟩
        rw [Int.mul_add]
        omega
      · cases h4
  · simp only [Bool.and_eq_true] at he
    obtain ⟨d1, d2, h3⟩ := he
    obtain ⟨m, hm⟩ := sDef_ev h d1
    obtain ⟨n, hn⟩ := sDef_ev h d2
    exact ⟨m, n, hm, hn, s6e_ok h hF hm hn h3⟩
  · cases he
end
