noncomputable section
/-! ===== rules that the search in Python found wanting: numbers by weak values, the number's and the agent's test, what can't be ===== -/
section RU
variable {L : Nat} {sc : Nat → Int32}
theorem q_nn {z : Int} (h : gQ1 L sc [18] [z]) (h0 : 0 ≤ z) : gQ1 L sc [0] [z] := ⟨h0, h⟩
/-! ### weak values -/
theorem q_w0 {s e t v : Int} (h : 0 ≤ s) (ht : t ≠ 2) : gQ1 L sc [19] [s, e, t, v] := ⟨h, fun q => absurd q ht⟩
theorem q_w1 {s : Int} (h : 0 ≤ s) : gQ1 L sc [19] [s, s, 2, 0] := ⟨h, fun _ => ⟨Int.le_refl _, fun _ => by rw [Int.sub_self]; rfl⟩⟩
theorem q_dig {y : Int} (h1 : 48 ≤ y) (h2 : y ≤ 57) : tC 2 y = true := by
  simp only [tC, Bool.and_eq_true, decide_eq_true_eq]
  exact ⟨h1, h2⟩
theorem q_w2 {w : Nat} {s e v y z : Int} (h : gQ1 L sc [19] [s, e, 2, v]) (hy : gQ1 L sc [1, w] [e, y]) (h48 : 48 ≤ y) (h57 : y ≤ 57) (hz : z = 10 * v + y - 48) : gQ1 L sc [19] [s, e + 1, 2, z] := by
  obtain ⟨h0, h1⟩ := h
  obtain ⟨h2, h3⟩ := h1 rfl
  refine ⟨h0, fun _ => ⟨by omega, fun h4 => ?_⟩⟩
  have q5 : gQ1 L sc [5] [s, e, v] := ⟨h0, h2, h3 (by omega)⟩
  exact (q_val1 q5 hy (q_dig h48 h57) hz).2.2
theorem q_w3 {s e v x : Int} (h : gQ1 L sc [19] [s, e, 2, v]) (h4 : s + 4 ≤ e) : gQ1 L sc [19] [s, e + 1, 2, x] := by
  obtain ⟨h0, h1⟩ := h
  obtain ⟨h2, h3⟩ := h1 rfl
  exact ⟨h0, fun _ => ⟨by omega, fun h5 => by omega⟩⟩
theorem tV_lt {T : Nat → Int} {s : Nat} : ∀ k, (∀ j, s ≤ j → j < s + k → 48 ≤ T j ∧ T j ≤ 57) → 0 ≤ tV T s k ∧ tV T s k < 10 ^ k
  | 0, _ => ⟨Int.le_refl _, (by decide : (0 : Int) < 1)⟩
  | k + 1, h => by
    have ih := tV_lt k (fun j a b => h j a (by omega))
    have hk := h (s + k) (by omega) (by omega)
    simp only [tV]
    rw [Int.pow_succ]
    omega
theorem q_w4 {w : Nat} {s e v y z : Int} (h : gQ1 L sc [19] [s, e, 2, v]) (hr : gQ1 L sc [2, 2] [s, e]) (hy : gQ1 L sc [1, w] [e, y]) (h48 : 48 ≤ y) (h57 : y ≤ 57) (hz : 10 * v + y - 48 ≤ 100000 → z = 10 * v + y - 48) : gQ1 L sc [19] [s, e + 1, 2, z] := by
  obtain ⟨h0, h1⟩ := h
  obtain ⟨h2, h3⟩ := h1 rfl
  refine ⟨h0, fun _ => ⟨by omega, fun h4 => ?_⟩⟩
  have hv := h3 (by omega)
  have q5 : gQ1 L sc [5] [s, e, v] := ⟨h0, h2, hv⟩
  obtain ⟨r0, r1, r2⟩ := hr
  have hb := tV_lt (T := gT L sc) (s := s.toNat) (e - s).toNat (fun j a b => by
    have := r2 j a (by omega)
    simp only [tC, Bool.and_eq_true, decide_eq_true_eq] at this
    exact this)
  have hk : (e - s).toNat ≤ 3 := by omega
  have hp : (10 : Int) ^ (e - s).toNat ≤ 1000 := by
    have : ∀ k, k ≤ 3 → (10 : Int) ^ k ≤ 1000 := by decide
    exact this _ hk
  rw [hv] at hb
  exact (q_val1 q5 hy (q_dig h48 h57) (hz (by omega))).2.2
theorem q_num2 {s e v : Int} (h : gQ1 L sc [3] [s, e, 2]) (hv : gQ1 L sc [19] [s, e, 2, v]) (hl : e ≤ s + 4) : gQ1 L sc [17] [s, v] := q_num h ⟨h.1, (hv.2 rfl).1, (hv.2 rfl).2 hl⟩ (by omega)
theorem q_num_rng {p v : Int} (h : gQ1 L sc [17] [p, v]) : 0 ≤ v ∧ v ≤ 9999 := tNo_bound h.2
/-! ### behind the end; what can't be -/
theorem q_past {n s e t : Int} (hn : gQ1 L sc [0] [n]) (h : gQ1 L sc [3] [s, e, t]) (hs : n ≤ s) : gQ1 L sc [3] [s, e, 0] := by
  obtain ⟨n0, n1⟩ := hn
  obtain ⟨a, b, c, d⟩ := h
  refine ⟨a, b, Int.le_refl _, ?_⟩
  have hK : tK (gT L sc) (gN L sc) s.toNat = (0, s.toNat) := by
    unfold tK
    rw [if_pos (by omega)]
  rw [hK] at d ⊢
  have := congrArg Prod.snd d
  simp only at this
  rw [this]
  rfl
theorem q_end1 {s e t : Int} (h : gQ1 L sc [3] [s, e, t]) : t = 0 ∨ s + 1 ≤ e := by
  obtain ⟨a, b, c, d⟩ := h
  by_cases h0 : t = 0
  · exact Or.inl h0
  · right
    unfold tK at d
    split at d
    · have := congrArg Prod.fst d
      simp only at this
      omega
    · rename_i hn
      have key : ∀ cl : Nat, tC cl (gT L sc s.toNat) = true → s.toNat < tE (gT L sc) (gN L sc) cl s.toNat := by
        intro cl hc
        unfold tE
        rw [show gN L sc - s.toNat = (gN L sc - s.toNat - 1) + 1 by omega]
        simp only [tR]
        rw [if_pos hc]
        have : ∀ (f x : Nat), x ≤ tR (gT L sc) cl f x := by
          intro f
          induction f with
          | zero => exact fun x => Nat.le_refl _
          | succ f ih =>
            intro x
            simp only [tR]
            split
            · exact Nat.le_trans (Nat.le_succ x) (ih (x + 1))
            · exact Nat.le_refl _
        exact this _ _
      split at d
      · rename_i hc
        have := congrArg Prod.snd d
        simp only at this
        have := key 1 hc
        omega
      · split at d
        · rename_i hc
          have := congrArg Prod.snd d
          simp only at this
          have := key 2 hc
          omega
        · have := congrArg Prod.snd d
          simp only at this
          omega
theorem q_abs8 {c : Nat} {s : Int} (h : gQ1 L sc [8, c] [s]) (h2 : gQ1 L sc [9, c] [s]) : False := by
  have := h.2.symm.trans h2.2
  cases this
theorem q_abs6 {w : Nat} {s : Int} (h : gQ1 L sc [6, w] [s]) (h2 : gQ1 L sc [7, w] [s]) : False := by
  have := h.2.symm.trans h2.2
  cases this
theorem q_89 {c c' : Nat} {s : Int} (h : gQ1 L sc [8, c] [s]) (hne : c ≠ c') : gQ1 L sc [9, c'] [s] := by
  refine ⟨h.1, ?_⟩
  have h1 := tS_iff.mp h.2
  cases e : tS (gT L sc) (gN L sc) s.toNat c' with
  | false => rfl
  | true =>
    have h2 := tS_iff.mp e
    have := h1.2.symm.trans h2.2
    omega
theorem q_absR {c w : Nat} {a b x y : Int} (h : gQ1 L sc [2, c] [a, b]) (hy : gQ1 L sc [1, w] [x, y]) (h1 : a ≤ x) (h2 : x + 1 ≤ b) (hc : tC c y = false) : False := by
  obtain ⟨r0, r1, r2⟩ := h
  have := r2 x.toNat (by omega) (by omega)
  rw [q_byteC hy, hc] at this
  cases this
theorem q_abs17 {p v : Int} (h : gQ1 L sc [17] [p, v]) (hv : v < 0 ∨ 9999 < v) : False := by
  have := q_num_rng h
  omega
theorem q_13z {a b : Int} (h : gQ1 L sc [13] [a, b]) (h0 : a = 0) : gQ1 L sc [13] [0, -1] := by
  subst h0
  rcases h with ⟨-, -, h⟩ | ⟨c, p, hc, -, hF⟩
  · exact Or.inl ⟨rfl, rfl, h⟩
  · exact absurd (by omega : c = 0) hF.1
end RU
end
