noncomputable section
/-! ===== ways of the machine: from what is still to be read, whatever stands below it ===== -/
def tD (T : Nat → Int) (n p0 : Nat) (s0 : List (Nat × Nat)) (p : Nat) (s : List (Nat × Nat)) : Prop := ∀ (K : List (Nat × Nat)) (nu : List Int) (tb : tTb), tRe T n (p0, s0 ++ K, nu, tb, 0) (p, s ++ K, nu, tb, 0)
def tDB (T : Nat → Int) (n p0 : Nat) (s0 : List (Nat × Nat)) (cd pl : Nat) : Prop := cd ≠ 0 ∧ ∀ (K : List (Nat × Nat)) (nu : List Int) (tb : tTb), ∃ K', tRe T n (p0, s0 ++ K, nu, tb, 0) (pl, K', nu, tb, cd)
theorem tD_rfl {T : Nat → Int} {n p : Nat} {s : List (Nat × Nat)} : tD T n p s p s := fun _ _ _ => tRe_rfl
theorem tD_trans {T : Nat → Int} {n p0 p1 p2 : Nat} {s0 s1 s2 K : List (Nat × Nat)} (h1 : tD T n p0 s0 p1 (s1 ++ K)) (h2 : tD T n p1 s1 p2 s2) : tD T n p0 s0 p2 (s2 ++ K) := fun K' nu tb => by
  have a := h1 K' nu tb
  have b := h2 (K ++ K') nu tb
  rw [List.append_assoc] at a ⊢
  exact tRe_trans a b
theorem tDB_trans {T : Nat → Int} {n p0 p1 : Nat} {s0 s1 K : List (Nat × Nat)} {cd pl : Nat} (h1 : tD T n p0 s0 p1 (s1 ++ K)) (h2 : tDB T n p1 s1 cd pl) : tDB T n p0 s0 cd pl := ⟨h2.1, fun K' nu tb => by
  have a := h1 K' nu tb
  obtain ⟨K'', b⟩ := h2.2 (K ++ K') nu tb
  rw [List.append_assoc] at a
  exact ⟨K'', tRe_trans a b⟩⟩
/-- what is known of the token at p -/
def tPr (T : Nat → Int) (n p : Nat) (q : Nat × Nat) : Prop := match q with
  | (0, t) => (tK T n p).1 = t
  | (1, t) => (tK T n p).1 ≠ t
  | (2, w) => tW T n p w = true
  | (3, w) => tW T n p w = false
  | (4, c) => tS T n p c = true
  | (5, c) => tS T n p c = false
  | (6, _) => (tK T n p).2 - p ≤ 4
  | (7, _) => 4 < (tK T n p).2 - p
  | _ => False
/-- a step: what is read, by what is known of the token, whether the token is taken, what is to be read then, the fault -/
abbrev tEy : Type := (Nat × Nat) × List (Nat × Nat) × Bool × List (Nat × Nat) × Nat
def tEg (v d : Nat) : Option tEy := match v with
  | 0 => if d < 6 then some ((0, d), [], false, [(2, d), (1, d)], 0) else none
  | 1 => if 6 ≤ d then some ((0, d), [(0, 1)], false, [], 2) else none
  | 2 => if 6 ≤ d then some ((0, d), [(0, 2)], false, [], 2) else none
  | 3 => if 6 ≤ d then some ((0, d), [(4, 40)], false, [], 2) else none
  | 4 => if 6 ≤ d then some ((0, d), [(1, 1), (1, 2), (5, 40)], false, [], 1) else none
  | 5 => some ((1, d), [(2, 9)], true, [(2, d), (1, d)], 0)
  | 6 => some ((1, d), [(3, 9)], false, [], 0)
  | 7 => some ((2, d), [], false, [(4, d), (3, d)], 0)
  | 8 => some ((3, d), [(2, 10)], true, [(4, d), (3, d)], 0)
  | 9 => some ((3, d), [(3, 10)], false, [], 0)
  | 10 => if d < 48 then some ((4, d), [(2, 11)], true, [(4, d + 8)], 0) else none
  | 11 => if 48 ≤ d then some ((4, d), [(2, 11)], false, [], 2) else none
  | 12 => some ((4, d), [(3, 11)], false, [(12, d % 8), (11, d % 8)], 0)
  | 13 => some ((11, d), [(4, 60)], true, [(12, d)], 0)
  | 14 => some ((11, d), [(4, 61)], true, [(12, d)], 0)
  | 15 => some ((11, d), [(5, 60), (5, 61)], false, [], 0)
  | 16 => some ((12, d), [], false, [(14, d), (13, d)], 0)
  | 17 => some ((13, d), [(4, 43)], true, [(14, d), (13, d)], 0)
  | 18 => some ((13, d), [(4, 45)], true, [(14, d), (13, d)], 0)
  | 19 => some ((13, d), [(5, 43), (5, 45)], false, [], 0)
  | 20 => some ((14, d), [], false, [(16, d), (15, d)], 0)
  | 21 => some ((15, d), [(4, 42)], true, [(16, d), (15, d)], 0)
  | 22 => some ((15, d), [(4, 47)], true, [(16, d), (15, d)], 0)
  | 23 => some ((15, d), [(5, 42), (5, 47)], false, [], 0)
  | 24 => some ((16, d), [(0, 2), (7, 0)], false, [], 2)
  | 25 => some ((16, d), [(0, 2), (6, 0)], true, [], 0)
  | 26 => some ((16, d), [(2, 12)], true, [], 0)
  | 27 => some ((16, d), [(2, 13)], true, [], 0)
  | 28 => some ((16, d), [(2, 14)], true, [], 0)
  | 29 => some ((16, d), [(2, 15)], true, [], 0)
  | 30 => some ((16, d), [(2, 16)], true, [], 0)
  | 31 => some ((16, d), [(2, 17)], true, [], 0)
  | 32 => some ((16, d), [(2, 18)], true, [], 0)
  | 33 => some ((16, d), [(2, 19)], true, [], 0)
  | 34 => some ((16, d), [(0, 1), (3, 12), (3, 13), (3, 14), (3, 15), (3, 16), (3, 17), (3, 18), (3, 19)], false, [], 3)
  | 35 => some ((16, d), [(4, 40)], true, [(0, d + 1), (17, 0)], 0)
  | 36 => some ((16, d), [(1, 2), (1, 1), (5, 40)], false, [], 1)
  | 37 => some ((17, d), [(4, 41)], true, [], 0)
  | 38 => some ((17, d), [(5, 41)], false, [], 1)
  | 39 => some ((21, d), [(4, 59)], true, [], 0)
  | 40 => some ((21, d), [(5, 59)], false, [], 1)
  | _ => none
theorem tS_kind {T : Nat → Int} {n p c : Nat} (h : tS T n p c = true) : (tK T n p).1 = 3 := (tS_iff.mp h).1
theorem tW_kind {T : Nat → Int} {n p w : Nat} (h : tW T n p w = true) : (tK T n p).1 = 1 := by rw [(tW_iff.mp h).1]
theorem tEg_ok {T : Nat → Int} {n p v d : Nat} {e : tEy} {K : List (Nat × Nat)} {nu : List Int} {tb : tTb} (h : tEg v d = some e) (hp : ∀ q ∈ e.2.1, tPr T n p q) : tSy T n p e.1 K nu tb = (if e.2.2.1 = true then tNx T n p else p, (if e.2.2.2.2 = 0 then e.2.2.2.1 ++ K else K), nu, tb, e.2.2.2.2) := by
  unfold tEg at h
  split at h <;> (try (split at h)) <;> (first | (cases h; done) | skip) <;> (cases h) <;> (try simp only [List.mem_cons, List.not_mem_nil, or_false, forall_eq_or_imp, forall_eq, tPr] at hp)
  all_goals first
    | (rename_i hd; simp [tSy, Nat.not_le.mpr hd]; done)
    | (simp [tSy, *]; done)
    | (simp [tSy, tPs, tVl, *]; done)
    | (have hk := tS_kind hp; simp [tSy, tPs, tVl, hk, *]; done)
    | (have hk := tW_kind hp; simp [tSy, tPs, tVl, hk, *]; done)
    | skip
/-- a step of a way -/
theorem tD_step {T : Nat → Int} {n p0 p v d : Nat} {s0 K : List (Nat × Nat)} {e : tEy} (h : tEg v d = some e) (hp : ∀ q ∈ e.2.1, tPr T n p q) (h0 : e.2.2.2.2 = 0) (hd : tD T n p0 s0 p (e.1 :: K)) : tD T n p0 s0 (if e.2.2.1 = true then tNx T n p else p) (e.2.2.2.1 ++ K) := fun K' nu tb => by
  have a := hd K' nu tb
  refine tRe_trans a (tRe_one ?_)
  simp only [List.cons_append, tSt]
  rw [tEg_ok h hp, h0, if_pos rfl, List.append_assoc]
theorem tDB_step {T : Nat → Int} {n p0 p v d : Nat} {s0 K : List (Nat × Nat)} {e : tEy} (h : tEg v d = some e) (hp : ∀ q ∈ e.2.1, tPr T n p q) (h0 : e.2.2.2.2 ≠ 0) (hc : e.2.2.1 = false) (hd : tD T n p0 s0 p (e.1 :: K)) : tDB T n p0 s0 e.2.2.2.2 p := ⟨h0, fun K' nu tb => by
  have a := hd K' nu tb
  refine ⟨K ++ K', tRe_trans a (tRe_one ?_)⟩
  simp only [List.cons_append, tSt]
  rw [tEg_ok h hp, hc, if_neg h0, if_neg (by decide)]⟩
end
