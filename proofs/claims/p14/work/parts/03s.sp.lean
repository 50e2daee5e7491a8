noncomputable section
/-! ===== the text that is read: bytes, tokens, the machine that reads it by its grammar ===== -/
/-- classes of bytes: 0 blanks, 1 letters, 2 digits -/
def tC (c : Nat) (z : Int) : Bool := match c with
  | 0 => decide (z = 32) || decide (z = 10)
  | 1 => decide (97 ≤ z) && decide (z ≤ 122)
  | _ => decide (48 ≤ z) && decide (z ≤ 57)
def tMk (z : Int) : Bool := decide (z = 59) || (decide (z = 40) || (decide (z = 41) || (decide (z = 43) || (decide (z = 45) || (decide (z = 42) || (decide (z = 47) || (decide (z = 60) || decide (z = 61))))))))
/-- the first place from s on that isn't of the class, f places at most -/
def tR (T : Nat → Int) (c : Nat) : Nat → Nat → Nat
  | 0, s => s
  | f + 1, s => if tC c (T s) = true then tR T c f (s + 1) else s
def tE (T : Nat → Int) (n c s : Nat) : Nat := tR T c (n - s) s
theorem tR_of {T : Nat → Int} {c : Nat} : ∀ (f s e : Nat), s ≤ e → e ≤ s + f → (∀ j, s ≤ j → j < e → tC c (T j) = true) → (e = s + f ∨ tC c (T e) = false) → tR T c f s = e
  | 0, s, e, h1, h2, _, _ => by
    simp only [tR]
    omega
  | f + 1, s, e, h1, h2, h3, h4 => by
    simp only [tR]
    by_cases he : s = e
    · subst he
      rcases h4 with h4 | h4
      · omega
      · rw [h4]
        rfl
    · rw [if_pos (h3 s (Nat.le_refl _) (by omega))]
      exact tR_of f (s + 1) e (by omega) (by omega) (fun j q1 q2 => h3 j (by omega) q2) (by rcases h4 with h4 | h4; exact Or.inl (by omega); exact Or.inr h4)
theorem tE_of {T : Nat → Int} {n c s e : Nat} (h1 : s ≤ e) (h2 : e ≤ n) (h3 : ∀ j, s ≤ j → j < e → tC c (T j) = true) (h4 : e = n ∨ tC c (T e) = false) : tE T n c s = e := by
  refine tR_of _ _ _ h1 (by omega) h3 ?_
  rcases h4 with h4 | h4
  · exact Or.inl (by omega)
  · exact Or.inr h4
theorem tE_past {T : Nat → Int} {n c s : Nat} (h : n ≤ s) : tE T n c s = s := by
  unfold tE
  rw [Nat.sub_eq_zero_of_le h]
  rfl
/-- a token by its first byte: what it is (0 the end, 1 a word, 2 a number, 3 a sign, 4 none), and where it ends -/
def tK (T : Nat → Int) (n s : Nat) : Nat × Nat := if n ≤ s then (0, s) else if tC 1 (T s) = true then (1, tE T n 1 s) else if tC 2 (T s) = true then (2, tE T n 2 s) else (if tMk (T s) = true then 3 else 4, s + 1)
/-- where the next token begins -/
def tNx (T : Nat → Int) (n p : Nat) : Nat := tE T n 0 (tK T n p).2
/-- the number of k digits from s on -/
def tV (T : Nat → Int) (s : Nat) : Nat → Int
  | 0 => 0
  | k + 1 => 10 * tV T s k + (T (s + k) - 48)
def tWds : List (List Nat) := [[99, 108, 101, 114, 107], [99, 104, 105, 101, 102], [99, 111, 100, 105, 115, 116], [100, 111, 117, 98, 108, 101], [117, 110, 109, 111, 118, 101, 100], [108, 105, 110, 101], [115, 101, 99, 114, 101, 116], [103, 114, 117, 100, 103, 101], [116, 101, 108, 108, 115], [111, 114], [97, 110, 100], [110, 111, 116], [119, 111, 114, 116, 104], [102, 114, 111, 109], [116, 111], [115, 97, 109, 101], [108, 111, 121, 97, 108], [107, 105, 110], [100, 97, 121], [111, 119, 110]]
def tWd (w : Nat) : List Nat := tWds.getD w []
/-- the word w stands at s -/
def tW (T : Nat → Int) (n s w : Nat) : Bool := decide (tK T n s = (1, s + (tWd w).length)) && (List.range (tWd w).length).all fun i => decide (T (s + i) = ((tWd w).getD i 0 : Nat))
theorem tW_iff {T : Nat → Int} {n s w : Nat} : tW T n s w = true ↔ tK T n s = (1, s + (tWd w).length) ∧ ∀ i, i < (tWd w).length → T (s + i) = ((tWd w).getD i 0 : Nat) := by
  simp only [tW, Bool.and_eq_true, decide_eq_true_eq, List.all_eq_true, List.mem_range]
/-- the sign c stands at s -/
def tS (T : Nat → Int) (n s c : Nat) : Bool := decide ((tK T n s).1 = 3) && decide (T s = (c : Int))
theorem tS_iff {T : Nat → Int} {n s c : Nat} : tS T n s c = true ↔ (tK T n s).1 = 3 ∧ T s = (c : Int) := by
  simp only [tS, Bool.and_eq_true, decide_eq_true_eq]
/-- agents, lines, their days, secrets, grudges, whether a rule is told -/
abbrev tTb : Type := List (Int × Int × Int × Int) × List (Int × Int) × List Int × List (Int × Int × Int) × List (Int × Int) × Bool
/-- the token's place, what is still to be read, numbers that wait, what is told, the fault (0: none) -/
abbrev tCf : Type := Nat × List (Nat × Nat) × List Int × tTb × Nat
abbrev tNn : Type := List Int
def tBd (r : Nat) : Int × Int := match r with
  | 0 => (0, 1)
  | 1 => (0, 3)
  | 2 => (1, 9)
  | _ => (0, 9)
/-- a number that may stand here, or the fault -/
def tNum (T : Nat → Int) (n p : Nat) (lo hi : Int) : Nat := if (tK T n p).1 = 2 then (if 4 < (tK T n p).2 - p then 2 else if lo ≤ tV T p ((tK T n p).2 - p) ∧ tV T p ((tK T n p).2 - p) ≤ hi then 0 else 2) else 1
def tNv (T : Nat → Int) (n p : Nat) : Int := tV T p ((tK T n p).2 - p)
def tAg (T : Nat → Int) (n p : Nat) (ag : Nat) : Nat := if tNum T n p 0 9999 = 0 then (if tNv T n p < (ag : Int) then 0 else 3) else tNum T n p 0 9999
/-- two who have a line, a grudge (either way round) -/
def tHl (l : List (Int × Int)) (a b : Int) : Bool := l.any fun q => decide (q.1 = a) && decide (q.2 = b)
def tHg (l : List (Int × Int)) (a b : Int) : Bool := l.any fun q => (decide (q.1 = a) && decide (q.2 = b)) || (decide (q.1 = b) && decide (q.2 = a))
/-- what a token may begin an expression -/
def tPs (T : Nat → Int) (n p : Nat) : Bool := decide ((tK T n p).1 = 1) || (decide ((tK T n p).1 = 2) || tS T n p 40)
/-- a word that is a value -/
def tVl (T : Nat → Int) (n p : Nat) : Bool := tW T n p 12 || (tW T n p 13 || (tW T n p 14 || (tW T n p 15 || (tW T n p 16 || (tW T n p 17 || (tW T n p 18 || tW T n p 19))))))
def tKd (T : Nat → Int) (n p : Nat) : Option Nat := if tW T n p 0 = true then some 0 else if tW T n p 1 = true then some 1 else if tW T n p 2 = true then some 2 else if tW T n p 3 = true then some 3 else if tW T n p 4 = true then some 4 else none
/-- a statement's first token -/
def tPg (T : Nat → Int) (n p : Nat) (K : List (Nat × Nat)) (nu : List Int) (tb : tTb) : tCf :=
  if (tK T n p).1 = 0 then (p, K, nu, tb, 0) else match tKd T n p with
  | some k => if 8 ≤ tb.1.length then (p, K, nu, tb, 2) else (tNx T n p, (22, 0) :: (22, 0) :: (22, 1) :: (26, 0) :: (21, 0) :: (20, 0) :: K, [(k : Int)], tb, 0)
  | none => if tW T n p 5 = true then (if 16 ≤ tb.2.1.length then (p, K, nu, tb, 2) else (tNx T n p, (23, 0) :: (24, 0) :: (28, 0) :: (21, 0) :: (20, 0) :: K, [], tb, 0))
    else if tW T n p 6 = true then (if 6 ≤ tb.2.2.2.1.length then (p, K, nu, tb, 2) else (tNx T n p, (22, 3) :: (22, 0) :: (27, 0) :: (21, 0) :: (20, 0) :: K, [], tb, 0))
    else if tW T n p 7 = true then (if 8 ≤ tb.2.2.2.2.1.length then (p, K, nu, tb, 2) else (tNx T n p, (23, 0) :: (25, 0) :: (21, 0) :: (20, 0) :: K, [], tb, 0))
    else if tW T n p 8 = true then (if tb.2.2.2.2.2 = true then (p, K, nu, tb, 5) else (tNx T n p, (0, 0) :: (21, 0) :: (20, 0) :: K, nu, (tb.1, tb.2.1, tb.2.2.1, tb.2.2.2.1, tb.2.2.2.2.1, true), 0))
    else (p, K, nu, tb, 1)
/-- what stands on top is read: (kind, depth) -/
def tSy (T : Nat → Int) (n p : Nat) (y : Nat × Nat) (K : List (Nat × Nat)) (nu : List Int) (tb : tTb) : tCf := match y with
  | (0, d) => if 6 ≤ d then (p, K, nu, tb, if tPs T n p = true then 2 else 1) else (p, (2, d) :: (1, d) :: K, nu, tb, 0)
  | (1, d) => if tW T n p 9 = true then (tNx T n p, (2, d) :: (1, d) :: K, nu, tb, 0) else (p, K, nu, tb, 0)
  | (2, d) => (p, (4, d) :: (3, d) :: K, nu, tb, 0)
  | (3, d) => if tW T n p 10 = true then (tNx T n p, (4, d) :: (3, d) :: K, nu, tb, 0) else (p, K, nu, tb, 0)
  | (4, d) => if tW T n p 11 = true then (if 48 ≤ d then (p, K, nu, tb, 2) else (tNx T n p, (4, d + 8) :: K, nu, tb, 0)) else (p, (12, d % 8) :: (11, d % 8) :: K, nu, tb, 0)
  | (11, d) => if (tS T n p 60 || tS T n p 61) = true then (tNx T n p, (12, d) :: K, nu, tb, 0) else (p, K, nu, tb, 0)
  | (12, d) => (p, (14, d) :: (13, d) :: K, nu, tb, 0)
  | (13, d) => if (tS T n p 43 || tS T n p 45) = true then (tNx T n p, (14, d) :: (13, d) :: K, nu, tb, 0) else (p, K, nu, tb, 0)
  | (14, d) => (p, (16, d) :: (15, d) :: K, nu, tb, 0)
  | (15, d) => if (tS T n p 42 || tS T n p 47) = true then (tNx T n p, (16, d) :: (15, d) :: K, nu, tb, 0) else (p, K, nu, tb, 0)
  | (16, d) => if (tK T n p).1 = 2 then (if 4 < (tK T n p).2 - p then (p, K, nu, tb, 2) else (tNx T n p, K, nu, tb, 0)) else if (tK T n p).1 = 1 then (if tVl T n p = true then (tNx T n p, K, nu, tb, 0) else (p, K, nu, tb, 3)) else if tS T n p 40 = true then (tNx T n p, (0, d + 1) :: (17, 0) :: K, nu, tb, 0) else (p, K, nu, tb, 1)
  | (17, _) => if tS T n p 41 = true then (tNx T n p, K, nu, tb, 0) else (p, K, nu, tb, 1)
  | (20, _) => tPg T n p K nu tb
  | (21, _) => if tS T n p 59 = true then (tNx T n p, K, nu, tb, 0) else (p, K, nu, tb, 1)
  | (22, r) => if tNum T n p (tBd r).1 (tBd r).2 = 0 then (tNx T n p, K, nu ++ [tNv T n p], tb, 0) else (p, K, nu, tb, tNum T n p (tBd r).1 (tBd r).2)
  | (23, _) => if tAg T n p tb.1.length = 0 then (tNx T n p, K, nu ++ [tNv T n p], tb, 0) else (p, K, nu, tb, tAg T n p tb.1.length)
  | (24, _) => if tAg T n p tb.1.length = 0 then (if (decide (nu.getD 0 0 = tNv T n p) || tHl tb.2.1 (nu.getD 0 0) (tNv T n p)) = true then (p, K, nu, tb, 4) else (tNx T n p, K, [], (tb.1, tb.2.1 ++ [(nu.getD 0 0, tNv T n p)], tb.2.2), 0)) else (p, K, nu, tb, tAg T n p tb.1.length)
  | (25, _) => if tAg T n p tb.1.length = 0 then (if (decide (nu.getD 0 0 = tNv T n p) || tHg tb.2.2.2.2.1 (nu.getD 0 0) (tNv T n p)) = true then (p, K, nu, tb, 4) else (tNx T n p, K, [], (tb.1, tb.2.1, tb.2.2.1, tb.2.2.2.1, tb.2.2.2.2.1 ++ [(nu.getD 0 0, tNv T n p)], tb.2.2.2.2.2), 0)) else (p, K, nu, tb, tAg T n p tb.1.length)
  | (26, _) => (p, K, [], (tb.1 ++ [(nu.getD 0 0, nu.getD 1 0, nu.getD 2 0, nu.getD 3 0)], tb.2), 0)
  | (27, _) => if tAg T n p tb.1.length = 0 then (tNx T n p, K, [], (tb.1, tb.2.1, tb.2.2.1, tb.2.2.2.1 ++ [(nu.getD 0 0, nu.getD 1 0, tNv T n p)], tb.2.2.2.2), 0) else (p, K, nu, tb, tAg T n p tb.1.length)
  | (28, _) => if tNum T n p 1 9 = 0 then (tNx T n p, K, [], (tb.1, tb.2.1, tb.2.2.1 ++ [tNv T n p], tb.2.2.2), 0) else (p, K, nu, tb, tNum T n p 1 9)
  | (_, _) => (p, K, nu, tb, 9)
def tSt (T : Nat → Int) (n : Nat) (c : tCf) : Option tCf := match c with
  | (p, y :: K, nu, tb, 0) => some (tSy T n p y K nu tb)
  | _ => none
def tIt (T : Nat → Int) (n : Nat) : Nat → tCf → Option tCf
  | 0, c => some c
  | k + 1, c => match tSt T n c with
    | some c' => tIt T n k c'
    | none => none
def tRe (T : Nat → Int) (n : Nat) (c c' : tCf) : Prop := ∃ k, tIt T n k c = some c'
theorem tIt_add {T : Nat → Int} {n : Nat} : ∀ (k j : Nat) (c a : tCf), tIt T n k c = some a → tIt T n (k + j) c = tIt T n j a
  | 0, j, c, a, h => by
    cases h
    rw [Nat.zero_add]
  | k + 1, j, c, a, h => by
    rw [show k + 1 + j = (k + j) + 1 by omega]
    simp only [tIt] at h ⊢
    cases e : tSt T n c with
    | none => rw [e] at h; cases h
    | some c' =>
      rw [e] at h
      exact tIt_add k j c' a h
theorem tRe_rfl {T : Nat → Int} {n : Nat} {c : tCf} : tRe T n c c := ⟨0, rfl⟩
theorem tRe_trans {T : Nat → Int} {n : Nat} {a b c : tCf} (h1 : tRe T n a b) (h2 : tRe T n b c) : tRe T n a c := by
  obtain ⟨k, hk⟩ := h1
  obtain ⟨j, hj⟩ := h2
  exact ⟨k + j, by rw [tIt_add k j a b hk]; exact hj⟩
theorem tRe_one {T : Nat → Int} {n : Nat} {a b : tCf} (h : tSt T n a = some b) : tRe T n a b := ⟨1, by simp only [tIt, h]⟩
/-- of two ways from one place the one goes on to the other -/
theorem tRe_cmp {T : Nat → Int} {n : Nat} {a b c : tCf} (h1 : tRe T n a b) (h2 : tRe T n a c) : tRe T n b c ∨ tRe T n c b := by
  obtain ⟨k, hk⟩ := h1
  obtain ⟨j, hj⟩ := h2
  rcases Nat.le_total k j with h | h
  · left
    refine ⟨j - k, ?_⟩
    have := tIt_add k (j - k) a b hk
    rw [show k + (j - k) = j by omega, hj] at this
    exact this.symm
  · right
    refine ⟨k - j, ?_⟩
    have := tIt_add j (k - j) a c hj
    rw [show j + (k - j) = k by omega, hk] at this
    exact this.symm
theorem tRe_end {T : Nat → Int} {n : Nat} {a b : tCf} (h : tRe T n a b) (he : tSt T n a = none) : b = a := by
  obtain ⟨k, hk⟩ := h
  cases k with
  | zero => exact (Option.some.inj hk).symm
  | succ k =>
    simp only [tIt, he] at hk
    cases hk
/-- two ends of one way are one -/
theorem tRe_uniq {T : Nat → Int} {n : Nat} {a b c : tCf} (h1 : tRe T n a b) (h2 : tRe T n a c) (e1 : tSt T n b = none) (e2 : tSt T n c = none) : b = c := by
  rcases tRe_cmp h1 h2 with h | h
  · exact (tRe_end h e1).symm
  · exact tRe_end h e2
end
