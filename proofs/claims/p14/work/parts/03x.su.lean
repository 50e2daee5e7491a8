noncomputable section
/-! ===== the ghost text: what lies behind the script; what is said of it by numbers ===== -/
def gT (L : Nat) (sc : Nat → Int32) (j : Nat) : Int := if j < 700 then (sc (L + j)).toInt % 256 else 0
def gN (L : Nat) (sc : Nat → Int32) : Nat := (sc (L + 700)).toInt.toNat
def gSg (z : Int) : Int := if z < 128 then z else z - 256
theorem gT_rng (L : Nat) (sc : Nat → Int32) (j : Nat) : 0 ≤ gT L sc j ∧ gT L sc j < 256 := by
  unfold gT
  split
  · exact ⟨Int.emod_nonneg _ (by decide), Int.emod_lt_of_pos _ (by decide)⟩
  · exact ⟨Int.le_refl _, by decide⟩
/-- 7 and, 8 or, 9 exclusive or, 10 and 11 shifts, 12 with the bit n turned -/
def gBo (o : Nat) (m n : Int) : Int := match o with
  | 7 => (Int32.ofInt m &&& Int32.ofInt n).toInt
  | 8 => (Int32.ofInt m ||| Int32.ofInt n).toInt
  | 9 => (Int32.ofInt m ^^^ Int32.ofInt n).toInt
  | 10 => (Int32.ofInt m <<< (Int32.ofInt n &&& 31)).toInt
  | 11 => (Int32.ofInt m >>> (Int32.ofInt n &&& 31)).toInt
  | _ => (Int32.ofInt m ^^^ (Int32.ofInt 1 <<< (Int32.ofInt n &&& 31))).toInt
def gBit (v j : Int) : Int := gBo 7 (gBo 11 v j) 1
/-- the bits of v are the entries of a table below m, the rest of eight is 0 -/
def tBt (T : Nat → Int) (n id : Nat) (v : Int) (m : Nat) : Prop := (∀ j : Nat, j < m → tRow T n id j (gBit v (j : Int))) ∧ ∀ j : Nat, m ≤ j → j < 8 → gBit v (j : Int) = 0
/-- a byte as a row holds it: 0 from 0 to 255, else signed -/
def gB (w : Nat) (z : Int) : Int := if w = 0 then z else gSg z
theorem gB_class {w c : Nat} {z : Int} (h0 : 0 ≤ z) (h1 : z < 256) : tC c (gB w z) = tC c z := by
  unfold gB gSg
  split
  · rfl
  · split
    · rfl
    · unfold tC
      split
      · rw [decide_eq_false (by omega), decide_eq_false (by omega), decide_eq_false (by omega), decide_eq_false (by omega)]
      · rw [decide_eq_false (p := 97 ≤ z - 256) (by omega), decide_eq_false (p := z ≤ 122) (by omega)]
        simp
      · rw [decide_eq_false (p := 48 ≤ z - 256) (by omega), decide_eq_false (p := z ≤ 57) (by omega)]
        simp
theorem gB_low {w : Nat} {z : Int} {v : Int} (h0 : 0 ≤ z) (h1 : z < 256) (hv0 : 0 ≤ v) (hv : v < 128) : gB w z = v ↔ z = v := by
  unfold gB gSg
  split
  · exact Iff.rfl
  · split <;> omega
/-- the statements of kind 60: n; a byte; a run; a token; where the next begins; digits; words; signs; ways; places; ends; entries; none twice; the next token; a number -/
def tDe : List Nat → List (Nat × Nat)
  | a :: b :: t => (a, b) :: tDe t
  | _ => []
/-- bounds of a number: those of the grammar, and any of four digits -/
def gBd (r : Nat) : Int × Int := match r with
  | 4 => (0, 9999)
  | r => tBd r
def gQ1 (L : Nat) (sc : Nat → Int32) (ps : List Nat) (zs : List Int) : Prop := match ps, zs with
  | [0], [z] => 0 ≤ z ∧ z.toNat = gN L sc
  | [1, w], [x, y] => 0 ≤ x ∧ gB w (gT L sc x.toNat) = y
  | [2, c], [a, b] => 0 ≤ a ∧ a ≤ b ∧ ∀ j : Nat, a.toNat ≤ j → j < b.toNat → tC c (gT L sc j) = true
  | [3], [s, e, t] => 0 ≤ s ∧ s ≤ e ∧ 0 ≤ t ∧ tK (gT L sc) (gN L sc) s.toNat = (t.toNat, e.toNat)
  | [4], [e, s] => 0 ≤ e ∧ 0 ≤ s ∧ tE (gT L sc) (gN L sc) 0 e.toNat = s.toNat
  | [5], [s, e, v] => 0 ≤ s ∧ s ≤ e ∧ tV (gT L sc) s.toNat (e - s).toNat = v
  | [6, w], [s] => 0 ≤ s ∧ tW (gT L sc) (gN L sc) s.toNat w = true
  | [7, w], [s] => 0 ≤ s ∧ tW (gT L sc) (gN L sc) s.toNat w = false
  | [8, c], [s] => 0 ≤ s ∧ tS (gT L sc) (gN L sc) s.toNat c = true
  | [9, c], [s] => 0 ≤ s ∧ tS (gT L sc) (gN L sc) s.toNat c = false
  | 10 :: k :: ss, [p0, p] => 0 ≤ p0 ∧ 0 ≤ p ∧ tD (gT L sc) (gN L sc) p0.toNat (tDe (ss.take k)) p.toNat (tDe (ss.drop k))
  | 11 :: ss, [p0, cd, pl] => 0 ≤ p0 ∧ 0 ≤ cd ∧ 0 ≤ pl ∧ tDB (gT L sc) (gN L sc) p0.toNat (tDe ss) cd.toNat pl.toNat
  | 12 :: ru :: st, p :: a :: b :: d :: se :: gr :: nu => 0 ≤ p ∧ 0 ≤ a ∧ 0 ≤ b ∧ 0 ≤ d ∧ 0 ≤ se ∧ 0 ≤ gr ∧ tG (gT L sc) (gN L sc) p.toNat (tDe st) nu [a.toNat, b.toNat, d.toNat, se.toNat, gr.toNat, ru]
  | [13], [cd, pl] => tEnd (gT L sc) (gN L sc) cd pl
  | [14, id], [j, v] => 0 ≤ j ∧ tRow (gT L sc) (gN L sc) id j.toNat v
  | [15, 0], [i, a, b] => 0 ≤ i ∧ tNl (gT L sc) (gN L sc) i.toNat a b
  | [15, 1], [i, a, b] => 0 ≤ i ∧ tNg (gT L sc) (gN L sc) i.toNat a b
  | [16], [p, q] => 0 ≤ p ∧ 0 ≤ q ∧ tNx (gT L sc) (gN L sc) p.toNat = q.toNat
  | [17], [p, v] => 0 ≤ p ∧ tNo (gT L sc) (gN L sc) p.toNat v
  | [18], [z] => z.toNat = gN L sc
  | [19], [s, e, t, v] => 0 ≤ s ∧ (t = 2 → s ≤ e ∧ (e ≤ s + 4 → tV (gT L sc) s.toNat (e - s).toNat = v))
  | [20, s], [x, a] => 0 ≤ x ∧ gT L sc x.toNat = (a / 2 ^ s) % 256
  | [21, r], [p, cd] => 0 ≤ p ∧ 0 ≤ cd ∧ tNum (gT L sc) (gN L sc) p.toNat (gBd r).1 (gBd r).2 = cd.toNat
  | [22], [p, a, cd] => 0 ≤ p ∧ 0 ≤ a ∧ 0 ≤ cd ∧ tAg (gT L sc) (gN L sc) p.toNat a.toNat = cd.toNat
  | [24, 0], [m, x, y] => x = y ∨ ∃ i : Nat, (i : Int) < m ∧ tRow (gT L sc) (gN L sc) 0 i x ∧ tRow (gT L sc) (gN L sc) 1 i y
  | [24, 1], [m, x, y] => x = y ∨ ∃ i : Nat, (i : Int) < m ∧ ((tRow (gT L sc) (gN L sc) 2 i x ∧ tRow (gT L sc) (gN L sc) 3 i y) ∨ (tRow (gT L sc) (gN L sc) 2 i y ∧ tRow (gT L sc) (gN L sc) 3 i x))
  | [26, id], [v, m] => 0 ≤ m ∧ m ≤ 8 ∧ tBt (gT L sc) (gN L sc) id v m.toNat
  | _, _ => False
section RU
variable {L : Nat} {sc : Nat → Int32}
/-! ### runs and tokens -/
theorem q_run0 {c : Nat} {a : Int} (h : 0 ≤ a) : gQ1 L sc [2, c] [a, a] := ⟨h, Int.le_refl _, fun j h1 h2 => by omega⟩
theorem q_run1 {c w : Nat} {a b y : Int} (h : gQ1 L sc [2, c] [a, b]) (hy : gQ1 L sc [1, w] [b, y]) (hc : tC c y = true) : gQ1 L sc [2, c] [a, b + 1] := by
  obtain ⟨h1, h2, h3⟩ := h
  obtain ⟨h4, h5⟩ := hy
  refine ⟨h1, by omega, fun j q1 q2 => ?_⟩
  by_cases e : j = b.toNat
  · subst e
    have := gT_rng L sc b.toNat
    rw [← gB_class (w := w) this.1 this.2, h5]
    exact hc
  · exact h3 j q1 (by omega)
theorem q_byteC {w c : Nat} {x y : Int} (hy : gQ1 L sc [1, w] [x, y]) : tC c (gT L sc x.toNat) = tC c y := by
  have := gT_rng L sc x.toNat
  rw [← gB_class (w := w) this.1 this.2, hy.2]
/-- a run that ends: behind it the text ends, or another byte stands -/
theorem q_stop {c : Nat} {a b n : Int} (hn : gQ1 L sc [0] [n]) (h : gQ1 L sc [2, c] [a, b]) (hb : b ≤ n) (he : n ≤ b ∨ tC c (gT L sc b.toNat) = false) : tE (gT L sc) (gN L sc) c a.toNat = b.toNat := by
  obtain ⟨h1, h2, h3⟩ := h
  obtain ⟨h4, h5⟩ := hn
  rw [← h5]
  refine tE_of (by omega) (by omega) h3 ?_
  rcases he with he | he
  · exact Or.inl (by omega)
  · exact Or.inr he
theorem q_nxt {a b n : Int} (hn : gQ1 L sc [0] [n]) (h : gQ1 L sc [2, 0] [a, b]) (hb : b ≤ n) (he : n ≤ b ∨ tC 0 (gT L sc b.toNat) = false) : gQ1 L sc [4] [a, b] := ⟨h.1, by have := h.1; have := h.2.1; omega, q_stop hn h hb he⟩
theorem q_tok0 {s n : Int} (hn : gQ1 L sc [0] [n]) (hs : n ≤ s) : gQ1 L sc [3] [s, s, 0] := by
  obtain ⟨h4, h5⟩ := hn
  refine ⟨by omega, Int.le_refl _, Int.le_refl _, ?_⟩
  unfold tK
  rw [if_pos (by omega)]
  rfl
theorem q_tok12 {c : Nat} (hc12 : c = 1 ∨ c = 2) {s e n : Int} (hn : gQ1 L sc [0] [n]) (h : gQ1 L sc [2, c] [s, e]) (hse : s < e) (hb : e ≤ n) (he : n ≤ e ∨ tC c (gT L sc e.toNat) = false) : gQ1 L sc [3] [s, e, (c : Int)] := by
  have hE := q_stop hn h hb he
  obtain ⟨h1, h2, h3⟩ := h
  obtain ⟨h4, h5⟩ := hn
  refine ⟨h1, by omega, by omega, ?_⟩
  have hf := h3 s.toNat (Nat.le_refl _) (by omega)
  unfold tK
  rw [if_neg (by omega)]
  rcases hc12 with rfl | rfl
  · rw [if_pos hf, hE]
    rfl
  · have : tC 1 (gT L sc s.toNat) = false := by
      simp only [tC, Bool.and_eq_true, decide_eq_true_eq] at hf
      simp only [tC, Bool.and_eq_false_iff, decide_eq_false_iff_not]
      omega
    rw [if_neg (by rw [this]; decide), if_pos hf, hE]
    rfl
theorem q_tok34 {s n : Int} {w : Nat} {y : Int} (hn : gQ1 L sc [0] [n]) (hs : s < n) (hy : gQ1 L sc [1, w] [s, y]) (h1 : tC 1 y = false) (h2 : tC 2 y = false) : gQ1 L sc [3] [s, s + 1, if tMk (gT L sc s.toNat) = true then 3 else 4] := by
  obtain ⟨h4, h5⟩ := hn
  have h0 := hy.1
  refine ⟨h0, by omega, by split <;> decide, ?_⟩
  unfold tK
  rw [if_neg (by omega), q_byteC hy, h1, if_neg (by decide), q_byteC hy, h2, if_neg (by decide)]
  rw [show (s + 1).toNat = s.toNat + 1 by omega]
  split <;> rfl
theorem gB_mark {w : Nat} {z : Int} (h0 : 0 ≤ z) (h1 : z < 256) : tMk (gB w z) = tMk z := by
  unfold gB gSg
  split
  · rfl
  · split
    · rfl
    · unfold tMk
      rw [decide_eq_false (p := z = 59) (by omega), decide_eq_false (p := z = 40) (by omega), decide_eq_false (p := z = 41) (by omega), decide_eq_false (p := z = 43) (by omega), decide_eq_false (p := z = 45) (by omega), decide_eq_false (p := z = 42) (by omega), decide_eq_false (p := z = 47) (by omega), decide_eq_false (p := z = 60) (by omega), decide_eq_false (p := z = 61) (by omega)]
      rw [decide_eq_false (by omega), decide_eq_false (by omega), decide_eq_false (by omega), decide_eq_false (by omega), decide_eq_false (by omega), decide_eq_false (by omega), decide_eq_false (by omega), decide_eq_false (by omega), decide_eq_false (by omega)]
theorem q_tok3 {s n : Int} {w : Nat} {y : Int} (hn : gQ1 L sc [0] [n]) (hs : s < n) (hy : gQ1 L sc [1, w] [s, y]) (h1 : tC 1 y = false) (h2 : tC 2 y = false) (hm : tMk y = true) : gQ1 L sc [3] [s, s + 1, 3] := by
  have h := q_tok34 hn hs hy h1 h2
  have := gT_rng L sc s.toNat
  rw [← gB_mark (w := w) this.1 this.2, hy.2, hm, if_pos rfl] at h
  exact h
theorem q_tok4 {s n : Int} {w : Nat} {y : Int} (hn : gQ1 L sc [0] [n]) (hs : s < n) (hy : gQ1 L sc [1, w] [s, y]) (h1 : tC 1 y = false) (h2 : tC 2 y = false) (hm : tMk y = false) : gQ1 L sc [3] [s, s + 1, 4] := by
  have h := q_tok34 hn hs hy h1 h2
  have := gT_rng L sc s.toNat
  rw [← gB_mark (w := w) this.1 this.2, hy.2, hm, if_neg (by decide)] at h
  exact h
theorem q_nx {p e t q : Int} (h : gQ1 L sc [3] [p, e, t]) (h2 : gQ1 L sc [4] [e, q]) : gQ1 L sc [16] [p, q] := by
  obtain ⟨a, b, c, d⟩ := h
  obtain ⟨e1, e2, e3⟩ := h2
  refine ⟨a, e2, ?_⟩
  unfold tNx
  rw [d]
  exact e3
/-! ### numbers -/
theorem q_val0 {s : Int} (h : 0 ≤ s) : gQ1 L sc [5] [s, s, 0] := ⟨h, Int.le_refl _, by rw [Int.sub_self]; rfl⟩
theorem q_val1 {w : Nat} {s e v y z : Int} (h : gQ1 L sc [5] [s, e, v]) (hy : gQ1 L sc [1, w] [e, y]) (hd : tC 2 y = true) (hz : z = 10 * v + y - 48) : gQ1 L sc [5] [s, e + 1, z] := by
  obtain ⟨a, b, c⟩ := h
  obtain ⟨d1, d2⟩ := hy
  refine ⟨a, by omega, ?_⟩
  rw [show (e + 1 - s).toNat = (e - s).toNat + 1 by omega]
  simp only [tV]
  rw [c, show s.toNat + (e - s).toNat = e.toNat by omega]
  have hg : gT L sc e.toNat = y := by
    have hr := gT_rng L sc e.toNat
    simp only [tC, Bool.and_eq_true, decide_eq_true_eq] at hd
    exact (gB_low (w := w) hr.1 hr.2 (by omega) (by omega)).mp d2
  rw [hg]
  omega
theorem q_num {s e v : Int} (h : gQ1 L sc [3] [s, e, 2]) (hv : gQ1 L sc [5] [s, e, v]) (hl : e - s ≤ 4) : gQ1 L sc [17] [s, v] := by
  obtain ⟨a, b, c, d⟩ := h
  obtain ⟨v1, v2, v3⟩ := hv
  refine ⟨a, ?_, ?_, ?_⟩
  · rw [d]; rfl
  · rw [d]; simp only; omega
  · unfold tNv
    rw [d]
    simp only
    rw [show e.toNat - s.toNat = (e - s).toNat by omega]
    exact v3.symm
end RU
end
