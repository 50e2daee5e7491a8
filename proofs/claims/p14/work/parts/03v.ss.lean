noncomputable section
/-! ===== steps of statements ===== -/
/-- two words that stand at one place are one -/
theorem tWd_ne : ∀ a, a < 20 → ∀ b, b < 20 → a ≠ b → tWd a ≠ tWd b := by decide +kernel
theorem tW_ne {T : Nat → Int} {n p a b : Nat} (ha : a < 20) (hb : b < 20) (hab : a ≠ b) (h : tW T n p a = true) : tW T n p b = false := by
  cases e : tW T n p b with
  | false => rfl
  | true =>
    exfalso
    obtain ⟨k1, b1⟩ := tW_iff.mp h
    obtain ⟨k2, b2⟩ := tW_iff.mp e
    have hl : (tWd a).length = (tWd b).length := by
      rw [k1] at k2
      injection k2 with _ q
      omega
    refine tWd_ne a ha b hb hab (List.ext_getElem hl (fun i h1 h2 => ?_))
    have q1 := b1 i h1
    have q2 := b2 i h2
    rw [q1] at q2
    have q3 : (tWd a).getD i 0 = (tWd b).getD i 0 := by exact_mod_cast q2
    simpa only [List.getD, List.getElem?_eq_getElem h1, List.getElem?_eq_getElem h2, Option.getD_some] using q3
theorem tR_in {T : Nat → Int} {c : Nat} : ∀ (f s j : Nat), s ≤ j → j < tR T c f s → tC c (T j) = true
  | 0, s, j, h1, h2 => by simp only [tR] at h2; omega
  | f + 1, s, j, h1, h2 => by
    simp only [tR] at h2
    split at h2
    · rename_i hc
      by_cases e : s = j
      · subst e; exact hc
      · exact tR_in f (s + 1) j (by omega) h2
    · omega
theorem tV_bound {T : Nat → Int} {s : Nat} : ∀ k, (∀ i, i < k → tC 2 (T (s + i)) = true) → 0 ≤ tV T s k ∧ tV T s k < (10 : Int) ^ k
  | 0, _ => by simp [tV]
  | k + 1, h => by
    obtain ⟨a, b⟩ := tV_bound k (fun i hi => h i (by omega))
    have hc := h k (by omega)
    simp only [tC, Bool.and_eq_true, decide_eq_true_eq] at hc
    simp only [tV, Int.pow_succ]
    omega
/-- a number of at most four digits stands at p, and is v -/
def tNo (T : Nat → Int) (n p : Nat) (v : Int) : Prop := (tK T n p).1 = 2 ∧ (tK T n p).2 - p ≤ 4 ∧ v = tNv T n p
theorem tNo_bound {T : Nat → Int} {n p : Nat} {v : Int} (h : tNo T n p v) : 0 ≤ v ∧ v ≤ 9999 := by
  obtain ⟨h1, h2, rfl⟩ := h
  unfold tNv
  have hin : ∀ i, i < (tK T n p).2 - p → tC 2 (T (p + i)) = true := by
    intro i hi
    unfold tK at h1 hi
    split at h1
    · cases h1
    · split at h1
      · cases h1
      · split at h1
        · rename_i a b c
          rw [if_neg a, if_neg b, if_pos c] at hi
          exact tR_in (n - p) p (p + i) (by omega) (by simp only [tE] at hi; omega)
        · split at h1 <;> cases h1
  obtain ⟨a, b⟩ := tV_bound _ hin
  refine ⟨a, ?_⟩
  have : (10 : Int) ^ ((tK T n p).2 - p) ≤ 10 ^ 4 := by
    rcases (by omega : (tK T n p).2 - p = 0 ∨ (tK T n p).2 - p = 1 ∨ (tK T n p).2 - p = 2 ∨ (tK T n p).2 - p = 3 ∨ (tK T n p).2 - p = 4) with q | q | q | q | q <;> rw [q] <;> decide
  omega
theorem tNum_ok {T : Nat → Int} {n p : Nat} {v lo hi : Int} (h : tNo T n p v) (h1 : lo ≤ v) (h2 : v ≤ hi) : tNum T n p lo hi = 0 := by
  obtain ⟨a, b, rfl⟩ := h
  unfold tNv at h1 h2
  unfold tNum
  rw [if_pos a, if_neg (by omega), if_pos ⟨h1, h2⟩]
theorem tNum_out {T : Nat → Int} {n p : Nat} {v lo hi : Int} (h : tNo T n p v) (h1 : v < lo ∨ hi < v) : tNum T n p lo hi = 2 := by
  obtain ⟨a, b, rfl⟩ := h
  unfold tNv at h1
  unfold tNum
  rw [if_pos a, if_neg (by omega), if_neg (fun q => by omega)]
theorem tNum_long {T : Nat → Int} {n p : Nat} {lo hi : Int} (h : (tK T n p).1 = 2) (h1 : 4 < (tK T n p).2 - p) : tNum T n p lo hi = 2 := by
  unfold tNum
  rw [if_pos h, if_pos h1]
theorem tNum_no {T : Nat → Int} {n p : Nat} {lo hi : Int} (h : (tK T n p).1 ≠ 2) : tNum T n p lo hi = 1 := by
  unfold tNum
  rw [if_neg h]
theorem tAg_ok {T : Nat → Int} {n p ag : Nat} {v : Int} (h : tNo T n p v) (h1 : v < (ag : Int)) : tAg T n p ag = 0 := by
  have hb := tNo_bound h
  unfold tAg
  rw [if_pos (tNum_ok h hb.1 hb.2), if_pos (by rw [← h.2.2]; exact h1)]
theorem tAg_out {T : Nat → Int} {n p ag : Nat} {v : Int} (h : tNo T n p v) (h1 : (ag : Int) ≤ v) : tAg T n p ag = 3 := by
  have hb := tNo_bound h
  unfold tAg
  rw [if_pos (tNum_ok h hb.1 hb.2), if_neg (by rw [← h.2.2]; omega)]
theorem tAg_long {T : Nat → Int} {n p ag : Nat} (h : (tK T n p).1 = 2) (h1 : 4 < (tK T n p).2 - p) : tAg T n p ag = 2 := by
  unfold tAg
  rw [tNum_long h h1, if_neg (by decide)]
theorem tAg_no {T : Nat → Int} {n p ag : Nat} (h : (tK T n p).1 ≠ 2) : tAg T n p ag = 1 := by
  unfold tAg
  rw [tNum_no h, if_neg (by decide)]
/-- where a number must stand: 22 within bounds, 28 days, 23, 24, 25, 27 an agent's -/
def tIsA (k : Nat) : Bool := decide (k = 23) || (decide (k = 24) || (decide (k = 25) || decide (k = 27)))
def tIsN (k : Nat) : Bool := decide (k = 22) || (decide (k = 28) || tIsA k)
theorem tIsA_c {k : Nat} (h : tIsA k = true) : k = 23 ∨ k = 24 ∨ k = 25 ∨ k = 27 := by
  simp only [tIsA, Bool.or_eq_true, decide_eq_true_eq] at h
  exact h
theorem tIsN_c {k : Nat} (h : tIsN k = true) : k = 22 ∨ k = 28 ∨ k = 23 ∨ k = 24 ∨ k = 25 ∨ k = 27 := by
  simp only [tIsN, tIsA, Bool.or_eq_true, decide_eq_true_eq] at h
  exact h
theorem tN_bad {T : Nat → Int} {n p k r : Nat} {K : List (Nat × Nat)} {nu : List Int} {ct : List Nat} (hk : tIsN k = true) (h : tG T n p ((k, r) :: K) nu ct) (hb : (tK T n p).1 ≠ 2) : tF T n 1 p := by
  obtain ⟨tb, re, -⟩ := h
  have e : tSy T n p (k, r) K nu tb = (p, K, nu, tb, 1) := by
    rcases tIsN_c hk with rfl | rfl | rfl | rfl | rfl | rfl <;> simp [tSy, tNum_no hb, tAg_no hb]
  exact tF_of (by decide) (tGs re e)
theorem tN_long {T : Nat → Int} {n p k r : Nat} {K : List (Nat × Nat)} {nu : List Int} {ct : List Nat} (hk : tIsN k = true) (h : tG T n p ((k, r) :: K) nu ct) (hb : (tK T n p).1 = 2) (hl : 4 < (tK T n p).2 - p) : tF T n 2 p := by
  obtain ⟨tb, re, -⟩ := h
  have e : tSy T n p (k, r) K nu tb = (p, K, nu, tb, 2) := by
    rcases tIsN_c hk with rfl | rfl | rfl | rfl | rfl | rfl <;> simp [tSy, tNum_long hb hl, tAg_long hb hl]
  exact tF_of (by decide) (tGs re e)
theorem tA_out {T : Nat → Int} {n p k r : Nat} {K : List (Nat × Nat)} {nu : List Int} {ag : Nat} {ct : List Nat} {v : Int} (hk : tIsA k = true) (h : tG T n p ((k, r) :: K) nu (ag :: ct)) (hv : tNo T n p v) (hb : (ag : Int) ≤ v) : tF T n 3 p := by
  obtain ⟨tb, re, hc⟩ := h
  have ha : tb.1.length = ag := by injection hc
  have q := tAg_out hv hb
  rw [← ha] at q
  have e : tSy T n p (k, r) K nu tb = (p, K, nu, tb, 3) := by
    rcases tIsA_c hk with rfl | rfl | rfl | rfl <;> simp [tSy, q]
  exact tF_of (by decide) (tGs re e)
theorem tN_out {T : Nat → Int} {n p r : Nat} {K : List (Nat × Nat)} {nu : List Int} {ct : List Nat} {v : Int} (h : tG T n p ((22, r) :: K) nu ct) (hv : tNo T n p v) (hb : v < (tBd r).1 ∨ (tBd r).2 < v) : tF T n 2 p := by
  obtain ⟨tb, re, -⟩ := h
  have e : tSy T n p (22, r) K nu tb = (p, K, nu, tb, 2) := by simp [tSy, tNum_out hv hb]
  exact tF_of (by decide) (tGs re e)
theorem tN_ok {T : Nat → Int} {n p r : Nat} {K : List (Nat × Nat)} {nu : List Int} {ct : List Nat} {v : Int} (h : tG T n p ((22, r) :: K) nu ct) (hv : tNo T n p v) (h1 : (tBd r).1 ≤ v) (h2 : v ≤ (tBd r).2) : tG T n (tNx T n p) K (nu ++ [v]) ct := by
  obtain ⟨tb, re, hc⟩ := h
  have e : tSy T n p (22, r) K nu tb = (tNx T n p, K, nu ++ [v], tb, 0) := by
    rw [hv.2.2] at h1 h2 ⊢
    simp [tSy, tNum_ok ⟨hv.1, hv.2.1, rfl⟩ h1 h2]
  exact ⟨tb, tGs re e, hc⟩
theorem tD_out {T : Nat → Int} {n p r : Nat} {K : List (Nat × Nat)} {nu : List Int} {ct : List Nat} {v : Int} (h : tG T n p ((28, r) :: K) nu ct) (hv : tNo T n p v) (hb : v < 1 ∨ 9 < v) : tF T n 2 p := by
  obtain ⟨tb, re, -⟩ := h
  have e : tSy T n p (28, r) K nu tb = (p, K, nu, tb, 2) := by simp [tSy, tNum_out hv hb]
  exact tF_of (by decide) (tGs re e)
theorem tD_ok {T : Nat → Int} {n p r : Nat} {K : List (Nat × Nat)} {nu : List Int} {a b d se gr ru : Nat} {v : Int} (h : tG T n p ((28, r) :: K) nu [a, b, d, se, gr, ru]) (hv : tNo T n p v) (h1 : 1 ≤ v) (h2 : v ≤ 9) : tG T n (tNx T n p) K [] [a, b, d + 1, se, gr, ru] ∧ tRow T n 4 d v := by
  obtain ⟨tb, re, hc⟩ := h
  have e : tSy T n p (28, r) K nu tb = (tNx T n p, K, [], (tb.1, tb.2.1, tb.2.2.1 ++ [v], tb.2.2.2), 0) := by
    rw [hv.2.2] at h1 h2 ⊢
    simp [tSy, tNum_ok ⟨hv.1, hv.2.1, rfl⟩ h1 h2]
  have re' := tGs re e
  simp only [tCt, List.cons.injEq, and_true] at hc
  obtain ⟨c1, c2, c3, c4, c5, c6⟩ := hc
  refine ⟨⟨_, re', ?_⟩, ⟨_, re', ?_⟩⟩
  · simp [tCt, c1, c2, c3, c4, c5, c6]
  · simp [tCol, ← c3]
theorem tA_ok {T : Nat → Int} {n p r : Nat} {K : List (Nat × Nat)} {nu : List Int} {ag : Nat} {ct : List Nat} {v : Int} (h : tG T n p ((23, r) :: K) nu (ag :: ct)) (hv : tNo T n p v) (h1 : v < (ag : Int)) : tG T n (tNx T n p) K (nu ++ [v]) (ag :: ct) := by
  obtain ⟨tb, re, hc⟩ := h
  have ha : tb.1.length = ag := by injection hc
  have q := tAg_ok hv h1
  rw [← ha] at q
  have e : tSy T n p (23, r) K nu tb = (tNx T n p, K, nu ++ [v], tb, 0) := by
    rw [hv.2.2]
    simp [tSy, q]
  exact ⟨tb, tGs re e, hc⟩
theorem tSrc_ok {T : Nat → Int} {n p r : Nat} {K : List (Nat × Nat)} {w o v : Int} {a b d se gr ru : Nat} (h : tG T n p ((27, r) :: K) [w, o] [a, b, d, se, gr, ru]) (hv : tNo T n p v) (h1 : v < (a : Int)) : tG T n (tNx T n p) K [] [a, b, d, se + 1, gr, ru] ∧ tRow T n 9 se w ∧ tRow T n 10 se o ∧ tRow T n 11 se v := by
  obtain ⟨tb, re, hc⟩ := h
  simp only [tCt, List.cons.injEq, and_true] at hc
  obtain ⟨c1, c2, c3, c4, c5, c6⟩ := hc
  have q := tAg_ok hv h1
  rw [← c1] at q
  have e : tSy T n p (27, r) K [w, o] tb = (tNx T n p, K, [], (tb.1, tb.2.1, tb.2.2.1, tb.2.2.2.1 ++ [(w, o, v)], tb.2.2.2.2), 0) := by
    rw [hv.2.2]
    simp [tSy, q]
  have re' := tGs re e
  refine ⟨⟨_, re', ?_⟩, ⟨_, re', ?_⟩, ⟨_, re', ?_⟩, ⟨_, re', ?_⟩⟩
  · simp [tCt, c1, c2, c3, c4, c5, c6]
  · simp [tCol, ← c4]
  · simp [tCol, ← c4]
  · simp [tCol, ← c4]
theorem tAgent_ok {T : Nat → Int} {n p r : Nat} {K : List (Nat × Nat)} {x1 x2 x3 x4 : Int} {a b d se gr ru : Nat} (h : tG T n p ((26, r) :: K) [x1, x2, x3, x4] [a, b, d, se, gr, ru]) : tG T n p K [] [a + 1, b, d, se, gr, ru] ∧ tRow T n 5 a x1 ∧ tRow T n 6 a x2 ∧ tRow T n 7 a x3 ∧ tRow T n 8 a x4 := by
  obtain ⟨tb, re, hc⟩ := h
  simp only [tCt, List.cons.injEq, and_true] at hc
  obtain ⟨c1, c2, c3, c4, c5, c6⟩ := hc
  have e : tSy T n p (26, r) K [x1, x2, x3, x4] tb = (p, K, [], (tb.1 ++ [(x1, x2, x3, x4)], tb.2), 0) := by
    simp [tSy]
  have re' := tGs re e
  refine ⟨⟨_, re', ?_⟩, ⟨_, re', ?_⟩, ⟨_, re', ?_⟩, ⟨_, re', ?_⟩, ⟨_, re', ?_⟩⟩
  · simp [tCt, c1, c2, c3, c4, c5, c6]
  · simp [tCol, ← c1]
  · simp [tCol, ← c1]
  · simp [tCol, ← c1]
  · simp [tCol, ← c1]
end
