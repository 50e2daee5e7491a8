noncomputable section
/-! ===== lines and grudges told twice; where a statement begins ===== -/
/-- none of the first i lines (grudges) is of these two -/
def tNl (T : Nat → Int) (n i : Nat) (a b : Int) : Prop := ∀ j, j < i → ∀ x y, tRow T n 0 j x → tRow T n 1 j y → ¬ (x = a ∧ y = b)
def tNg (T : Nat → Int) (n i : Nat) (a b : Int) : Prop := ∀ j, j < i → ∀ x y, tRow T n 2 j x → tRow T n 3 j y → ¬ (x = a ∧ y = b) ∧ ¬ (x = b ∧ y = a)
theorem tL2_new {T : Nat → Int} {n p r : Nat} {K : List (Nat × Nat)} {x v : Int} {a b d se gr ru : Nat} (h : tG T n p ((24, r) :: K) [x] [a, b, d, se, gr, ru]) (hv : tNo T n p v) (h1 : v < (a : Int)) (hne : x ≠ v) (hd : tNl T n b x v) : tG T n (tNx T n p) K [] [a, b + 1, d, se, gr, ru] ∧ tRow T n 0 b x ∧ tRow T n 1 b v := by
  obtain ⟨tb, re, hc⟩ := h
  simp only [tCt, List.cons.injEq, and_true] at hc
  obtain ⟨c1, c2, c3, c4, c5, c6⟩ := hc
  have q := tAg_ok hv h1
  rw [← c1] at q
  have hh : tHl tb.2.1 x v = false := by
    cases e : tHl tb.2.1 x v with
    | false => rfl
    | true =>
      exfalso
      obtain ⟨w, hw, hw2⟩ := List.any_eq_true.mp e
      simp only [Bool.and_eq_true, decide_eq_true_eq] at hw2
      obtain ⟨j, hj⟩ := List.getElem?_of_mem hw
      have hl := (List.getElem?_eq_some_iff.mp hj).1
      exact hd j (by omega) w.1 w.2 ⟨_, re, by simp [tCol, hj]⟩ ⟨_, re, by simp [tCol, hj]⟩ hw2
  have e : tSy T n p (24, r) K [x] tb = (tNx T n p, K, [], (tb.1, tb.2.1 ++ [(x, v)], tb.2.2), 0) := by
    rw [hv.2.2] at hh hne ⊢
    simp [tSy, q, hh, hne]
  have re' := tGs re e
  refine ⟨⟨_, re', ?_⟩, ⟨_, re', ?_⟩, ⟨_, re', ?_⟩⟩
  · simp [tCt, c1, c2, c3, c4, c5, c6]
  · simp [tCol, ← c2]
  · simp [tCol, ← c2]
theorem tL2_same {T : Nat → Int} {n p r : Nat} {K : List (Nat × Nat)} {v : Int} {a b d se gr ru : Nat} (h : tG T n p ((24, r) :: K) [v] [a, b, d, se, gr, ru]) (hv : tNo T n p v) (h1 : v < (a : Int)) : tF T n 4 p := by
  obtain ⟨tb, re, hc⟩ := h
  simp only [tCt, List.cons.injEq, and_true] at hc
  have q := tAg_ok hv h1
  rw [← hc.1] at q
  have e : tSy T n p (24, r) K [v] tb = (p, K, [v], tb, 4) := by
    have hw := hv.2.2
    simp [tSy, q, ← hw]
  exact tF_of (by decide) (tGs re e)
theorem tCol_at {T : Nat → Int} {n id j : Nat} {c : tCf} {v w : Int} (re : tRe T n (tI T n) c) (h : tRow T n id j v) (hc : tCol id c.2.2.2.1 j = some w) : w = v := tRow_uniq ⟨c, re, hc⟩ h
theorem tL2_again {T : Nat → Int} {n p r j : Nat} {K : List (Nat × Nat)} {x v : Int} {a b d se gr ru : Nat} (h : tG T n p ((24, r) :: K) [x] [a, b, d, se, gr, ru]) (hv : tNo T n p v) (h1 : v < (a : Int)) (hj : j < b) (r0 : tRow T n 0 j x) (r1 : tRow T n 1 j v) : tF T n 4 p := by
  obtain ⟨tb, re, hc⟩ := h
  simp only [tCt, List.cons.injEq, and_true] at hc
  have q := tAg_ok hv h1
  rw [← hc.1] at q
  have hl : j < tb.2.1.length := by omega
  have e0 : tb.2.1[j]? = some tb.2.1[j] := List.getElem?_eq_getElem hl
  have q0 := tCol_at (w := tb.2.1[j].1) re r0 (by simp [tCol, e0])
  have q1 := tCol_at (w := tb.2.1[j].2) re r1 (by simp [tCol, e0])
  have hh : tHl tb.2.1 x v = true := List.any_eq_true.mpr ⟨tb.2.1[j], List.getElem_mem hl, by simp [q0, q1]⟩
  have e : tSy T n p (24, r) K [x] tb = (p, K, [x], tb, 4) := by
    rw [hv.2.2] at hh
    simp [tSy, q, hh]
  exact tF_of (by decide) (tGs re e)
theorem tG2_new {T : Nat → Int} {n p r : Nat} {K : List (Nat × Nat)} {x v : Int} {a b d se gr ru : Nat} (h : tG T n p ((25, r) :: K) [x] [a, b, d, se, gr, ru]) (hv : tNo T n p v) (h1 : v < (a : Int)) (hne : x ≠ v) (hd : tNg T n gr x v) : tG T n (tNx T n p) K [] [a, b, d, se, gr + 1, ru] ∧ tRow T n 2 gr x ∧ tRow T n 3 gr v := by
  obtain ⟨tb, re, hc⟩ := h
  simp only [tCt, List.cons.injEq, and_true] at hc
  obtain ⟨c1, c2, c3, c4, c5, c6⟩ := hc
  have q := tAg_ok hv h1
  rw [← c1] at q
  have hh : tHg tb.2.2.2.2.1 x v = false := by
    cases e : tHg tb.2.2.2.2.1 x v with
    | false => rfl
    | true =>
      exfalso
      obtain ⟨w, hw, hw2⟩ := List.any_eq_true.mp e
      simp only [Bool.or_eq_true, Bool.and_eq_true, decide_eq_true_eq] at hw2
      obtain ⟨j, hj⟩ := List.getElem?_of_mem hw
      have hl := (List.getElem?_eq_some_iff.mp hj).1
      obtain ⟨n1, n2⟩ := hd j (by omega) w.1 w.2 ⟨_, re, by simp [tCol, hj]⟩ ⟨_, re, by simp [tCol, hj]⟩
      rcases hw2 with hw2 | hw2
      · exact n1 hw2
      · exact n2 hw2
  have e : tSy T n p (25, r) K [x] tb = (tNx T n p, K, [], (tb.1, tb.2.1, tb.2.2.1, tb.2.2.2.1, tb.2.2.2.2.1 ++ [(x, v)], tb.2.2.2.2.2), 0) := by
    rw [hv.2.2] at hh hne ⊢
    simp [tSy, q, hh, hne]
  have re' := tGs re e
  refine ⟨⟨_, re', ?_⟩, ⟨_, re', ?_⟩, ⟨_, re', ?_⟩⟩
  · simp [tCt, c1, c2, c3, c4, c5, c6]
  · simp [tCol, ← c5]
  · simp [tCol, ← c5]
theorem tG2_same {T : Nat → Int} {n p r : Nat} {K : List (Nat × Nat)} {v : Int} {a b d se gr ru : Nat} (h : tG T n p ((25, r) :: K) [v] [a, b, d, se, gr, ru]) (hv : tNo T n p v) (h1 : v < (a : Int)) : tF T n 4 p := by
  obtain ⟨tb, re, hc⟩ := h
  simp only [tCt, List.cons.injEq, and_true] at hc
  have q := tAg_ok hv h1
  rw [← hc.1] at q
  have e : tSy T n p (25, r) K [v] tb = (p, K, [v], tb, 4) := by
    have hw := hv.2.2
    simp [tSy, q, ← hw]
  exact tF_of (by decide) (tGs re e)
theorem tG2_again {T : Nat → Int} {n p r j : Nat} {K : List (Nat × Nat)} {x v y z : Int} {a b d se gr ru : Nat} (h : tG T n p ((25, r) :: K) [x] [a, b, d, se, gr, ru]) (hv : tNo T n p v) (h1 : v < (a : Int)) (hj : j < gr) (r0 : tRow T n 2 j y) (r1 : tRow T n 3 j z) (hyz : (y = x ∧ z = v) ∨ (y = v ∧ z = x)) : tF T n 4 p := by
  obtain ⟨tb, re, hc⟩ := h
  simp only [tCt, List.cons.injEq, and_true] at hc
  have q := tAg_ok hv h1
  rw [← hc.1] at q
  have hl : j < tb.2.2.2.2.1.length := by omega
  have e0 : tb.2.2.2.2.1[j]? = some tb.2.2.2.2.1[j] := List.getElem?_eq_getElem hl
  have q0 := tCol_at (w := tb.2.2.2.2.1[j].1) re r0 (by simp [tCol, e0])
  have q1 := tCol_at (w := tb.2.2.2.2.1[j].2) re r1 (by simp [tCol, e0])
  have hh : tHg tb.2.2.2.2.1 x v = true := List.any_eq_true.mpr ⟨tb.2.2.2.2.1[j], List.getElem_mem hl, by
    rcases hyz with hyz | hyz
    · simp [q0, q1, hyz.1, hyz.2]
    · simp [q0, q1, hyz.1, hyz.2]⟩
  have e : tSy T n p (25, r) K [x] tb = (p, K, [x], tb, 4) := by
    rw [hv.2.2] at hh
    simp [tSy, q, hh]
  exact tF_of (by decide) (tGs re e)
/-! ### where a statement begins -/
theorem tKd_none {T : Nat → Int} {n p : Nat} (h : ∀ k, k < 5 → tW T n p k = false) : tKd T n p = none := by
  simp [tKd, h 0 (by decide), h 1 (by decide), h 2 (by decide), h 3 (by decide), h 4 (by decide)]
theorem tKd_some {T : Nat → Int} {n p k : Nat} (hk : k < 5) (h : tW T n p k = true) : tKd T n p = some k := by
  have ne : ∀ j, j < 5 → j ≠ k → tW T n p j = false := fun j hj hjk => tW_ne (by omega) (by omega) (Ne.symm hjk) h
  rcases (by omega : k = 0 ∨ k = 1 ∨ k = 2 ∨ k = 3 ∨ k = 4) with rfl | rfl | rfl | rfl | rfl
  · simp [tKd, h]
  · simp [tKd, h, ne 0]
  · simp [tKd, h, ne 0, ne 1]
  · simp [tKd, h, ne 0, ne 1, ne 2]
  · simp [tKd, h, ne 0, ne 1, ne 2, ne 3]
theorem tP_end {T : Nat → Int} {n p r : Nat} {K : List (Nat × Nat)} {nu : List Int} {ct : List Nat} (h : tG T n p ((20, r) :: K) nu ct) (h0 : (tK T n p).1 = 0) : tG T n p K nu ct := by
  obtain ⟨tb, re, hc⟩ := h
  exact ⟨tb, tGs re (by simp [tSy, tPg, h0]), hc⟩
theorem tP_kind {T : Nat → Int} {n p r k : Nat} {K : List (Nat × Nat)} {nu : List Int} {a : Nat} {ct : List Nat} (hk : k < 5) (h : tG T n p ((20, r) :: K) nu (a :: ct)) (hw : tW T n p k = true) : (a < 8 → tG T n (tNx T n p) ((22, 0) :: (22, 0) :: (22, 1) :: (26, 0) :: (21, 0) :: (20, 0) :: K) [(k : Int)] (a :: ct)) ∧ (8 ≤ a → tF T n 2 p) := by
  obtain ⟨tb, re, hc⟩ := h
  have ha : tb.1.length = a := by injection hc
  have h1 := tW_kind hw
  refine ⟨fun hl => ⟨tb, tGs re ?_, hc⟩, fun hl => tF_of (by decide) (tGs (c := (p, K, nu, tb, 2)) re ?_)⟩
  · simp [tSy, tPg, h1, tKd_some hk hw, ha, Nat.not_le.mpr hl]
  · simp [tSy, tPg, h1, tKd_some hk hw, ha, hl]
theorem tWk {T : Nat → Int} {n p w : Nat} (hw : 5 ≤ w) (hw2 : w < 20) (h : tW T n p w = true) : tKd T n p = none := tKd_none (fun k hk => tW_ne hw2 (by omega) (by omega) h)
theorem tP_line {T : Nat → Int} {n p r : Nat} {K : List (Nat × Nat)} {nu : List Int} {a b d se gr ru : Nat} (h : tG T n p ((20, r) :: K) nu [a, b, d, se, gr, ru]) (hw : tW T n p 5 = true) : (b < 16 → tG T n (tNx T n p) ((23, 0) :: (24, 0) :: (28, 0) :: (21, 0) :: (20, 0) :: K) [] [a, b, d, se, gr, ru]) ∧ (16 ≤ b → tF T n 2 p) := by
  obtain ⟨tb, re, hc⟩ := h
  have hc' := hc
  simp only [tCt, List.cons.injEq, and_true] at hc'
  have h1 := tW_kind hw
  refine ⟨fun hl => ⟨tb, tGs re ?_, hc⟩, fun hl => tF_of (by decide) (tGs (c := (p, K, nu, tb, 2)) re ?_)⟩
  · simp [tSy, tPg, h1, tWk (by decide) (by decide) hw, hw, hc'.2.1, Nat.not_le.mpr hl]
  · simp [tSy, tPg, h1, tWk (by decide) (by decide) hw, hw, hc'.2.1, hl]
theorem tP_secret {T : Nat → Int} {n p r : Nat} {K : List (Nat × Nat)} {nu : List Int} {a b d se gr ru : Nat} (h : tG T n p ((20, r) :: K) nu [a, b, d, se, gr, ru]) (hw : tW T n p 6 = true) : (se < 6 → tG T n (tNx T n p) ((22, 3) :: (22, 0) :: (27, 0) :: (21, 0) :: (20, 0) :: K) [] [a, b, d, se, gr, ru]) ∧ (6 ≤ se → tF T n 2 p) := by
  obtain ⟨tb, re, hc⟩ := h
  have hc' := hc
  simp only [tCt, List.cons.injEq, and_true] at hc'
  have h1 := tW_kind hw
  have n5 := tW_ne (b := 5) (by decide) (by decide) (by decide) hw
  refine ⟨fun hl => ⟨tb, tGs re ?_, hc⟩, fun hl => tF_of (by decide) (tGs (c := (p, K, nu, tb, 2)) re ?_)⟩
  · simp [tSy, tPg, h1, tWk (by decide) (by decide) hw, hw, n5, hc'.2.2.2.1, Nat.not_le.mpr hl]
  · simp [tSy, tPg, h1, tWk (by decide) (by decide) hw, hw, n5, hc'.2.2.2.1, hl]
theorem tP_grudge {T : Nat → Int} {n p r : Nat} {K : List (Nat × Nat)} {nu : List Int} {a b d se gr ru : Nat} (h : tG T n p ((20, r) :: K) nu [a, b, d, se, gr, ru]) (hw : tW T n p 7 = true) : (gr < 8 → tG T n (tNx T n p) ((23, 0) :: (25, 0) :: (21, 0) :: (20, 0) :: K) [] [a, b, d, se, gr, ru]) ∧ (8 ≤ gr → tF T n 2 p) := by
  obtain ⟨tb, re, hc⟩ := h
  have hc' := hc
  simp only [tCt, List.cons.injEq, and_true] at hc'
  have h1 := tW_kind hw
  have n5 := tW_ne (b := 5) (by decide) (by decide) (by decide) hw
  have n6 := tW_ne (b := 6) (by decide) (by decide) (by decide) hw
  refine ⟨fun hl => ⟨tb, tGs re ?_, hc⟩, fun hl => tF_of (by decide) (tGs (c := (p, K, nu, tb, 2)) re ?_)⟩
  · simp [tSy, tPg, h1, tWk (by decide) (by decide) hw, hw, n5, n6, hc'.2.2.2.2.1, Nat.not_le.mpr hl]
  · simp [tSy, tPg, h1, tWk (by decide) (by decide) hw, hw, n5, n6, hc'.2.2.2.2.1, hl]
theorem tP_tells {T : Nat → Int} {n p r : Nat} {K : List (Nat × Nat)} {nu : List Int} {a b d se gr ru : Nat} (h : tG T n p ((20, r) :: K) nu [a, b, d, se, gr, ru]) (hw : tW T n p 8 = true) : (ru = 0 → tG T n (tNx T n p) ((0, 0) :: (21, 0) :: (20, 0) :: K) nu [a, b, d, se, gr, 1]) ∧ (ru ≠ 0 → tF T n 5 p) := by
  obtain ⟨tb, re, hc⟩ := h
  have hc' := hc
  simp only [tCt, List.cons.injEq, and_true] at hc'
  obtain ⟨c1, c2, c3, c4, c5, c6⟩ := hc'
  have h1 := tW_kind hw
  have n5 := tW_ne (b := 5) (by decide) (by decide) (by decide) hw
  have n6 := tW_ne (b := 6) (by decide) (by decide) (by decide) hw
  have n7 := tW_ne (b := 7) (by decide) (by decide) (by decide) hw
  refine ⟨fun hl => ?_, fun hl => ?_⟩
  · have hb : tb.2.2.2.2.2 = false := by
      cases e : tb.2.2.2.2.2 with
      | false => rfl
      | true => rw [e, if_pos rfl] at c6; omega
    refine ⟨(tb.1, tb.2.1, tb.2.2.1, tb.2.2.2.1, tb.2.2.2.2.1, true), tGs re ?_, by simp [tCt, c1, c2, c3, c4, c5]⟩
    simp [tSy, tPg, h1, tWk (by decide) (by decide) hw, hw, n5, n6, n7, hb]
  · have hb : tb.2.2.2.2.2 = true := by
      cases e : tb.2.2.2.2.2 with
      | true => rfl
      | false => rw [e, if_neg (by decide)] at c6; omega
    refine tF_of (by decide) (tGs (c := (p, K, nu, tb, 5)) re ?_)
    simp [tSy, tPg, h1, tWk (by decide) (by decide) hw, hw, n5, n6, n7, hb]
theorem tP_none {T : Nat → Int} {n p r : Nat} {K : List (Nat × Nat)} {nu : List Int} {ct : List Nat} (h : tG T n p ((20, r) :: K) nu ct) (h0 : (tK T n p).1 ≠ 0) (hw : ∀ k, k < 9 → tW T n p k = false) : tF T n 1 p := by
  obtain ⟨tb, re, hc⟩ := h
  refine tF_of (by decide) (tGs (c := (p, K, nu, tb, 1)) re ?_)
  simp [tSy, tPg, h0, tKd_none (fun k hk => hw k (by omega)), hw 5, hw 6, hw 7, hw 8]
end
