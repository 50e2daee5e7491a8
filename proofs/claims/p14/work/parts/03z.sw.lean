noncomputable section
/-! ===== rules of statements ===== -/
section RU
variable {L : Nat} {sc : Nat → Int32}
theorem q_F {c : Nat} {p : Int} (h0 : 0 ≤ p) (h : tF (gT L sc) (gN L sc) c p.toNat) : gQ1 L sc [13] [(c : Int), p] := Or.inr ⟨c, p.toNat, rfl, (Int.toNat_of_nonneg h0).symm, h⟩
theorem q_to {p q : Int} (h : gQ1 L sc [16] [p, q]) : 0 ≤ q ∧ tNx (gT L sc) (gN L sc) p.toNat = q.toNat := ⟨h.2.1, h.2.2⟩
variable {ru : Nat} {K : List Nat} {p q a b d se gr v x : Int} {nu : List Int}
theorem q_Pend {e : Int} (h : gQ1 L sc (12 :: ru :: 20 :: 0 :: K) (p :: a :: b :: d :: se :: gr :: nu)) (ht : gQ1 L sc [3] [p, e, 0]) : gQ1 L sc (12 :: ru :: K) (p :: a :: b :: d :: se :: gr :: nu) := by
  obtain ⟨h1, h2, h3, h4, h5, h6, h7⟩ := h
  exact ⟨h1, h2, h3, h4, h5, h6, tP_end h7 (q_p0 ht)⟩
theorem q_Pkind {k : Nat} (hk : k < 5) (h : gQ1 L sc (12 :: ru :: 20 :: 0 :: K) (p :: a :: b :: d :: se :: gr :: nu)) (hw : gQ1 L sc [6, k] [p]) (hq : gQ1 L sc [16] [p, q]) (hl : a < 8) : gQ1 L sc (12 :: ru :: 22 :: 0 :: 22 :: 0 :: 22 :: 1 :: 26 :: 0 :: 21 :: 0 :: 20 :: 0 :: K) [q, a, b, d, se, gr, (k : Int)] := by
  obtain ⟨h1, h2, h3, h4, h5, h6, h7⟩ := h
  have := (tP_kind hk h7 hw.2).1 (by omega)
  rw [(q_to hq).2] at this
  exact ⟨(q_to hq).1, h2, h3, h4, h5, h6, this⟩
theorem q_Pkind_f {k : Nat} (hk : k < 5) (h : gQ1 L sc (12 :: ru :: 20 :: 0 :: K) (p :: a :: b :: d :: se :: gr :: nu)) (hw : gQ1 L sc [6, k] [p]) (hl : 8 ≤ a) : gQ1 L sc [13] [2, p] := by
  obtain ⟨h1, h2, h3, h4, h5, h6, h7⟩ := h
  exact q_F (c := 2) h1 ((tP_kind hk h7 hw.2).2 (by omega))
theorem q_Pline (h : gQ1 L sc (12 :: ru :: 20 :: 0 :: K) (p :: a :: b :: d :: se :: gr :: nu)) (hw : gQ1 L sc [6, 5] [p]) (hq : gQ1 L sc [16] [p, q]) (hl : b < 16) : gQ1 L sc (12 :: ru :: 23 :: 0 :: 24 :: 0 :: 28 :: 0 :: 21 :: 0 :: 20 :: 0 :: K) [q, a, b, d, se, gr] := by
  obtain ⟨h1, h2, h3, h4, h5, h6, h7⟩ := h
  have := (tP_line h7 hw.2).1 (by omega)
  rw [(q_to hq).2] at this
  exact ⟨(q_to hq).1, h2, h3, h4, h5, h6, this⟩
theorem q_Pline_f (h : gQ1 L sc (12 :: ru :: 20 :: 0 :: K) (p :: a :: b :: d :: se :: gr :: nu)) (hw : gQ1 L sc [6, 5] [p]) (hl : 16 ≤ b) : gQ1 L sc [13] [2, p] := by
  obtain ⟨h1, h2, h3, h4, h5, h6, h7⟩ := h
  exact q_F (c := 2) h1 ((tP_line h7 hw.2).2 (by omega))
theorem q_Psec (h : gQ1 L sc (12 :: ru :: 20 :: 0 :: K) (p :: a :: b :: d :: se :: gr :: nu)) (hw : gQ1 L sc [6, 6] [p]) (hq : gQ1 L sc [16] [p, q]) (hl : se < 6) : gQ1 L sc (12 :: ru :: 22 :: 3 :: 22 :: 0 :: 27 :: 0 :: 21 :: 0 :: 20 :: 0 :: K) [q, a, b, d, se, gr] := by
  obtain ⟨h1, h2, h3, h4, h5, h6, h7⟩ := h
  have := (tP_secret h7 hw.2).1 (by omega)
  rw [(q_to hq).2] at this
  exact ⟨(q_to hq).1, h2, h3, h4, h5, h6, this⟩
theorem q_Psec_f (h : gQ1 L sc (12 :: ru :: 20 :: 0 :: K) (p :: a :: b :: d :: se :: gr :: nu)) (hw : gQ1 L sc [6, 6] [p]) (hl : 6 ≤ se) : gQ1 L sc [13] [2, p] := by
  obtain ⟨h1, h2, h3, h4, h5, h6, h7⟩ := h
  exact q_F (c := 2) h1 ((tP_secret h7 hw.2).2 (by omega))
theorem q_Pgru (h : gQ1 L sc (12 :: ru :: 20 :: 0 :: K) (p :: a :: b :: d :: se :: gr :: nu)) (hw : gQ1 L sc [6, 7] [p]) (hq : gQ1 L sc [16] [p, q]) (hl : gr < 8) : gQ1 L sc (12 :: ru :: 23 :: 0 :: 25 :: 0 :: 21 :: 0 :: 20 :: 0 :: K) [q, a, b, d, se, gr] := by
  obtain ⟨h1, h2, h3, h4, h5, h6, h7⟩ := h
  have := (tP_grudge h7 hw.2).1 (by omega)
  rw [(q_to hq).2] at this
  exact ⟨(q_to hq).1, h2, h3, h4, h5, h6, this⟩
theorem q_Pgru_f (h : gQ1 L sc (12 :: ru :: 20 :: 0 :: K) (p :: a :: b :: d :: se :: gr :: nu)) (hw : gQ1 L sc [6, 7] [p]) (hl : 8 ≤ gr) : gQ1 L sc [13] [2, p] := by
  obtain ⟨h1, h2, h3, h4, h5, h6, h7⟩ := h
  exact q_F (c := 2) h1 ((tP_grudge h7 hw.2).2 (by omega))
theorem q_Ptel (h : gQ1 L sc (12 :: 0 :: 20 :: 0 :: K) (p :: a :: b :: d :: se :: gr :: nu)) (hw : gQ1 L sc [6, 8] [p]) (hq : gQ1 L sc [16] [p, q]) : gQ1 L sc (12 :: 1 :: 0 :: 0 :: 21 :: 0 :: 20 :: 0 :: K) (q :: a :: b :: d :: se :: gr :: nu) := by
  obtain ⟨h1, h2, h3, h4, h5, h6, h7⟩ := h
  have := (tP_tells h7 hw.2).1 rfl
  rw [(q_to hq).2] at this
  exact ⟨(q_to hq).1, h2, h3, h4, h5, h6, this⟩
theorem q_Ptel_f (h : gQ1 L sc (12 :: 1 :: 20 :: 0 :: K) (p :: a :: b :: d :: se :: gr :: nu)) (hw : gQ1 L sc [6, 8] [p]) : gQ1 L sc [13] [5, p] := by
  obtain ⟨h1, h2, h3, h4, h5, h6, h7⟩ := h
  exact q_F (c := 5) h1 ((tP_tells h7 hw.2).2 (by decide))
theorem q_Pnone {e t : Int} (h : gQ1 L sc (12 :: ru :: 20 :: 0 :: K) (p :: a :: b :: d :: se :: gr :: nu)) (ht : gQ1 L sc [3] [p, e, t]) (h0 : t ≠ 0) (hw : ∀ k : Nat, k < 9 → gQ1 L sc [7, k] [p]) : gQ1 L sc [13] [1, p] := by
  obtain ⟨h1, h2, h3, h4, h5, h6, h7⟩ := h
  exact q_F (c := 1) h1 (tP_none h7 (q_p1 (k := 0) ht h0) (fun k hk => (hw k hk).2))
/-! ### numbers -/
theorem q_Nbad {k r : Nat} {e t : Int} (hk : tIsN k = true) (h : gQ1 L sc (12 :: ru :: k :: r :: K) (p :: a :: b :: d :: se :: gr :: nu)) (ht : gQ1 L sc [3] [p, e, t]) (h0 : t ≠ 2) : gQ1 L sc [13] [1, p] := by
  obtain ⟨h1, h2, h3, h4, h5, h6, h7⟩ := h
  exact q_F (c := 1) h1 (tN_bad hk h7 (q_p1 (k := 2) ht h0))
theorem q_Nlong {k r : Nat} {e : Int} (hk : tIsN k = true) (h : gQ1 L sc (12 :: ru :: k :: r :: K) (p :: a :: b :: d :: se :: gr :: nu)) (ht : gQ1 L sc [3] [p, e, 2]) (h0 : p + 5 ≤ e) : gQ1 L sc [13] [2, p] := by
  obtain ⟨h1, h2, h3, h4, h5, h6, h7⟩ := h
  exact q_F (c := 2) h1 (tN_long hk h7 (q_p0 ht) (q_p7 ht h0))
theorem q_Aout {k r : Nat} (hk : tIsA k = true) (h : gQ1 L sc (12 :: ru :: k :: r :: K) (p :: a :: b :: d :: se :: gr :: nu)) (hv : gQ1 L sc [17] [p, v]) (h0 : a ≤ v) : gQ1 L sc [13] [3, p] := by
  obtain ⟨h1, h2, h3, h4, h5, h6, h7⟩ := h
  exact q_F (c := 3) h1 (tA_out hk h7 hv.2 (by omega))
theorem q_Nout {r : Nat} (h : gQ1 L sc (12 :: ru :: 22 :: r :: K) (p :: a :: b :: d :: se :: gr :: nu)) (hv : gQ1 L sc [17] [p, v]) (h0 : v < (tBd r).1 ∨ (tBd r).2 < v) : gQ1 L sc [13] [2, p] := by
  obtain ⟨h1, h2, h3, h4, h5, h6, h7⟩ := h
  exact q_F (c := 2) h1 (tN_out h7 hv.2 h0)
theorem q_Nok {r : Nat} (h : gQ1 L sc (12 :: ru :: 22 :: r :: K) (p :: a :: b :: d :: se :: gr :: nu)) (hv : gQ1 L sc [17] [p, v]) (h0 : (tBd r).1 ≤ v) (h8 : v ≤ (tBd r).2) (hq : gQ1 L sc [16] [p, q]) : gQ1 L sc (12 :: ru :: K) (q :: a :: b :: d :: se :: gr :: (nu ++ [v])) := by
  obtain ⟨h1, h2, h3, h4, h5, h6, h7⟩ := h
  have := tN_ok h7 hv.2 h0 h8
  rw [(q_to hq).2] at this
  exact ⟨(q_to hq).1, h2, h3, h4, h5, h6, this⟩
theorem q_Dout {r : Nat} (h : gQ1 L sc (12 :: ru :: 28 :: r :: K) (p :: a :: b :: d :: se :: gr :: nu)) (hv : gQ1 L sc [17] [p, v]) (h0 : v < 1 ∨ 9 < v) : gQ1 L sc [13] [2, p] := by
  obtain ⟨h1, h2, h3, h4, h5, h6, h7⟩ := h
  exact q_F (c := 2) h1 (tD_out h7 hv.2 h0)
theorem q_sc {z : Int} (h : 0 ≤ z) : (z + 1).toNat = z.toNat + 1 := by omega
theorem q_Dok {r : Nat} (h : gQ1 L sc (12 :: ru :: 28 :: r :: K) (p :: a :: b :: d :: se :: gr :: nu)) (hv : gQ1 L sc [17] [p, v]) (h0 : 1 ≤ v) (h8 : v ≤ 9) (hq : gQ1 L sc [16] [p, q]) : gQ1 L sc (12 :: ru :: K) [q, a, b, d + 1, se, gr] ∧ gQ1 L sc [14, 4] [d, v] := by
  obtain ⟨h1, h2, h3, h4, h5, h6, h7⟩ := h
  obtain ⟨g1, g2⟩ := tD_ok h7 hv.2 h0 h8
  rw [(q_to hq).2] at g1
  exact ⟨⟨(q_to hq).1, h2, h3, by omega, h5, h6, by rw [q_sc h4]; exact g1⟩, h4, g2⟩
theorem q_Aok {r : Nat} (h : gQ1 L sc (12 :: ru :: 23 :: r :: K) (p :: a :: b :: d :: se :: gr :: nu)) (hv : gQ1 L sc [17] [p, v]) (h0 : v < a) (hq : gQ1 L sc [16] [p, q]) : gQ1 L sc (12 :: ru :: K) (q :: a :: b :: d :: se :: gr :: (nu ++ [v])) := by
  obtain ⟨h1, h2, h3, h4, h5, h6, h7⟩ := h
  have := tA_ok h7 hv.2 (by omega)
  rw [(q_to hq).2] at this
  exact ⟨(q_to hq).1, h2, h3, h4, h5, h6, this⟩
theorem q_Sok {r : Nat} {w o : Int} (h : gQ1 L sc (12 :: ru :: 27 :: r :: K) [p, a, b, d, se, gr, w, o]) (hv : gQ1 L sc [17] [p, v]) (h0 : v < a) (hq : gQ1 L sc [16] [p, q]) : gQ1 L sc (12 :: ru :: K) [q, a, b, d, se + 1, gr] ∧ gQ1 L sc [14, 9] [se, w] ∧ gQ1 L sc [14, 10] [se, o] ∧ gQ1 L sc [14, 11] [se, v] := by
  obtain ⟨h1, h2, h3, h4, h5, h6, h7⟩ := h
  obtain ⟨g1, g2, g3, g4⟩ := tSrc_ok h7 hv.2 (by omega)
  rw [(q_to hq).2] at g1
  exact ⟨⟨(q_to hq).1, h2, h3, h4, by omega, h6, by rw [q_sc h5]; exact g1⟩, ⟨h5, g2⟩, ⟨h5, g3⟩, h5, g4⟩
theorem q_Tok {r : Nat} {x1 x2 x3 x4 : Int} (h : gQ1 L sc (12 :: ru :: 26 :: r :: K) [p, a, b, d, se, gr, x1, x2, x3, x4]) : gQ1 L sc (12 :: ru :: K) [p, a + 1, b, d, se, gr] ∧ gQ1 L sc [14, 5] [a, x1] ∧ gQ1 L sc [14, 6] [a, x2] ∧ gQ1 L sc [14, 7] [a, x3] ∧ gQ1 L sc [14, 8] [a, x4] := by
  obtain ⟨h1, h2, h3, h4, h5, h6, h7⟩ := h
  obtain ⟨g1, g2, g3, g4, g5⟩ := tAgent_ok h7
  exact ⟨⟨h1, by omega, h3, h4, h5, h6, by rw [q_sc h2]; exact g1⟩, ⟨h2, g2⟩, ⟨h2, g3⟩, ⟨h2, g4⟩, h2, g5⟩
/-! ### twice -/
theorem q_Nl0 {y : Int} : gQ1 L sc [15, 0] [0, x, y] := ⟨Int.le_refl _, fun j hj => absurd hj (Nat.not_lt_zero _)⟩
theorem q_Ng0 {y : Int} : gQ1 L sc [15, 1] [0, x, y] := ⟨Int.le_refl _, fun j hj => absurd hj (Nat.not_lt_zero _)⟩
theorem q_Nl1 {i y u w : Int} (h : gQ1 L sc [15, 0] [i, x, y]) (r0 : gQ1 L sc [14, 0] [i, u]) (r1 : gQ1 L sc [14, 1] [i, w]) (hn : ¬ (u = x ∧ w = y)) : gQ1 L sc [15, 0] [i + 1, x, y] := by
  obtain ⟨h1, h2⟩ := h
  refine ⟨by omega, fun j hj x' y' q0 q1 => ?_⟩
  by_cases e : j = i.toNat
  · subst e
    rw [tRow_uniq q0 r0.2, tRow_uniq q1 r1.2]
    exact hn
  · exact h2 j (by omega) x' y' q0 q1
theorem q_Ng1 {i y u w : Int} (h : gQ1 L sc [15, 1] [i, x, y]) (r0 : gQ1 L sc [14, 2] [i, u]) (r1 : gQ1 L sc [14, 3] [i, w]) (hn : ¬ (u = x ∧ w = y)) (hm : ¬ (u = y ∧ w = x)) : gQ1 L sc [15, 1] [i + 1, x, y] := by
  obtain ⟨h1, h2⟩ := h
  refine ⟨by omega, fun j hj x' y' q0 q1 => ?_⟩
  by_cases e : j = i.toNat
  · subst e
    rw [tRow_uniq q0 r0.2, tRow_uniq q1 r1.2]
    exact ⟨hn, hm⟩
  · exact h2 j (by omega) x' y' q0 q1
theorem q_L2 {r : Nat} (h : gQ1 L sc (12 :: ru :: 24 :: r :: K) [p, a, b, d, se, gr, x]) (hv : gQ1 L sc [17] [p, v]) (h0 : v < a) (hq : gQ1 L sc [16] [p, q]) (hne : x ≠ v) (hd : gQ1 L sc [15, 0] [b, x, v]) : gQ1 L sc (12 :: ru :: K) [q, a, b + 1, d, se, gr] ∧ gQ1 L sc [14, 0] [b, x] ∧ gQ1 L sc [14, 1] [b, v] := by
  obtain ⟨h1, h2, h3, h4, h5, h6, h7⟩ := h
  obtain ⟨g1, g2, g3⟩ := tL2_new h7 hv.2 (by omega) hne hd.2
  rw [(q_to hq).2] at g1
  exact ⟨⟨(q_to hq).1, h2, by omega, h4, h5, h6, by rw [q_sc h3]; exact g1⟩, ⟨h3, g2⟩, h3, g3⟩
theorem q_L2s {r : Nat} (h : gQ1 L sc (12 :: ru :: 24 :: r :: K) [p, a, b, d, se, gr, v]) (hv : gQ1 L sc [17] [p, v]) (h0 : v < a) : gQ1 L sc [13] [4, p] := by
  obtain ⟨h1, h2, h3, h4, h5, h6, h7⟩ := h
  exact q_F (c := 4) h1 (tL2_same h7 hv.2 (by omega))
theorem q_L2a {r : Nat} {i : Int} (h : gQ1 L sc (12 :: ru :: 24 :: r :: K) [p, a, b, d, se, gr, x]) (hv : gQ1 L sc [17] [p, v]) (h0 : v < a) (hi : i < b) (r0 : gQ1 L sc [14, 0] [i, x]) (r1 : gQ1 L sc [14, 1] [i, v]) : gQ1 L sc [13] [4, p] := by
  obtain ⟨h1, h2, h3, h4, h5, h6, h7⟩ := h
  have := r0.1
  exact q_F (c := 4) h1 (tL2_again h7 hv.2 (by omega) (j := i.toNat) (by omega) r0.2 r1.2)
theorem q_G2 {r : Nat} (h : gQ1 L sc (12 :: ru :: 25 :: r :: K) [p, a, b, d, se, gr, x]) (hv : gQ1 L sc [17] [p, v]) (h0 : v < a) (hq : gQ1 L sc [16] [p, q]) (hne : x ≠ v) (hd : gQ1 L sc [15, 1] [gr, x, v]) : gQ1 L sc (12 :: ru :: K) [q, a, b, d, se, gr + 1] ∧ gQ1 L sc [14, 2] [gr, x] ∧ gQ1 L sc [14, 3] [gr, v] := by
  obtain ⟨h1, h2, h3, h4, h5, h6, h7⟩ := h
  obtain ⟨g1, g2, g3⟩ := tG2_new h7 hv.2 (by omega) hne hd.2
  rw [(q_to hq).2] at g1
  exact ⟨⟨(q_to hq).1, h2, h3, h4, h5, by omega, by rw [q_sc h6]; exact g1⟩, ⟨h6, g2⟩, h6, g3⟩
theorem q_G2s {r : Nat} (h : gQ1 L sc (12 :: ru :: 25 :: r :: K) [p, a, b, d, se, gr, v]) (hv : gQ1 L sc [17] [p, v]) (h0 : v < a) : gQ1 L sc [13] [4, p] := by
  obtain ⟨h1, h2, h3, h4, h5, h6, h7⟩ := h
  exact q_F (c := 4) h1 (tG2_same h7 hv.2 (by omega))
theorem q_G2a {r : Nat} {i y z : Int} (h : gQ1 L sc (12 :: ru :: 25 :: r :: K) [p, a, b, d, se, gr, x]) (hv : gQ1 L sc [17] [p, v]) (h0 : v < a) (hi : i < gr) (r0 : gQ1 L sc [14, 2] [i, y]) (r1 : gQ1 L sc [14, 3] [i, z]) (hyz : (y = x ∧ z = v) ∨ (y = v ∧ z = x)) : gQ1 L sc [13] [4, p] := by
  obtain ⟨h1, h2, h3, h4, h5, h6, h7⟩ := h
  have := r0.1
  exact q_F (c := 4) h1 (tG2_again h7 hv.2 (by omega) (j := i.toNat) (by omega) r0.2 r1.2 hyz)
end RU
end
