noncomputable section
/-! ===== words, signs, ways: the rules by which one statement follows from others ===== -/
section RU
variable {L : Nat} {sc : Nat → Int32}
theorem q_p0 {p e t : Int} (h : gQ1 L sc [3] [p, e, t]) : (tK (gT L sc) (gN L sc) p.toNat).1 = t.toNat := by
  rw [h.2.2.2]
theorem q_p1 {p e t : Int} {k : Nat} (h : gQ1 L sc [3] [p, e, t]) (hk : t ≠ (k : Int)) : (tK (gT L sc) (gN L sc) p.toNat).1 ≠ k := by
  rw [h.2.2.2]
  have := h.2.2.1
  simp only
  omega
theorem q_p6 {p e t : Int} (h : gQ1 L sc [3] [p, e, t]) (hk : e ≤ p + 4) : (tK (gT L sc) (gN L sc) p.toNat).2 - p.toNat ≤ 4 := by
  rw [h.2.2.2]
  have := h.1
  have := h.2.1
  simp only
  omega
theorem q_p7 {p e t : Int} (h : gQ1 L sc [3] [p, e, t]) (hk : p + 5 ≤ e) : 4 < (tK (gT L sc) (gN L sc) p.toNat).2 - p.toNat := by
  rw [h.2.2.2]
  have := h.1
  have := h.2.1
  simp only
  omega
theorem q_word {s e : Int} {w b : Nat} (h : gQ1 L sc [3] [s, e, 1]) (hl : e = s + ((tWd w).length : Int)) (hb : ∀ i : Nat, i < (tWd w).length → gQ1 L sc [1, b] [s + i, ((tWd w).getD i 0 : Nat)]) (hc : ∀ i : Nat, i < (tWd w).length → (tWd w).getD i 0 < 128) : gQ1 L sc [6, w] [s] := by
  refine ⟨h.1, tW_iff.mpr ⟨?_, fun i hi => ?_⟩⟩
  · rw [h.2.2.2]
    have := h.1
    have q : e.toNat = s.toNat + (tWd w).length := by omega
    rw [q]
    rfl
  · have h0 := h.1
    have q := hb i hi
    have hr := gT_rng L sc (s + i).toNat
    have := (gB_low (w := b) hr.1 hr.2 (by omega) (by have := hc i hi; omega)).mp q.2
    rw [show s.toNat + i = (s + i).toNat by omega]
    exact this
theorem q_noword0 {s e t : Int} {w : Nat} (h : gQ1 L sc [3] [s, e, t]) (ht : t ≠ 1) : gQ1 L sc [7, w] [s] := by
  refine ⟨h.1, ?_⟩
  cases q : tW (gT L sc) (gN L sc) s.toNat w with
  | false => rfl
  | true =>
    have q1 := tW_kind q
    exact absurd q1 (q_p1 (k := 1) h ht)
theorem q_noword1 {s e t : Int} {w : Nat} (h : gQ1 L sc [3] [s, e, t]) (hl : e ≠ s + ((tWd w).length : Int)) : gQ1 L sc [7, w] [s] := by
  refine ⟨h.1, ?_⟩
  cases q : tW (gT L sc) (gN L sc) s.toNat w with
  | false => rfl
  | true =>
    have q1 := (tW_iff.mp q).1
    rw [h.2.2.2] at q1
    injection q1 with _ q2
    have := h.1
    have := h.2.1
    omega
theorem q_noword2 {s y : Int} {w b i : Nat} (h : 0 ≤ s) (hi : i < (tWd w).length) (hc : (tWd w).getD i 0 < 128) (hb : gQ1 L sc [1, b] [s + i, y]) (hy : y ≠ ((tWd w).getD i 0 : Nat)) : gQ1 L sc [7, w] [s] := by
  refine ⟨h, ?_⟩
  cases q : tW (gT L sc) (gN L sc) s.toNat w with
  | false => rfl
  | true =>
    exfalso
    have q1 := (tW_iff.mp q).2 i hi
    rw [show s.toNat + i = (s + i).toNat by omega] at q1
    have hr := gT_rng L sc (s + i).toNat
    have := (gB_low (w := b) (v := ((tWd w).getD i 0 : Nat)) hr.1 hr.2 (by omega) (by omega)).mpr q1
    exact hy (hb.2.symm.trans this)
theorem q_sign {s e : Int} {c b : Nat} (h : gQ1 L sc [3] [s, e, 3]) (hc : c < 128) (hb : gQ1 L sc [1, b] [s, (c : Int)]) : gQ1 L sc [8, c] [s] := by
  refine ⟨h.1, tS_iff.mpr ⟨q_p0 h, ?_⟩⟩
  have hr := gT_rng L sc s.toNat
  exact (gB_low (w := b) hr.1 hr.2 (by omega) (by omega)).mp hb.2
theorem q_nosign0 {s e t : Int} {c : Nat} (h : gQ1 L sc [3] [s, e, t]) (ht : t ≠ 3) : gQ1 L sc [9, c] [s] := by
  refine ⟨h.1, ?_⟩
  cases q : tS (gT L sc) (gN L sc) s.toNat c with
  | false => rfl
  | true => exact absurd (tS_kind q) (q_p1 (k := 3) h ht)
theorem q_nosign1 {s y : Int} {c b : Nat} (hc : c < 128) (hb : gQ1 L sc [1, b] [s, y]) (hy : y ≠ (c : Int)) : gQ1 L sc [9, c] [s] := by
  refine ⟨hb.1, ?_⟩
  cases q : tS (gT L sc) (gN L sc) s.toNat c with
  | false => rfl
  | true =>
    exfalso
    have q1 := (tS_iff.mp q).2
    have hr := gT_rng L sc s.toNat
    exact hy (hb.2.symm.trans ((gB_low (w := b) (v := (c : Int)) hr.1 hr.2 (by omega) (by omega)).mpr q1))
/-- pairs as they are written -/
def tEn : List (Nat × Nat) → List Nat
  | [] => []
  | (a, b) :: t => a :: b :: tEn t
theorem tDe_en (t : List Nat) : ∀ l : List (Nat × Nat), tDe (tEn l ++ t) = l ++ tDe t
  | [] => rfl
  | (a, b) :: l => by
    simp only [tEn, List.cons_append, tDe]
    rw [tDe_en t l]
theorem tk_app {k : Nat} {ss X : List Nat} (hk : k ≤ ss.length) : (ss.take k ++ X).take k = ss.take k ∧ (ss.take k ++ X).drop k = X := by
  have hl : (ss.take k).length = k := by rw [List.length_take]; omega
  exact ⟨by rw [List.take_left' hl], by rw [List.drop_left' hl]⟩
theorem q_D0 {k : Nat} {ss : List Nat} {p : Int} (h : 0 ≤ p) (hk : ss.take k = ss.drop k) : gQ1 L sc (10 :: k :: ss) [p, p] := ⟨h, h, by rw [hk]; exact tD_rfl⟩
/-- a step of the machine -/
theorem q_D1 {k v d a b : Nat} {ss X : List Nat} {p0 p q : Int} {e : tEy} (hD : gQ1 L sc (10 :: k :: ss) [p0, p]) (hk : k ≤ ss.length) (hX : ss.drop k = a :: b :: X) (he : tEg v d = some e) (hy : e.1 = (a, b)) (hp : ∀ r ∈ e.2.1, tPr (gT L sc) (gN L sc) p.toNat r) (h0 : e.2.2.2.2 = 0) (hq : (e.2.2.1 = true ∧ gQ1 L sc [16] [p, q]) ∨ (e.2.2.1 = false ∧ q = p)) : gQ1 L sc (10 :: k :: (ss.take k ++ (tEn e.2.2.2.1 ++ X))) [p0, q] := by
  obtain ⟨h1, h2, h3⟩ := hD
  obtain ⟨t1, t2⟩ := tk_app (X := tEn e.2.2.2.1 ++ X) hk
  rw [hX] at h3
  have h4 := tD_step he hp h0 (by rw [hy]; exact h3)
  rcases hq with ⟨c, hq⟩ | ⟨c, rfl⟩
  · rw [c, if_pos rfl, hq.2.2] at h4
    refine ⟨h1, hq.2.1, ?_⟩
    rw [t1, t2, tDe_en]
    exact h4
  · rw [c, if_neg (by decide)] at h4
    refine ⟨h1, h2, ?_⟩
    rw [t1, t2, tDe_en]
    exact h4
theorem q_B1 {k v d a b : Nat} {ss X : List Nat} {p0 p : Int} {e : tEy} (hD : gQ1 L sc (10 :: k :: ss) [p0, p]) (hX : ss.drop k = a :: b :: X) (he : tEg v d = some e) (hy : e.1 = (a, b)) (hp : ∀ r ∈ e.2.1, tPr (gT L sc) (gN L sc) p.toNat r) (h0 : e.2.2.2.2 ≠ 0) (hc : e.2.2.1 = false) : gQ1 L sc (11 :: ss.take k) [p0, (e.2.2.2.2 : Int), p] := by
  obtain ⟨h1, h2, h3⟩ := hD
  rw [hX] at h3
  exact ⟨h1, Int.natCast_nonneg _, h2, tDB_step he hp h0 hc (by rw [hy]; exact h3)⟩
/-- a way behind a way -/
theorem q_D2 {k j : Nat} {ss rr X : List Nat} {p0 p q : Int} (hD : gQ1 L sc (10 :: k :: ss) [p0, p]) (hE : gQ1 L sc (10 :: j :: rr) [p, q]) (hk : k ≤ ss.length) (hev : tEn (tDe (rr.take j)) ++ X = ss.drop k) (hev2 : tEn (tDe (rr.drop j)) = rr.drop j) : gQ1 L sc (10 :: k :: (ss.take k ++ (rr.drop j ++ X))) [p0, q] := by
  obtain ⟨h1, h2, h3⟩ := hD
  obtain ⟨g1, g2, g3⟩ := hE
  rw [← hev, tDe_en] at h3
  have h4 := tD_trans h3 g3
  obtain ⟨t1, t2⟩ := tk_app (X := rr.drop j ++ X) hk
  refine ⟨h1, g2, ?_⟩
  rw [t1, t2]
  rw [← hev2, tDe_en]
  exact h4
theorem q_B2 {k : Nat} {ss rr X : List Nat} {p0 p cd pl : Int} (hD : gQ1 L sc (10 :: k :: ss) [p0, p]) (hE : gQ1 L sc (11 :: rr) [p, cd, pl]) (hev : tEn (tDe rr) ++ X = ss.drop k) : gQ1 L sc (11 :: ss.take k) [p0, cd, pl] := by
  obtain ⟨h1, h2, h3⟩ := hD
  obtain ⟨g1, g2, g3, g4⟩ := hE
  rw [← hev, tDe_en] at h3
  exact ⟨h1, g2, g3, tDB_trans h3 g4⟩
/-! ### from the start -/
theorem q_G0 {s n : Int} (h : gQ1 L sc [4] [0, s]) : gQ1 L sc [12, 0, 20, 0] [s, 0, 0, 0, 0, 0] := by
  refine ⟨h.2.1, Int.le_refl _, Int.le_refl _, Int.le_refl _, Int.le_refl _, Int.le_refl _, ?_⟩
  have := h.2.2
  rw [← this]
  exact tG_start
theorem q_GD {j ru : Nat} {st rr X : List Nat} {p q a b d se gr : Int} {nu : List Int} (h : gQ1 L sc (12 :: ru :: st) (p :: a :: b :: d :: se :: gr :: nu)) (hE : gQ1 L sc (10 :: j :: rr) [p, q]) (hev : tEn (tDe (rr.take j)) ++ X = st) (hev2 : tEn (tDe (rr.drop j)) = rr.drop j) : gQ1 L sc (12 :: ru :: (rr.drop j ++ X)) (q :: a :: b :: d :: se :: gr :: nu) := by
  obtain ⟨h1, h2, h3, h4, h5, h6, h7⟩ := h
  obtain ⟨g1, g2, g3⟩ := hE
  rw [← hev, tDe_en] at h7
  refine ⟨g2, h2, h3, h4, h5, h6, ?_⟩
  rw [← hev2, tDe_en]
  exact tG_D h7 g3
theorem q_GB {ru : Nat} {st rr X : List Nat} {p cd pl a b d se gr : Int} {nu : List Int} (h : gQ1 L sc (12 :: ru :: st) (p :: a :: b :: d :: se :: gr :: nu)) (hE : gQ1 L sc (11 :: rr) [p, cd, pl]) (hev : tEn (tDe rr) ++ X = st) : gQ1 L sc [13] [cd, pl] := by
  obtain ⟨h1, h2, h3, h4, h5, h6, h7⟩ := h
  obtain ⟨g1, g2, g3, g4⟩ := hE
  rw [← hev, tDe_en] at h7
  exact Or.inr ⟨cd.toNat, pl.toNat, (Int.toNat_of_nonneg g2).symm, (Int.toNat_of_nonneg g3).symm, tG_DB h7 g4⟩
theorem q_end0 {ru : Nat} {p a b d se gr : Int} {nu : List Int} (h : gQ1 L sc [12, ru] (p :: a :: b :: d :: se :: gr :: nu)) : gQ1 L sc [13] [0, -1] := by
  obtain ⟨h1, h2, h3, h4, h5, h6, tb, r, -⟩ := h
  exact Or.inl ⟨rfl, rfl, _, _, _, r⟩
theorem q_one {cd pl cd' pl' : Int} (h1 : gQ1 L sc [13] [cd, pl]) (h2 : gQ1 L sc [13] [cd', pl']) : cd = cd' ∧ pl = pl' := tEnd_uniq h1 h2
end RU
end
